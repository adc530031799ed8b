section LC
variable {g : GG} {p : Program} {l : Launch} {e : Env} {s : State} {m : MethodId} {below : List Frame} {meth : Method} {c : Code} {b L : Nat} {xs : Nat → Int32} {A : Nat → Prop} {o od : Nat} {ma ta sa xa ad : Nat → Nat} {H : Heap} {locs : List Loc} {ls : Array Slot}
set_option maxHeartbeats 4000000 in
set_option maxRecDepth 100000 in
theorem lc_proc (C : Cx g p m c code 4 s #[Value.ref b] RL) (E : lEnv A b L xs s) {k i : Int} (hk : 0 ≤ k ∧ k < 1000) (hi : 0 ≤ i ∧ i + 5 ≤ L) (hgo : lGo g p l e s m below meth c A b o od ma ta sa xa ad k i) (h : lStt g s A b o od ma ta sa xa ad k i H locs ls) : W p l e room_1 s m #[Value.ref b] below meth c H locs 98 71790 (lw_Z below #[Value.ref b] s) (F0 m 140 ls []) := by
  obtain ⟨q, a, M, T, U, X, P, D, hW, hS, hR, hl⟩ := h
  have hA : ∀ q, s.heap.size ≤ q → A q := E.2.2.2.1
  have hL := E.2.2.2.2
  have hMo : fOk M := gS_f hS (by omega)
  have hTo := hS.2.2.1.1
  have hUo := hS.2.2.1.2.1
  have hXo := hS.2.2.1.2.2.1
  have hPo := hS.2.2.1.2.2.2.1
  have hDo := hS.2.2.1.2.2.2.2.1
  have hNo := hS.2.2.1.2.2.2.2.2.1
  have hWo := hS.2.2.1.2.2.2.2.2.2
  have hr0 := rR_0 hR hS.1.1
  have hr1 := rR_1 hR
  have hs := s_proc  hS (by omega)
  refine r_aload_n C dL_law_140 hl 1 rfl ?_
  refine r_callW (rest := []) (r := some (.int (iI ((pAddProc (pCopy (P 0) (P 1))).1)))) (wr := pW g (q 2) (a 2) (P 2) ++ (pW g (q 3) (a 3) (P 3) ++ (pW g (q 4) (a 4) (P 4) ++ (pW g (q 5) (a 5) (P 5) ++ (pW g (q 6) (a 6) (P 6) ++ mF g od ad (m_refused D) (m_now D) (m_kept D) (m_states D) (m_place D) (m_startFact D) (m_node D) (m_fact D) (m_ahead D) (m_inside D) (m_entries D) (m_caller D) (m_following D) (m_firstCaller D) (m_lastCaller D) (m_callers D) (m_known D) (m_loose D) (m_stack D) (m_high D) (m_pairs D) (m_told D) (m_text D) (m_typed D) (m_orders D) (m_written D) (m_look D)))))) (ws2 := lWd g o od ma ta sa xa ad q a (fSetM (pAddProc (pCopy (P 0) (P 1))).1 M) (fSetT (pAddProc (pCopy (P 0) (P 1))).1 T) (fSetU (pAddProc (pCopy (P 0) (P 1))).1 U) (X) (upN P 1 ((pAddProc (pCopy (P 0) (P 1))).2)) D) (st1 := [.int (iI ((pAddProc (pCopy (P 0) (P 1))).1))]) C hl.1 hW hA (c_X4_proc l g o ma M ta T sa U xa X (q 0) (a 0) (P 0) (q 1) (a 1) (P 1)  hMo hTo hUo hXo (hPo 0 (by omega)) (hPo 1 (by omega)) hr0 hr1) v_L_13 rfl [0, 1, 2, 3, 4, 5, 6, 7, 8, 9, 10, 11, 12, 13, 14, 15, 16, 17, 18, 19, 20, 21, 22, 23, 24, 25, 26, 27, 28, 29, 30, 31, 32, 33] [34, 35, 36, 37, 38, 39, 40, 41, 42, 43, 44, 45, 46, 47, 48, 49, 50, 51, 52, 53, 54, 55, 56, 57, 58, 59, 60, 61, 62, 63, 64, 65, 66, 67, 68, 69, 70, 71, 72, 73, 74, 75, 76, 77, 78, 79, 80, 81, 82, 83, 84, 85, 86, 87, 88, 89, 90, 91, 92, 93, 94, 95, 96, 97] [64, 65, 66, 67, 68, 69, 70, 71, 72, 73, 74, 75, 76, 77, 78, 79, 80, 81, 82, 83, 84, 85, 86, 87, 88, 89, 90, 91, 92, 93, 94, 95, 96, 97, 0, 1, 2, 3, 4, 5, 6, 7, 8, 9, 10, 11, 12, 13, 14, 15, 16, 17, 18, 19, 20, 21, 22, 23, 24, 25, 26, 27, 28, 29, 30, 31, 32, 33, 34, 35, 36, 37, 38, 39, 40, 41, 42, 43, 44, 45, 46, 47, 48, 49, 50, 51, 52, 53, 54, 55, 56, 57, 58, 59, 60, 61, 62, 63] rfl rfl (by decide) (by decide) rfl rfl 0 rfl rfl rfl (by decide) ⟨Nat.le_of_ble_eq_true rfl, Nat.le_of_ble_eq_true rfl⟩ (Nat.le_of_ble_eq_true rfl) dL_law_141 rfl rfl (fun H locs hW => ?_)
  refine opq (mSet (nAddProc (m_now D)).1 (nAddProc (m_now D)).2 D) (fun K hK => ?_)
  refine r_aload_n C dL_law_144 hl 2 rfl ?_
  refine r_callW (rest := [.int (iI ((pAddProc (pCopy (P 0) (P 1))).1))]) (r := some (.int (iI ((nAddProc (m_now D)).1)))) (wr := cW g o ma ta sa xa q a (fSetM (pAddProc (pCopy (P 0) (P 1))).1 M) (fSetT (pAddProc (pCopy (P 0) (P 1))).1 T) (fSetU (pAddProc (pCopy (P 0) (P 1))).1 U) (X) (upN P 1 ((pAddProc (pCopy (P 0) (P 1))).2))) (ws2 := lWd g o od ma ta sa xa ad q a (fSetM (pAddProc (pCopy (P 0) (P 1))).1 M) (fSetT (pAddProc (pCopy (P 0) (P 1))).1 T) (fSetU (pAddProc (pCopy (P 0) (P 1))).1 U) (X) (upN P 1 ((pAddProc (pCopy (P 0) (P 1))).2)) K) (st1 := [.int (iI ((nAddProc (m_now D)).1)), .int (iI ((pAddProc (pCopy (P 0) (P 1))).1))]) C hl.1 hW hA (c_X5_procL l g od ad D  K hDo hNo hK) v_L_17 rfl [79, 80, 81, 82, 83, 84, 85, 86, 87, 88, 89, 90, 91, 92, 93, 94, 95, 96, 97] [0, 1, 2, 3, 4, 5, 6, 7, 8, 9, 10, 11, 12, 13, 14, 15, 16, 17, 18, 19, 20, 21, 22, 23, 24, 25, 26, 27, 28, 29, 30, 31, 32, 33, 34, 35, 36, 37, 38, 39, 40, 41, 42, 43, 44, 45, 46, 47, 48, 49, 50, 51, 52, 53, 54, 55, 56, 57, 58, 59, 60, 61, 62, 63, 64, 65, 66, 67, 68, 69, 70, 71, 72, 73, 74, 75, 76, 77, 78] [0, 1, 2, 3, 4, 5, 6, 7, 8, 9, 10, 11, 12, 13, 14, 15, 16, 17, 18, 19, 20, 21, 22, 23, 24, 25, 26, 27, 28, 29, 30, 31, 32, 33, 34, 35, 36, 37, 38, 39, 40, 41, 42, 43, 44, 45, 46, 47, 48, 49, 50, 51, 52, 53, 54, 55, 56, 57, 58, 59, 60, 61, 62, 63, 64, 65, 66, 67, 68, 69, 70, 71, 72, 73, 74, 75, 76, 77, 78, 79, 80, 81, 82, 83, 84, 85, 86, 87, 88, 89, 90, 91, 92, 93, 94, 95, 96, 97] rfl rfl (by decide) (by decide) rfl rfl 0 rfl rfl rfl (by decide) ⟨Nat.le_of_ble_eq_true rfl, Nat.le_of_ble_eq_true rfl⟩ (Nat.le_of_ble_eq_true rfl) dL_law_145 rfl rfl (fun H locs hW => ?_)
  rw [hs.1]
  refine lv_icmp_eq (tgt := 770) C.1.1 C.1.2.1 dL_law_148 (by decide) (fun _ => ?_) (fun hne => absurd rfl hne)
  have hg := hs.2
  have hK9 : mSet (nAddProc (m_now D)).1 (nAddProc (m_now D)).2 D = K := hK
  rw [hK9] at hg
  have hrn := fSetM_rn ((pAddProc (pCopy (P 0) (P 1))).1) M
  obtain ⟨q9, a9, hW9, hR9⟩ := l_set hW hR hS.1.1 hrn.1 hrn.2
  exact hgo _ _ _ ⟨q9, a9, _, _, _, _, _, _, hW9, hg, hR9, hl⟩
set_option maxHeartbeats 4000000 in
set_option maxRecDepth 100000 in
theorem lc_node (C : Cx g p m c code 4 s #[Value.ref b] RL) (E : lEnv A b L xs s) {k i : Int} (hk : 0 ≤ k ∧ k < 1000) (hi : 0 ≤ i ∧ i + 5 ≤ L) (hgo : lGo g p l e s m below meth c A b o od ma ta sa xa ad k i) (h : lStt g s A b o od ma ta sa xa ad k i H locs ls) : W p l e room_1 s m #[Value.ref b] below meth c H locs 98 71790 (lw_Z below #[Value.ref b] s) (F0 m 153 ls []) := by
  obtain ⟨q, a, M, T, U, X, P, D, hW, hS, hR, hl⟩ := h
  have hA : ∀ q, s.heap.size ≤ q → A q := E.2.2.2.1
  have hL := E.2.2.2.2
  have hMo : fOk M := gS_f hS (by omega)
  have hTo := hS.2.2.1.1
  have hUo := hS.2.2.1.2.1
  have hXo := hS.2.2.1.2.2.1
  have hPo := hS.2.2.1.2.2.2.1
  have hDo := hS.2.2.1.2.2.2.2.1
  have hNo := hS.2.2.1.2.2.2.2.2.1
  have hWo := hS.2.2.1.2.2.2.2.2.2
  have hr0 := rR_0 hR hS.1.1
  have hr1 := rR_1 hR
  have hz1 := zx_r xs (i + 1)
  have hs := s_node (p := zx xs (i + 1)) hS (by omega)
  generalize hzz1 : zx xs (i + 1) = z1 at hz1 hs
  refine r_aload_n C dL_law_153 hl 1 rfl ?_
  refine r_aload_n C dL_law_154 hl 0 rfl ?_
  refine r_iload_n C dL_law_155 hl 3 rfl ?_
  refine r_iconst (z := 1) C dL_law_156 rfl ?_
  refine r_iadd C dL_law_157 ?_
  refine l_sld C E hW (by omega) dL_law_158 ?_
  rw [hzz1]
  refine r_callW (rest := []) (r := some (.int (iI ((pAddNode (pCopy (P 0) (P 1)) z1).1)))) (wr := pW g (q 2) (a 2) (P 2) ++ (pW g (q 3) (a 3) (P 3) ++ (pW g (q 4) (a 4) (P 4) ++ (pW g (q 5) (a 5) (P 5) ++ (pW g (q 6) (a 6) (P 6) ++ mF g od ad (m_refused D) (m_now D) (m_kept D) (m_states D) (m_place D) (m_startFact D) (m_node D) (m_fact D) (m_ahead D) (m_inside D) (m_entries D) (m_caller D) (m_following D) (m_firstCaller D) (m_lastCaller D) (m_callers D) (m_known D) (m_loose D) (m_stack D) (m_high D) (m_pairs D) (m_told D) (m_text D) (m_typed D) (m_orders D) (m_written D) (m_look D)))))) (ws2 := lWd g o od ma ta sa xa ad q a (fSetM (pAddNode (pCopy (P 0) (P 1)) z1).1 M) (fSetT (pAddNode (pCopy (P 0) (P 1)) z1).1 T) (fSetU (pAddNode (pCopy (P 0) (P 1)) z1).1 U) (X) (upN P 1 ((pAddNode (pCopy (P 0) (P 1)) z1).2)) D) (st1 := [.int (iI ((pAddNode (pCopy (P 0) (P 1)) z1).1))]) C hl.1 hW hA (c_X4_node l g o ma M ta T sa U xa X (q 0) (a 0) (P 0) (q 1) (a 1) (P 1) z1 hMo hTo hUo hXo (hPo 0 (by omega)) (hPo 1 (by omega)) hr0 hr1 hz1) v_L_18 rfl [0, 1, 2, 3, 4, 5, 6, 7, 8, 9, 10, 11, 12, 13, 14, 15, 16, 17, 18, 19, 20, 21, 22, 23, 24, 25, 26, 27, 28, 29, 30, 31, 32, 33] [34, 35, 36, 37, 38, 39, 40, 41, 42, 43, 44, 45, 46, 47, 48, 49, 50, 51, 52, 53, 54, 55, 56, 57, 58, 59, 60, 61, 62, 63, 64, 65, 66, 67, 68, 69, 70, 71, 72, 73, 74, 75, 76, 77, 78, 79, 80, 81, 82, 83, 84, 85, 86, 87, 88, 89, 90, 91, 92, 93, 94, 95, 96, 97] [64, 65, 66, 67, 68, 69, 70, 71, 72, 73, 74, 75, 76, 77, 78, 79, 80, 81, 82, 83, 84, 85, 86, 87, 88, 89, 90, 91, 92, 93, 94, 95, 96, 97, 0, 1, 2, 3, 4, 5, 6, 7, 8, 9, 10, 11, 12, 13, 14, 15, 16, 17, 18, 19, 20, 21, 22, 23, 24, 25, 26, 27, 28, 29, 30, 31, 32, 33, 34, 35, 36, 37, 38, 39, 40, 41, 42, 43, 44, 45, 46, 47, 48, 49, 50, 51, 52, 53, 54, 55, 56, 57, 58, 59, 60, 61, 62, 63] rfl rfl (by decide) (by decide) rfl rfl 0 rfl rfl rfl (by decide) ⟨Nat.le_of_ble_eq_true rfl, Nat.le_of_ble_eq_true rfl⟩ (Nat.le_of_ble_eq_true rfl) dL_law_159 rfl rfl (fun H locs hW => ?_)
  refine opq (mSet (nAddAny (m_now D) z1).1 (nAddAny (m_now D) z1).2 D) (fun K hK => ?_)
  refine r_aload_n C dL_law_162 hl 2 rfl ?_
  refine r_aload_n C dL_law_163 hl 0 rfl ?_
  refine r_iload_n C dL_law_164 hl 3 rfl ?_
  refine r_iconst (z := 1) C dL_law_165 rfl ?_
  refine r_iadd C dL_law_166 ?_
  refine l_sld C E hW (by omega) dL_law_167 ?_
  rw [hzz1]
  refine r_callW (rest := [.int (iI ((pAddNode (pCopy (P 0) (P 1)) z1).1))]) (r := some (.int (iI ((nAddAny (m_now D) z1).1)))) (wr := cW g o ma ta sa xa q a (fSetM (pAddNode (pCopy (P 0) (P 1)) z1).1 M) (fSetT (pAddNode (pCopy (P 0) (P 1)) z1).1 T) (fSetU (pAddNode (pCopy (P 0) (P 1)) z1).1 U) (X) (upN P 1 ((pAddNode (pCopy (P 0) (P 1)) z1).2))) (ws2 := lWd g o od ma ta sa xa ad q a (fSetM (pAddNode (pCopy (P 0) (P 1)) z1).1 M) (fSetT (pAddNode (pCopy (P 0) (P 1)) z1).1 T) (fSetU (pAddNode (pCopy (P 0) (P 1)) z1).1 U) (X) (upN P 1 ((pAddNode (pCopy (P 0) (P 1)) z1).2)) K) (st1 := [.int (iI ((nAddAny (m_now D) z1).1)), .int (iI ((pAddNode (pCopy (P 0) (P 1)) z1).1))]) C hl.1 hW hA (c_X5_nodeL l g od ad D z1 K hDo hNo hz1 hK) v_L_22 rfl [79, 80, 81, 82, 83, 84, 85, 86, 87, 88, 89, 90, 91, 92, 93, 94, 95, 96, 97] [0, 1, 2, 3, 4, 5, 6, 7, 8, 9, 10, 11, 12, 13, 14, 15, 16, 17, 18, 19, 20, 21, 22, 23, 24, 25, 26, 27, 28, 29, 30, 31, 32, 33, 34, 35, 36, 37, 38, 39, 40, 41, 42, 43, 44, 45, 46, 47, 48, 49, 50, 51, 52, 53, 54, 55, 56, 57, 58, 59, 60, 61, 62, 63, 64, 65, 66, 67, 68, 69, 70, 71, 72, 73, 74, 75, 76, 77, 78] [0, 1, 2, 3, 4, 5, 6, 7, 8, 9, 10, 11, 12, 13, 14, 15, 16, 17, 18, 19, 20, 21, 22, 23, 24, 25, 26, 27, 28, 29, 30, 31, 32, 33, 34, 35, 36, 37, 38, 39, 40, 41, 42, 43, 44, 45, 46, 47, 48, 49, 50, 51, 52, 53, 54, 55, 56, 57, 58, 59, 60, 61, 62, 63, 64, 65, 66, 67, 68, 69, 70, 71, 72, 73, 74, 75, 76, 77, 78, 79, 80, 81, 82, 83, 84, 85, 86, 87, 88, 89, 90, 91, 92, 93, 94, 95, 96, 97] rfl rfl (by decide) (by decide) rfl rfl 0 rfl rfl rfl (by decide) ⟨Nat.le_of_ble_eq_true rfl, Nat.le_of_ble_eq_true rfl⟩ (Nat.le_of_ble_eq_true rfl) dL_law_168 rfl rfl (fun H locs hW => ?_)
  rw [hs.1]
  refine lv_icmp_eq (tgt := 770) C.1.1 C.1.2.1 dL_law_171 (by decide) (fun _ => ?_) (fun hne => absurd rfl hne)
  have hg := hs.2
  have hK9 : mSet (nAddAny (m_now D) z1).1 (nAddAny (m_now D) z1).2 D = K := hK
  rw [hK9] at hg
  have hrn := fSetM_rn ((pAddNode (pCopy (P 0) (P 1)) z1).1) M
  obtain ⟨q9, a9, hW9, hR9⟩ := l_set hW hR hS.1.1 hrn.1 hrn.2
  exact hgo _ _ _ ⟨q9, a9, _, _, _, _, _, _, hW9, hg, hR9, hl⟩
set_option maxHeartbeats 4000000 in
set_option maxRecDepth 100000 in
theorem lc_edge (C : Cx g p m c code 4 s #[Value.ref b] RL) (E : lEnv A b L xs s) {k i : Int} (hk : 0 ≤ k ∧ k < 1000) (hi : 0 ≤ i ∧ i + 5 ≤ L) (hgo : lGo g p l e s m below meth c A b o od ma ta sa xa ad k i) (h : lStt g s A b o od ma ta sa xa ad k i H locs ls) : W p l e room_1 s m #[Value.ref b] below meth c H locs 98 71790 (lw_Z below #[Value.ref b] s) (F0 m 176 ls []) := by
  obtain ⟨q, a, M, T, U, X, P, D, hW, hS, hR, hl⟩ := h
  have hA : ∀ q, s.heap.size ≤ q → A q := E.2.2.2.1
  have hL := E.2.2.2.2
  have hMo : fOk M := gS_f hS (by omega)
  have hTo := hS.2.2.1.1
  have hUo := hS.2.2.1.2.1
  have hXo := hS.2.2.1.2.2.1
  have hPo := hS.2.2.1.2.2.2.1
  have hDo := hS.2.2.1.2.2.2.2.1
  have hNo := hS.2.2.1.2.2.2.2.2.1
  have hWo := hS.2.2.1.2.2.2.2.2.2
  have hr0 := rR_0 hR hS.1.1
  have hr1 := rR_1 hR
  have hz1 := zx_r xs (i + 1)
  have hz2 := zx_r xs (i + 2)
  have hs := s_edge (n := zx xs (i + 1)) (m := zx xs (i + 2)) hS (by omega)
  generalize hzz1 : zx xs (i + 1) = z1 at hz1 hs
  generalize hzz2 : zx xs (i + 2) = z2 at hz2 hs
  refine r_aload_n C dL_law_176 hl 1 rfl ?_
  refine r_aload_n C dL_law_177 hl 0 rfl ?_
  refine r_iload_n C dL_law_178 hl 3 rfl ?_
  refine r_iconst (z := 1) C dL_law_179 rfl ?_
  refine r_iadd C dL_law_180 ?_
  refine l_sld C E hW (by omega) dL_law_181 ?_
  rw [hzz1]
  refine r_aload_n C dL_law_182 hl 0 rfl ?_
  refine r_iload_n C dL_law_183 hl 3 rfl ?_
  refine r_iconst (z := 2) C dL_law_184 rfl ?_
  refine r_iadd C dL_law_185 ?_
  refine l_sld C E hW (by omega) dL_law_186 ?_
  rw [hzz2]
  refine r_callW (rest := []) (r := some (.int (iI ((pAddPlain (pCopy (P 0) (P 1)) z1 z2).1)))) (wr := pW g (q 2) (a 2) (P 2) ++ (pW g (q 3) (a 3) (P 3) ++ (pW g (q 4) (a 4) (P 4) ++ (pW g (q 5) (a 5) (P 5) ++ (pW g (q 6) (a 6) (P 6) ++ mF g od ad (m_refused D) (m_now D) (m_kept D) (m_states D) (m_place D) (m_startFact D) (m_node D) (m_fact D) (m_ahead D) (m_inside D) (m_entries D) (m_caller D) (m_following D) (m_firstCaller D) (m_lastCaller D) (m_callers D) (m_known D) (m_loose D) (m_stack D) (m_high D) (m_pairs D) (m_told D) (m_text D) (m_typed D) (m_orders D) (m_written D) (m_look D)))))) (ws2 := lWd g o od ma ta sa xa ad q a (fSetM (pAddPlain (pCopy (P 0) (P 1)) z1 z2).1 M) (fSetT (pAddPlain (pCopy (P 0) (P 1)) z1 z2).1 T) (fSetU (pAddPlain (pCopy (P 0) (P 1)) z1 z2).1 U) (X) (upN P 1 ((pAddPlain (pCopy (P 0) (P 1)) z1 z2).2)) D) (st1 := [.int (iI ((pAddPlain (pCopy (P 0) (P 1)) z1 z2).1))]) C hl.1 hW hA (c_X4_edge l g o ma M ta T sa U xa X (q 0) (a 0) (P 0) (q 1) (a 1) (P 1) z1 z2 hMo hTo hUo hXo (hPo 0 (by omega)) (hPo 1 (by omega)) hr0 hr1 hz1 hz2) v_L_23 rfl [0, 1, 2, 3, 4, 5, 6, 7, 8, 9, 10, 11, 12, 13, 14, 15, 16, 17, 18, 19, 20, 21, 22, 23, 24, 25, 26, 27, 28, 29, 30, 31, 32, 33] [34, 35, 36, 37, 38, 39, 40, 41, 42, 43, 44, 45, 46, 47, 48, 49, 50, 51, 52, 53, 54, 55, 56, 57, 58, 59, 60, 61, 62, 63, 64, 65, 66, 67, 68, 69, 70, 71, 72, 73, 74, 75, 76, 77, 78, 79, 80, 81, 82, 83, 84, 85, 86, 87, 88, 89, 90, 91, 92, 93, 94, 95, 96, 97] [64, 65, 66, 67, 68, 69, 70, 71, 72, 73, 74, 75, 76, 77, 78, 79, 80, 81, 82, 83, 84, 85, 86, 87, 88, 89, 90, 91, 92, 93, 94, 95, 96, 97, 0, 1, 2, 3, 4, 5, 6, 7, 8, 9, 10, 11, 12, 13, 14, 15, 16, 17, 18, 19, 20, 21, 22, 23, 24, 25, 26, 27, 28, 29, 30, 31, 32, 33, 34, 35, 36, 37, 38, 39, 40, 41, 42, 43, 44, 45, 46, 47, 48, 49, 50, 51, 52, 53, 54, 55, 56, 57, 58, 59, 60, 61, 62, 63] rfl rfl (by decide) (by decide) rfl rfl 0 rfl rfl rfl (by decide) ⟨Nat.le_of_ble_eq_true rfl, Nat.le_of_ble_eq_true rfl⟩ (Nat.le_of_ble_eq_true rfl) dL_law_187 rfl rfl (fun H locs hW => ?_)
  refine opq (mSet (nAddEdge (m_now D) z1 z2 (-1)).1 (nAddEdge (m_now D) z1 z2 (-1)).2 D) (fun K hK => ?_)
  refine r_aload_n C dL_law_190 hl 2 rfl ?_
  refine r_aload_n C dL_law_191 hl 0 rfl ?_
  refine r_iload_n C dL_law_192 hl 3 rfl ?_
  refine r_iconst (z := 1) C dL_law_193 rfl ?_
  refine r_iadd C dL_law_194 ?_
  refine l_sld C E hW (by omega) dL_law_195 ?_
  rw [hzz1]
  refine r_aload_n C dL_law_196 hl 0 rfl ?_
  refine r_iload_n C dL_law_197 hl 3 rfl ?_
  refine r_iconst (z := 2) C dL_law_198 rfl ?_
  refine r_iadd C dL_law_199 ?_
  refine l_sld C E hW (by omega) dL_law_200 ?_
  rw [hzz2]
  refine r_callW (rest := [.int (iI ((pAddPlain (pCopy (P 0) (P 1)) z1 z2).1))]) (r := some (.int (iI ((nAddEdge (m_now D) z1 z2 (-1)).1)))) (wr := cW g o ma ta sa xa q a (fSetM (pAddPlain (pCopy (P 0) (P 1)) z1 z2).1 M) (fSetT (pAddPlain (pCopy (P 0) (P 1)) z1 z2).1 T) (fSetU (pAddPlain (pCopy (P 0) (P 1)) z1 z2).1 U) (X) (upN P 1 ((pAddPlain (pCopy (P 0) (P 1)) z1 z2).2))) (ws2 := lWd g o od ma ta sa xa ad q a (fSetM (pAddPlain (pCopy (P 0) (P 1)) z1 z2).1 M) (fSetT (pAddPlain (pCopy (P 0) (P 1)) z1 z2).1 T) (fSetU (pAddPlain (pCopy (P 0) (P 1)) z1 z2).1 U) (X) (upN P 1 ((pAddPlain (pCopy (P 0) (P 1)) z1 z2).2)) K) (st1 := [.int (iI ((nAddEdge (m_now D) z1 z2 (-1)).1)), .int (iI ((pAddPlain (pCopy (P 0) (P 1)) z1 z2).1))]) C hl.1 hW hA (c_X5_edgeL l g od ad D z1 z2 K hDo hNo hz1 hz2 hK) v_L_27 rfl [79, 80, 81, 82, 83, 84, 85, 86, 87, 88, 89, 90, 91, 92, 93, 94, 95, 96, 97] [0, 1, 2, 3, 4, 5, 6, 7, 8, 9, 10, 11, 12, 13, 14, 15, 16, 17, 18, 19, 20, 21, 22, 23, 24, 25, 26, 27, 28, 29, 30, 31, 32, 33, 34, 35, 36, 37, 38, 39, 40, 41, 42, 43, 44, 45, 46, 47, 48, 49, 50, 51, 52, 53, 54, 55, 56, 57, 58, 59, 60, 61, 62, 63, 64, 65, 66, 67, 68, 69, 70, 71, 72, 73, 74, 75, 76, 77, 78] [0, 1, 2, 3, 4, 5, 6, 7, 8, 9, 10, 11, 12, 13, 14, 15, 16, 17, 18, 19, 20, 21, 22, 23, 24, 25, 26, 27, 28, 29, 30, 31, 32, 33, 34, 35, 36, 37, 38, 39, 40, 41, 42, 43, 44, 45, 46, 47, 48, 49, 50, 51, 52, 53, 54, 55, 56, 57, 58, 59, 60, 61, 62, 63, 64, 65, 66, 67, 68, 69, 70, 71, 72, 73, 74, 75, 76, 77, 78, 79, 80, 81, 82, 83, 84, 85, 86, 87, 88, 89, 90, 91, 92, 93, 94, 95, 96, 97] rfl rfl (by decide) (by decide) rfl rfl 0 rfl rfl rfl (by decide) ⟨Nat.le_of_ble_eq_true rfl, Nat.le_of_ble_eq_true rfl⟩ (Nat.le_of_ble_eq_true rfl) dL_law_201 rfl rfl (fun H locs hW => ?_)
  rw [hs.1]
  refine lv_icmp_eq (tgt := 770) C.1.1 C.1.2.1 dL_law_204 (by decide) (fun _ => ?_) (fun hne => absurd rfl hne)
  have hg := hs.2
  have hK9 : mSet (nAddEdge (m_now D) z1 z2 (-1)).1 (nAddEdge (m_now D) z1 z2 (-1)).2 D = K := hK
  rw [hK9] at hg
  have hrn := fSetM_rn ((pAddPlain (pCopy (P 0) (P 1)) z1 z2).1) M
  obtain ⟨q9, a9, hW9, hR9⟩ := l_set hW hR hS.1.1 hrn.1 hrn.2
  exact hgo _ _ _ ⟨q9, a9, _, _, _, _, _, _, hW9, hg, hR9, hl⟩
set_option maxHeartbeats 4000000 in
set_option maxRecDepth 100000 in
theorem lc_call (C : Cx g p m c code 4 s #[Value.ref b] RL) (E : lEnv A b L xs s) {k i : Int} (hk : 0 ≤ k ∧ k < 1000) (hi : 0 ≤ i ∧ i + 5 ≤ L) (hgo : lGo g p l e s m below meth c A b o od ma ta sa xa ad k i) (h : lStt g s A b o od ma ta sa xa ad k i H locs ls) : W p l e room_1 s m #[Value.ref b] below meth c H locs 98 71790 (lw_Z below #[Value.ref b] s) (F0 m 209 ls []) := by
  obtain ⟨q, a, M, T, U, X, P, D, hW, hS, hR, hl⟩ := h
  have hA : ∀ q, s.heap.size ≤ q → A q := E.2.2.2.1
  have hL := E.2.2.2.2
  have hMo : fOk M := gS_f hS (by omega)
  have hTo := hS.2.2.1.1
  have hUo := hS.2.2.1.2.1
  have hXo := hS.2.2.1.2.2.1
  have hPo := hS.2.2.1.2.2.2.1
  have hDo := hS.2.2.1.2.2.2.2.1
  have hNo := hS.2.2.1.2.2.2.2.2.1
  have hWo := hS.2.2.1.2.2.2.2.2.2
  have hr0 := rR_0 hR hS.1.1
  have hr1 := rR_1 hR
  have hz1 := zx_r xs (i + 1)
  have hz2 := zx_r xs (i + 2)
  have hz3 := zx_r xs (i + 3)
  have hs := s_call (n := zx xs (i + 1)) (q := zx xs (i + 2)) (m := zx xs (i + 3)) hS (by omega)
  generalize hzz1 : zx xs (i + 1) = z1 at hz1 hs
  generalize hzz2 : zx xs (i + 2) = z2 at hz2 hs
  generalize hzz3 : zx xs (i + 3) = z3 at hz3 hs
  refine r_aload_n C dL_law_209 hl 1 rfl ?_
  refine r_aload_n C dL_law_210 hl 0 rfl ?_
  refine r_iload_n C dL_law_211 hl 3 rfl ?_
  refine r_iconst (z := 1) C dL_law_212 rfl ?_
  refine r_iadd C dL_law_213 ?_
  refine l_sld C E hW (by omega) dL_law_214 ?_
  rw [hzz1]
  refine r_aload_n C dL_law_215 hl 0 rfl ?_
  refine r_iload_n C dL_law_216 hl 3 rfl ?_
  refine r_iconst (z := 2) C dL_law_217 rfl ?_
  refine r_iadd C dL_law_218 ?_
  refine l_sld C E hW (by omega) dL_law_219 ?_
  rw [hzz2]
  refine r_aload_n C dL_law_220 hl 0 rfl ?_
  refine r_iload_n C dL_law_221 hl 3 rfl ?_
  refine r_iconst (z := 3) C dL_law_222 rfl ?_
  refine r_iadd C dL_law_223 ?_
  refine l_sld C E hW (by omega) dL_law_224 ?_
  rw [hzz3]
  refine r_callW (rest := []) (r := some (.int (iI ((pAddCall (pCopy (P 0) (P 1)) z1 z2 z3).1)))) (wr := pW g (q 2) (a 2) (P 2) ++ (pW g (q 3) (a 3) (P 3) ++ (pW g (q 4) (a 4) (P 4) ++ (pW g (q 5) (a 5) (P 5) ++ (pW g (q 6) (a 6) (P 6) ++ mF g od ad (m_refused D) (m_now D) (m_kept D) (m_states D) (m_place D) (m_startFact D) (m_node D) (m_fact D) (m_ahead D) (m_inside D) (m_entries D) (m_caller D) (m_following D) (m_firstCaller D) (m_lastCaller D) (m_callers D) (m_known D) (m_loose D) (m_stack D) (m_high D) (m_pairs D) (m_told D) (m_text D) (m_typed D) (m_orders D) (m_written D) (m_look D)))))) (ws2 := lWd g o od ma ta sa xa ad q a (fSetM (pAddCall (pCopy (P 0) (P 1)) z1 z2 z3).1 M) (fSetT (pAddCall (pCopy (P 0) (P 1)) z1 z2 z3).1 T) (fSetU (pAddCall (pCopy (P 0) (P 1)) z1 z2 z3).1 U) (X) (upN P 1 ((pAddCall (pCopy (P 0) (P 1)) z1 z2 z3).2)) D) (st1 := [.int (iI ((pAddCall (pCopy (P 0) (P 1)) z1 z2 z3).1))]) C hl.1 hW hA (c_X4_call l g o ma M ta T sa U xa X (q 0) (a 0) (P 0) (q 1) (a 1) (P 1) z1 z2 z3 hMo hTo hUo hXo (hPo 0 (by omega)) (hPo 1 (by omega)) hr0 hr1 hz1 hz2 hz3) v_L_28 rfl [0, 1, 2, 3, 4, 5, 6, 7, 8, 9, 10, 11, 12, 13, 14, 15, 16, 17, 18, 19, 20, 21, 22, 23, 24, 25, 26, 27, 28, 29, 30, 31, 32, 33] [34, 35, 36, 37, 38, 39, 40, 41, 42, 43, 44, 45, 46, 47, 48, 49, 50, 51, 52, 53, 54, 55, 56, 57, 58, 59, 60, 61, 62, 63, 64, 65, 66, 67, 68, 69, 70, 71, 72, 73, 74, 75, 76, 77, 78, 79, 80, 81, 82, 83, 84, 85, 86, 87, 88, 89, 90, 91, 92, 93, 94, 95, 96, 97] [64, 65, 66, 67, 68, 69, 70, 71, 72, 73, 74, 75, 76, 77, 78, 79, 80, 81, 82, 83, 84, 85, 86, 87, 88, 89, 90, 91, 92, 93, 94, 95, 96, 97, 0, 1, 2, 3, 4, 5, 6, 7, 8, 9, 10, 11, 12, 13, 14, 15, 16, 17, 18, 19, 20, 21, 22, 23, 24, 25, 26, 27, 28, 29, 30, 31, 32, 33, 34, 35, 36, 37, 38, 39, 40, 41, 42, 43, 44, 45, 46, 47, 48, 49, 50, 51, 52, 53, 54, 55, 56, 57, 58, 59, 60, 61, 62, 63] rfl rfl (by decide) (by decide) rfl rfl 0 rfl rfl rfl (by decide) ⟨Nat.le_of_ble_eq_true rfl, Nat.le_of_ble_eq_true rfl⟩ (Nat.le_of_ble_eq_true rfl) dL_law_225 rfl rfl (fun H locs hW => ?_)
  refine opq (mSet (nAddCall (m_now D) z1 z2 z3).1 (nAddCall (m_now D) z1 z2 z3).2 D) (fun K hK => ?_)
  refine r_aload_n C dL_law_228 hl 2 rfl ?_
  refine r_aload_n C dL_law_229 hl 0 rfl ?_
  refine r_iload_n C dL_law_230 hl 3 rfl ?_
  refine r_iconst (z := 1) C dL_law_231 rfl ?_
  refine r_iadd C dL_law_232 ?_
  refine l_sld C E hW (by omega) dL_law_233 ?_
  rw [hzz1]
  refine r_aload_n C dL_law_234 hl 0 rfl ?_
  refine r_iload_n C dL_law_235 hl 3 rfl ?_
  refine r_iconst (z := 2) C dL_law_236 rfl ?_
  refine r_iadd C dL_law_237 ?_
  refine l_sld C E hW (by omega) dL_law_238 ?_
  rw [hzz2]
  refine r_aload_n C dL_law_239 hl 0 rfl ?_
  refine r_iload_n C dL_law_240 hl 3 rfl ?_
  refine r_iconst (z := 3) C dL_law_241 rfl ?_
  refine r_iadd C dL_law_242 ?_
  refine l_sld C E hW (by omega) dL_law_243 ?_
  rw [hzz3]
  refine r_callW (rest := [.int (iI ((pAddCall (pCopy (P 0) (P 1)) z1 z2 z3).1))]) (r := some (.int (iI ((nAddCall (m_now D) z1 z2 z3).1)))) (wr := cW g o ma ta sa xa q a (fSetM (pAddCall (pCopy (P 0) (P 1)) z1 z2 z3).1 M) (fSetT (pAddCall (pCopy (P 0) (P 1)) z1 z2 z3).1 T) (fSetU (pAddCall (pCopy (P 0) (P 1)) z1 z2 z3).1 U) (X) (upN P 1 ((pAddCall (pCopy (P 0) (P 1)) z1 z2 z3).2))) (ws2 := lWd g o od ma ta sa xa ad q a (fSetM (pAddCall (pCopy (P 0) (P 1)) z1 z2 z3).1 M) (fSetT (pAddCall (pCopy (P 0) (P 1)) z1 z2 z3).1 T) (fSetU (pAddCall (pCopy (P 0) (P 1)) z1 z2 z3).1 U) (X) (upN P 1 ((pAddCall (pCopy (P 0) (P 1)) z1 z2 z3).2)) K) (st1 := [.int (iI ((nAddCall (m_now D) z1 z2 z3).1)), .int (iI ((pAddCall (pCopy (P 0) (P 1)) z1 z2 z3).1))]) C hl.1 hW hA (c_X5_callL l g od ad D z1 z2 z3 K hDo hNo hz1 hz2 hz3 hK) v_L_32 rfl [79, 80, 81, 82, 83, 84, 85, 86, 87, 88, 89, 90, 91, 92, 93, 94, 95, 96, 97] [0, 1, 2, 3, 4, 5, 6, 7, 8, 9, 10, 11, 12, 13, 14, 15, 16, 17, 18, 19, 20, 21, 22, 23, 24, 25, 26, 27, 28, 29, 30, 31, 32, 33, 34, 35, 36, 37, 38, 39, 40, 41, 42, 43, 44, 45, 46, 47, 48, 49, 50, 51, 52, 53, 54, 55, 56, 57, 58, 59, 60, 61, 62, 63, 64, 65, 66, 67, 68, 69, 70, 71, 72, 73, 74, 75, 76, 77, 78] [0, 1, 2, 3, 4, 5, 6, 7, 8, 9, 10, 11, 12, 13, 14, 15, 16, 17, 18, 19, 20, 21, 22, 23, 24, 25, 26, 27, 28, 29, 30, 31, 32, 33, 34, 35, 36, 37, 38, 39, 40, 41, 42, 43, 44, 45, 46, 47, 48, 49, 50, 51, 52, 53, 54, 55, 56, 57, 58, 59, 60, 61, 62, 63, 64, 65, 66, 67, 68, 69, 70, 71, 72, 73, 74, 75, 76, 77, 78, 79, 80, 81, 82, 83, 84, 85, 86, 87, 88, 89, 90, 91, 92, 93, 94, 95, 96, 97] rfl rfl (by decide) (by decide) rfl rfl 0 rfl rfl rfl (by decide) ⟨Nat.le_of_ble_eq_true rfl, Nat.le_of_ble_eq_true rfl⟩ (Nat.le_of_ble_eq_true rfl) dL_law_244 rfl rfl (fun H locs hW => ?_)
  rw [hs.1]
  refine lv_icmp_eq (tgt := 770) C.1.1 C.1.2.1 dL_law_247 (by decide) (fun _ => ?_) (fun hne => absurd rfl hne)
  have hg := hs.2
  have hK9 : mSet (nAddCall (m_now D) z1 z2 z3).1 (nAddCall (m_now D) z1 z2 z3).2 D = K := hK
  rw [hK9] at hg
  have hrn := fSetM_rn ((pAddCall (pCopy (P 0) (P 1)) z1 z2 z3).1) M
  obtain ⟨q9, a9, hW9, hR9⟩ := l_set hW hR hS.1.1 hrn.1 hrn.2
  exact hgo _ _ _ ⟨q9, a9, _, _, _, _, _, _, hW9, hg, hR9, hl⟩
set_option maxHeartbeats 4000000 in
set_option maxRecDepth 100000 in
theorem lc_flows (C : Cx g p m c code 4 s #[Value.ref b] RL) (E : lEnv A b L xs s) {k i : Int} (hk : 0 ≤ k ∧ k < 1000) (hi : 0 ≤ i ∧ i + 5 ≤ L) (hgo : lGo g p l e s m below meth c A b o od ma ta sa xa ad k i) (h : lStt g s A b o od ma ta sa xa ad k i H locs ls) : W p l e room_1 s m #[Value.ref b] below meth c H locs 98 71790 (lw_Z below #[Value.ref b] s) (F0 m 252 ls []) := by
  obtain ⟨q, a, M, T, U, X, P, D, hW, hS, hR, hl⟩ := h
  have hA : ∀ q, s.heap.size ≤ q → A q := E.2.2.2.1
  have hL := E.2.2.2.2
  have hMo : fOk M := gS_f hS (by omega)
  have hTo := hS.2.2.1.1
  have hUo := hS.2.2.1.2.1
  have hXo := hS.2.2.1.2.2.1
  have hPo := hS.2.2.1.2.2.2.1
  have hDo := hS.2.2.1.2.2.2.2.1
  have hNo := hS.2.2.1.2.2.2.2.2.1
  have hWo := hS.2.2.1.2.2.2.2.2.2
  have hr0 := rR_0 hR hS.1.1
  have hr1 := rR_1 hR
  have hz1 := zx_r xs (i + 1)
  have hz2 := zx_r xs (i + 2)
  have hz3 := zx_r xs (i + 3)
  have hz4 := zx_r xs (i + 4)
  have hs := s_flows (e := zx xs (i + 1)) (w := zx xs (i + 2)) (a := zx xs (i + 3)) (v := zx xs (i + 4)) hS (by omega)
  generalize hzz1 : zx xs (i + 1) = z1 at hz1 hs
  generalize hzz2 : zx xs (i + 2) = z2 at hz2 hs
  generalize hzz3 : zx xs (i + 3) = z3 at hz3 hs
  generalize hzz4 : zx xs (i + 4) = z4 at hz4 hs
  refine r_aload_n C dL_law_252 hl 1 rfl ?_
  refine r_aload_n C dL_law_253 hl 0 rfl ?_
  refine r_iload_n C dL_law_254 hl 3 rfl ?_
  refine r_iconst (z := 1) C dL_law_255 rfl ?_
  refine r_iadd C dL_law_256 ?_
  refine l_sld C E hW (by omega) dL_law_257 ?_
  rw [hzz1]
  refine r_aload_n C dL_law_258 hl 0 rfl ?_
  refine r_iload_n C dL_law_259 hl 3 rfl ?_
  refine r_iconst (z := 2) C dL_law_260 rfl ?_
  refine r_iadd C dL_law_261 ?_
  refine l_sld C E hW (by omega) dL_law_262 ?_
  rw [hzz2]
  refine r_aload_n C dL_law_263 hl 0 rfl ?_
  refine r_iload_n C dL_law_264 hl 3 rfl ?_
  refine r_iconst (z := 3) C dL_law_265 rfl ?_
  refine r_iadd C dL_law_266 ?_
  refine l_sld C E hW (by omega) dL_law_267 ?_
  rw [hzz3]
  refine r_aload_n C dL_law_268 hl 0 rfl ?_
  refine r_iload_n C dL_law_269 hl 3 rfl ?_
  refine r_iconst (z := 4) C dL_law_270 rfl ?_
  refine r_iadd C dL_law_271 ?_
  refine l_sld C E hW (by omega) dL_law_272 ?_
  rw [hzz4]
  refine r_callW (rest := []) (r := some (.int (iI ((pSetFlow (pCopy (P 0) (P 1)) z1 z2 z3 z4).1)))) (wr := pW g (q 2) (a 2) (P 2) ++ (pW g (q 3) (a 3) (P 3) ++ (pW g (q 4) (a 4) (P 4) ++ (pW g (q 5) (a 5) (P 5) ++ (pW g (q 6) (a 6) (P 6) ++ mF g od ad (m_refused D) (m_now D) (m_kept D) (m_states D) (m_place D) (m_startFact D) (m_node D) (m_fact D) (m_ahead D) (m_inside D) (m_entries D) (m_caller D) (m_following D) (m_firstCaller D) (m_lastCaller D) (m_callers D) (m_known D) (m_loose D) (m_stack D) (m_high D) (m_pairs D) (m_told D) (m_text D) (m_typed D) (m_orders D) (m_written D) (m_look D)))))) (ws2 := lWd g o od ma ta sa xa ad q a (fSetM (pSetFlow (pCopy (P 0) (P 1)) z1 z2 z3 z4).1 M) (fSetT (pSetFlow (pCopy (P 0) (P 1)) z1 z2 z3 z4).1 T) (fSetU (pSetFlow (pCopy (P 0) (P 1)) z1 z2 z3 z4).1 U) (X) (upN P 1 ((pSetFlow (pCopy (P 0) (P 1)) z1 z2 z3 z4).2)) D) (st1 := [.int (iI ((pSetFlow (pCopy (P 0) (P 1)) z1 z2 z3 z4).1))]) C hl.1 hW hA (c_X4_flows l g o ma M ta T sa U xa X (q 0) (a 0) (P 0) (q 1) (a 1) (P 1) z1 z2 z3 z4 hMo hTo hUo hXo (hPo 0 (by omega)) (hPo 1 (by omega)) hr0 hr1 hz1 hz2 hz3 hz4) v_L_33 rfl [0, 1, 2, 3, 4, 5, 6, 7, 8, 9, 10, 11, 12, 13, 14, 15, 16, 17, 18, 19, 20, 21, 22, 23, 24, 25, 26, 27, 28, 29, 30, 31, 32, 33] [34, 35, 36, 37, 38, 39, 40, 41, 42, 43, 44, 45, 46, 47, 48, 49, 50, 51, 52, 53, 54, 55, 56, 57, 58, 59, 60, 61, 62, 63, 64, 65, 66, 67, 68, 69, 70, 71, 72, 73, 74, 75, 76, 77, 78, 79, 80, 81, 82, 83, 84, 85, 86, 87, 88, 89, 90, 91, 92, 93, 94, 95, 96, 97] [64, 65, 66, 67, 68, 69, 70, 71, 72, 73, 74, 75, 76, 77, 78, 79, 80, 81, 82, 83, 84, 85, 86, 87, 88, 89, 90, 91, 92, 93, 94, 95, 96, 97, 0, 1, 2, 3, 4, 5, 6, 7, 8, 9, 10, 11, 12, 13, 14, 15, 16, 17, 18, 19, 20, 21, 22, 23, 24, 25, 26, 27, 28, 29, 30, 31, 32, 33, 34, 35, 36, 37, 38, 39, 40, 41, 42, 43, 44, 45, 46, 47, 48, 49, 50, 51, 52, 53, 54, 55, 56, 57, 58, 59, 60, 61, 62, 63] rfl rfl (by decide) (by decide) rfl rfl 0 rfl rfl rfl (by decide) ⟨Nat.le_of_ble_eq_true rfl, Nat.le_of_ble_eq_true rfl⟩ (Nat.le_of_ble_eq_true rfl) dL_law_273 rfl rfl (fun H locs hW => ?_)
  refine opq (mSet (nSetFlow (m_now D) z1 z2 z3 z4).1 (nSetFlow (m_now D) z1 z2 z3 z4).2 D) (fun K hK => ?_)
  refine r_aload_n C dL_law_276 hl 2 rfl ?_
  refine r_aload_n C dL_law_277 hl 0 rfl ?_
  refine r_iload_n C dL_law_278 hl 3 rfl ?_
  refine r_iconst (z := 1) C dL_law_279 rfl ?_
  refine r_iadd C dL_law_280 ?_
  refine l_sld C E hW (by omega) dL_law_281 ?_
  rw [hzz1]
  refine r_aload_n C dL_law_282 hl 0 rfl ?_
  refine r_iload_n C dL_law_283 hl 3 rfl ?_
  refine r_iconst (z := 2) C dL_law_284 rfl ?_
  refine r_iadd C dL_law_285 ?_
  refine l_sld C E hW (by omega) dL_law_286 ?_
  rw [hzz2]
  refine r_aload_n C dL_law_287 hl 0 rfl ?_
  refine r_iload_n C dL_law_288 hl 3 rfl ?_
  refine r_iconst (z := 3) C dL_law_289 rfl ?_
  refine r_iadd C dL_law_290 ?_
  refine l_sld C E hW (by omega) dL_law_291 ?_
  rw [hzz3]
  refine r_aload_n C dL_law_292 hl 0 rfl ?_
  refine r_iload_n C dL_law_293 hl 3 rfl ?_
  refine r_iconst (z := 4) C dL_law_294 rfl ?_
  refine r_iadd C dL_law_295 ?_
  refine l_sld C E hW (by omega) dL_law_296 ?_
  rw [hzz4]
  refine r_callW (rest := [.int (iI ((pSetFlow (pCopy (P 0) (P 1)) z1 z2 z3 z4).1))]) (r := some (.int (iI ((nSetFlow (m_now D) z1 z2 z3 z4).1)))) (wr := cW g o ma ta sa xa q a (fSetM (pSetFlow (pCopy (P 0) (P 1)) z1 z2 z3 z4).1 M) (fSetT (pSetFlow (pCopy (P 0) (P 1)) z1 z2 z3 z4).1 T) (fSetU (pSetFlow (pCopy (P 0) (P 1)) z1 z2 z3 z4).1 U) (X) (upN P 1 ((pSetFlow (pCopy (P 0) (P 1)) z1 z2 z3 z4).2))) (ws2 := lWd g o od ma ta sa xa ad q a (fSetM (pSetFlow (pCopy (P 0) (P 1)) z1 z2 z3 z4).1 M) (fSetT (pSetFlow (pCopy (P 0) (P 1)) z1 z2 z3 z4).1 T) (fSetU (pSetFlow (pCopy (P 0) (P 1)) z1 z2 z3 z4).1 U) (X) (upN P 1 ((pSetFlow (pCopy (P 0) (P 1)) z1 z2 z3 z4).2)) K) (st1 := [.int (iI ((nSetFlow (m_now D) z1 z2 z3 z4).1)), .int (iI ((pSetFlow (pCopy (P 0) (P 1)) z1 z2 z3 z4).1))]) C hl.1 hW hA (c_X5_flowsL l g od ad D z1 z2 z3 z4 K hDo hNo hz1 hz2 hz3 hz4 hK) v_L_37 rfl [79, 80, 81, 82, 83, 84, 85, 86, 87, 88, 89, 90, 91, 92, 93, 94, 95, 96, 97] [0, 1, 2, 3, 4, 5, 6, 7, 8, 9, 10, 11, 12, 13, 14, 15, 16, 17, 18, 19, 20, 21, 22, 23, 24, 25, 26, 27, 28, 29, 30, 31, 32, 33, 34, 35, 36, 37, 38, 39, 40, 41, 42, 43, 44, 45, 46, 47, 48, 49, 50, 51, 52, 53, 54, 55, 56, 57, 58, 59, 60, 61, 62, 63, 64, 65, 66, 67, 68, 69, 70, 71, 72, 73, 74, 75, 76, 77, 78] [0, 1, 2, 3, 4, 5, 6, 7, 8, 9, 10, 11, 12, 13, 14, 15, 16, 17, 18, 19, 20, 21, 22, 23, 24, 25, 26, 27, 28, 29, 30, 31, 32, 33, 34, 35, 36, 37, 38, 39, 40, 41, 42, 43, 44, 45, 46, 47, 48, 49, 50, 51, 52, 53, 54, 55, 56, 57, 58, 59, 60, 61, 62, 63, 64, 65, 66, 67, 68, 69, 70, 71, 72, 73, 74, 75, 76, 77, 78, 79, 80, 81, 82, 83, 84, 85, 86, 87, 88, 89, 90, 91, 92, 93, 94, 95, 96, 97] rfl rfl (by decide) (by decide) rfl rfl 0 rfl rfl rfl (by decide) ⟨Nat.le_of_ble_eq_true rfl, Nat.le_of_ble_eq_true rfl⟩ (Nat.le_of_ble_eq_true rfl) dL_law_297 rfl rfl (fun H locs hW => ?_)
  rw [hs.1]
  refine lv_icmp_eq (tgt := 770) C.1.1 C.1.2.1 dL_law_300 (by decide) (fun _ => ?_) (fun hne => absurd rfl hne)
  have hg := hs.2
  have hK9 : mSet (nSetFlow (m_now D) z1 z2 z3 z4).1 (nSetFlow (m_now D) z1 z2 z3 z4).2 D = K := hK
  rw [hK9] at hg
  have hrn := fSetM_rn ((pSetFlow (pCopy (P 0) (P 1)) z1 z2 z3 z4).1) M
  obtain ⟨q9, a9, hW9, hR9⟩ := l_set hW hR hS.1.1 hrn.1 hrn.2
  exact hgo _ _ _ ⟨q9, a9, _, _, _, _, _, _, hW9, hg, hR9, hl⟩
set_option maxHeartbeats 4000000 in
set_option maxRecDepth 100000 in
theorem lc_starts (C : Cx g p m c code 4 s #[Value.ref b] RL) (E : lEnv A b L xs s) {k i : Int} (hk : 0 ≤ k ∧ k < 1000) (hi : 0 ≤ i ∧ i + 5 ≤ L) (hgo : lGo g p l e s m below meth c A b o od ma ta sa xa ad k i) (h : lStt g s A b o od ma ta sa xa ad k i H locs ls) : W p l e room_1 s m #[Value.ref b] below meth c H locs 98 71790 (lw_Z below #[Value.ref b] s) (F0 m 305 ls []) := by
  obtain ⟨q, a, M, T, U, X, P, D, hW, hS, hR, hl⟩ := h
  have hA : ∀ q, s.heap.size ≤ q → A q := E.2.2.2.1
  have hL := E.2.2.2.2
  have hMo : fOk M := gS_f hS (by omega)
  have hTo := hS.2.2.1.1
  have hUo := hS.2.2.1.2.1
  have hXo := hS.2.2.1.2.2.1
  have hPo := hS.2.2.1.2.2.2.1
  have hDo := hS.2.2.1.2.2.2.2.1
  have hNo := hS.2.2.1.2.2.2.2.2.1
  have hWo := hS.2.2.1.2.2.2.2.2.2
  have hr0 := rR_0 hR hS.1.1
  have hr1 := rR_1 hR
  have hz1 := zx_r xs (i + 1)
  have hs := s_starts (v := zx xs (i + 1)) hS (by omega)
  generalize hzz1 : zx xs (i + 1) = z1 at hz1 hs
  refine r_aload_n C dL_law_305 hl 1 rfl ?_
  refine r_aload_n C dL_law_306 hl 0 rfl ?_
  refine r_iload_n C dL_law_307 hl 3 rfl ?_
  refine r_iconst (z := 1) C dL_law_308 rfl ?_
  refine r_iadd C dL_law_309 ?_
  refine l_sld C E hW (by omega) dL_law_310 ?_
  rw [hzz1]
  refine r_callW (rest := []) (r := some (.int (iI ((pSetStart (pCopy (P 0) (P 1)) z1).1)))) (wr := pW g (q 2) (a 2) (P 2) ++ (pW g (q 3) (a 3) (P 3) ++ (pW g (q 4) (a 4) (P 4) ++ (pW g (q 5) (a 5) (P 5) ++ (pW g (q 6) (a 6) (P 6) ++ mF g od ad (m_refused D) (m_now D) (m_kept D) (m_states D) (m_place D) (m_startFact D) (m_node D) (m_fact D) (m_ahead D) (m_inside D) (m_entries D) (m_caller D) (m_following D) (m_firstCaller D) (m_lastCaller D) (m_callers D) (m_known D) (m_loose D) (m_stack D) (m_high D) (m_pairs D) (m_told D) (m_text D) (m_typed D) (m_orders D) (m_written D) (m_look D)))))) (ws2 := lWd g o od ma ta sa xa ad q a (fSetM (pSetStart (pCopy (P 0) (P 1)) z1).1 M) (fSetT (pSetStart (pCopy (P 0) (P 1)) z1).1 T) (fSetU (pSetStart (pCopy (P 0) (P 1)) z1).1 U) (X) (upN P 1 ((pSetStart (pCopy (P 0) (P 1)) z1).2)) D) (st1 := [.int (iI ((pSetStart (pCopy (P 0) (P 1)) z1).1))]) C hl.1 hW hA (c_X4_starts l g o ma M ta T sa U xa X (q 0) (a 0) (P 0) (q 1) (a 1) (P 1) z1 hMo hTo hUo hXo (hPo 0 (by omega)) (hPo 1 (by omega)) hr0 hr1 hz1) v_L_38 rfl [0, 1, 2, 3, 4, 5, 6, 7, 8, 9, 10, 11, 12, 13, 14, 15, 16, 17, 18, 19, 20, 21, 22, 23, 24, 25, 26, 27, 28, 29, 30, 31, 32, 33] [34, 35, 36, 37, 38, 39, 40, 41, 42, 43, 44, 45, 46, 47, 48, 49, 50, 51, 52, 53, 54, 55, 56, 57, 58, 59, 60, 61, 62, 63, 64, 65, 66, 67, 68, 69, 70, 71, 72, 73, 74, 75, 76, 77, 78, 79, 80, 81, 82, 83, 84, 85, 86, 87, 88, 89, 90, 91, 92, 93, 94, 95, 96, 97] [64, 65, 66, 67, 68, 69, 70, 71, 72, 73, 74, 75, 76, 77, 78, 79, 80, 81, 82, 83, 84, 85, 86, 87, 88, 89, 90, 91, 92, 93, 94, 95, 96, 97, 0, 1, 2, 3, 4, 5, 6, 7, 8, 9, 10, 11, 12, 13, 14, 15, 16, 17, 18, 19, 20, 21, 22, 23, 24, 25, 26, 27, 28, 29, 30, 31, 32, 33, 34, 35, 36, 37, 38, 39, 40, 41, 42, 43, 44, 45, 46, 47, 48, 49, 50, 51, 52, 53, 54, 55, 56, 57, 58, 59, 60, 61, 62, 63] rfl rfl (by decide) (by decide) rfl rfl 0 rfl rfl rfl (by decide) ⟨Nat.le_of_ble_eq_true rfl, Nat.le_of_ble_eq_true rfl⟩ (Nat.le_of_ble_eq_true rfl) dL_law_311 rfl rfl (fun H locs hW => ?_)
  refine opq (mSet (nSetStart (m_now D) z1).1 (nSetStart (m_now D) z1).2 D) (fun K hK => ?_)
  refine r_aload_n C dL_law_314 hl 2 rfl ?_
  refine r_aload_n C dL_law_315 hl 0 rfl ?_
  refine r_iload_n C dL_law_316 hl 3 rfl ?_
  refine r_iconst (z := 1) C dL_law_317 rfl ?_
  refine r_iadd C dL_law_318 ?_
  refine l_sld C E hW (by omega) dL_law_319 ?_
  rw [hzz1]
  refine r_callW (rest := [.int (iI ((pSetStart (pCopy (P 0) (P 1)) z1).1))]) (r := some (.int (iI ((nSetStart (m_now D) z1).1)))) (wr := cW g o ma ta sa xa q a (fSetM (pSetStart (pCopy (P 0) (P 1)) z1).1 M) (fSetT (pSetStart (pCopy (P 0) (P 1)) z1).1 T) (fSetU (pSetStart (pCopy (P 0) (P 1)) z1).1 U) (X) (upN P 1 ((pSetStart (pCopy (P 0) (P 1)) z1).2))) (ws2 := lWd g o od ma ta sa xa ad q a (fSetM (pSetStart (pCopy (P 0) (P 1)) z1).1 M) (fSetT (pSetStart (pCopy (P 0) (P 1)) z1).1 T) (fSetU (pSetStart (pCopy (P 0) (P 1)) z1).1 U) (X) (upN P 1 ((pSetStart (pCopy (P 0) (P 1)) z1).2)) K) (st1 := [.int (iI ((nSetStart (m_now D) z1).1)), .int (iI ((pSetStart (pCopy (P 0) (P 1)) z1).1))]) C hl.1 hW hA (c_X5_startsL l g od ad D z1 K hDo hNo hz1 hK) v_L_41 rfl [79, 80, 81, 82, 83, 84, 85, 86, 87, 88, 89, 90, 91, 92, 93, 94, 95, 96, 97] [0, 1, 2, 3, 4, 5, 6, 7, 8, 9, 10, 11, 12, 13, 14, 15, 16, 17, 18, 19, 20, 21, 22, 23, 24, 25, 26, 27, 28, 29, 30, 31, 32, 33, 34, 35, 36, 37, 38, 39, 40, 41, 42, 43, 44, 45, 46, 47, 48, 49, 50, 51, 52, 53, 54, 55, 56, 57, 58, 59, 60, 61, 62, 63, 64, 65, 66, 67, 68, 69, 70, 71, 72, 73, 74, 75, 76, 77, 78] [0, 1, 2, 3, 4, 5, 6, 7, 8, 9, 10, 11, 12, 13, 14, 15, 16, 17, 18, 19, 20, 21, 22, 23, 24, 25, 26, 27, 28, 29, 30, 31, 32, 33, 34, 35, 36, 37, 38, 39, 40, 41, 42, 43, 44, 45, 46, 47, 48, 49, 50, 51, 52, 53, 54, 55, 56, 57, 58, 59, 60, 61, 62, 63, 64, 65, 66, 67, 68, 69, 70, 71, 72, 73, 74, 75, 76, 77, 78, 79, 80, 81, 82, 83, 84, 85, 86, 87, 88, 89, 90, 91, 92, 93, 94, 95, 96, 97] rfl rfl (by decide) (by decide) rfl rfl 0 rfl rfl rfl (by decide) ⟨Nat.le_of_ble_eq_true rfl, Nat.le_of_ble_eq_true rfl⟩ (Nat.le_of_ble_eq_true rfl) dL_law_320 rfl rfl (fun H locs hW => ?_)
  rw [hs.1]
  refine lv_icmp_eq (tgt := 770) C.1.1 C.1.2.1 dL_law_323 (by decide) (fun _ => ?_) (fun hne => absurd rfl hne)
  have hg := hs.2
  have hK9 : mSet (nSetStart (m_now D) z1).1 (nSetStart (m_now D) z1).2 D = K := hK
  rw [hK9] at hg
  have hrn := fSetM_rn ((pSetStart (pCopy (P 0) (P 1)) z1).1) M
  obtain ⟨q9, a9, hW9, hR9⟩ := l_set hW hR hS.1.1 hrn.1 hrn.2
  exact hgo _ _ _ ⟨q9, a9, _, _, _, _, _, _, hW9, hg, hR9, hl⟩
set_option maxHeartbeats 4000000 in
set_option maxRecDepth 100000 in
theorem lc_cuts (C : Cx g p m c code 4 s #[Value.ref b] RL) (E : lEnv A b L xs s) {k i : Int} (hk : 0 ≤ k ∧ k < 1000) (hi : 0 ≤ i ∧ i + 5 ≤ L) (hgo : lGo g p l e s m below meth c A b o od ma ta sa xa ad k i) (h : lStt g s A b o od ma ta sa xa ad k i H locs ls) : W p l e room_1 s m #[Value.ref b] below meth c H locs 98 71790 (lw_Z below #[Value.ref b] s) (F0 m 328 ls []) := by
  obtain ⟨q, a, M, T, U, X, P, D, hW, hS, hR, hl⟩ := h
  have hA : ∀ q, s.heap.size ≤ q → A q := E.2.2.2.1
  have hL := E.2.2.2.2
  have hMo : fOk M := gS_f hS (by omega)
  have hTo := hS.2.2.1.1
  have hUo := hS.2.2.1.2.1
  have hXo := hS.2.2.1.2.2.1
  have hPo := hS.2.2.1.2.2.2.1
  have hDo := hS.2.2.1.2.2.2.2.1
  have hNo := hS.2.2.1.2.2.2.2.2.1
  have hWo := hS.2.2.1.2.2.2.2.2.2
  have hr0 := rR_0 hR hS.1.1
  have hr1 := rR_1 hR
  have hz1 := zx_r xs (i + 1)
  have hs := s_cuts (e := zx xs (i + 1)) hS (by omega)
  generalize hzz1 : zx xs (i + 1) = z1 at hz1 hs
  refine r_aload_n C dL_law_328 hl 1 rfl ?_
  refine r_aload_n C dL_law_329 hl 0 rfl ?_
  refine r_iload_n C dL_law_330 hl 3 rfl ?_
  refine r_iconst (z := 1) C dL_law_331 rfl ?_
  refine r_iadd C dL_law_332 ?_
  refine l_sld C E hW (by omega) dL_law_333 ?_
  rw [hzz1]
  refine r_callW (rest := []) (r := some (.int (iI ((pCut (pCopy (P 0) (P 1)) z1).1)))) (wr := pW g (q 2) (a 2) (P 2) ++ (pW g (q 3) (a 3) (P 3) ++ (pW g (q 4) (a 4) (P 4) ++ (pW g (q 5) (a 5) (P 5) ++ (pW g (q 6) (a 6) (P 6) ++ mF g od ad (m_refused D) (m_now D) (m_kept D) (m_states D) (m_place D) (m_startFact D) (m_node D) (m_fact D) (m_ahead D) (m_inside D) (m_entries D) (m_caller D) (m_following D) (m_firstCaller D) (m_lastCaller D) (m_callers D) (m_known D) (m_loose D) (m_stack D) (m_high D) (m_pairs D) (m_told D) (m_text D) (m_typed D) (m_orders D) (m_written D) (m_look D)))))) (ws2 := lWd g o od ma ta sa xa ad q a (fSetM (pCut (pCopy (P 0) (P 1)) z1).1 M) (fSetT (pCut (pCopy (P 0) (P 1)) z1).1 T) (fSetU (pCut (pCopy (P 0) (P 1)) z1).1 U) (X) (upN P 1 ((pCut (pCopy (P 0) (P 1)) z1).2)) D) (st1 := [.int (iI ((pCut (pCopy (P 0) (P 1)) z1).1))]) C hl.1 hW hA (c_X4_cuts l g o ma M ta T sa U xa X (q 0) (a 0) (P 0) (q 1) (a 1) (P 1) z1 hMo hTo hUo hXo (hPo 0 (by omega)) (hPo 1 (by omega)) hr0 hr1 hz1) v_L_42 rfl [0, 1, 2, 3, 4, 5, 6, 7, 8, 9, 10, 11, 12, 13, 14, 15, 16, 17, 18, 19, 20, 21, 22, 23, 24, 25, 26, 27, 28, 29, 30, 31, 32, 33] [34, 35, 36, 37, 38, 39, 40, 41, 42, 43, 44, 45, 46, 47, 48, 49, 50, 51, 52, 53, 54, 55, 56, 57, 58, 59, 60, 61, 62, 63, 64, 65, 66, 67, 68, 69, 70, 71, 72, 73, 74, 75, 76, 77, 78, 79, 80, 81, 82, 83, 84, 85, 86, 87, 88, 89, 90, 91, 92, 93, 94, 95, 96, 97] [64, 65, 66, 67, 68, 69, 70, 71, 72, 73, 74, 75, 76, 77, 78, 79, 80, 81, 82, 83, 84, 85, 86, 87, 88, 89, 90, 91, 92, 93, 94, 95, 96, 97, 0, 1, 2, 3, 4, 5, 6, 7, 8, 9, 10, 11, 12, 13, 14, 15, 16, 17, 18, 19, 20, 21, 22, 23, 24, 25, 26, 27, 28, 29, 30, 31, 32, 33, 34, 35, 36, 37, 38, 39, 40, 41, 42, 43, 44, 45, 46, 47, 48, 49, 50, 51, 52, 53, 54, 55, 56, 57, 58, 59, 60, 61, 62, 63] rfl rfl (by decide) (by decide) rfl rfl 0 rfl rfl rfl (by decide) ⟨Nat.le_of_ble_eq_true rfl, Nat.le_of_ble_eq_true rfl⟩ (Nat.le_of_ble_eq_true rfl) dL_law_334 rfl rfl (fun H locs hW => ?_)
  refine opq (mSet (nCut (m_now D) z1).1 (nCut (m_now D) z1).2 D) (fun K hK => ?_)
  refine r_aload_n C dL_law_337 hl 2 rfl ?_
  refine r_aload_n C dL_law_338 hl 0 rfl ?_
  refine r_iload_n C dL_law_339 hl 3 rfl ?_
  refine r_iconst (z := 1) C dL_law_340 rfl ?_
  refine r_iadd C dL_law_341 ?_
  refine l_sld C E hW (by omega) dL_law_342 ?_
  rw [hzz1]
  refine r_callW (rest := [.int (iI ((pCut (pCopy (P 0) (P 1)) z1).1))]) (r := some (.int (iI ((nCut (m_now D) z1).1)))) (wr := cW g o ma ta sa xa q a (fSetM (pCut (pCopy (P 0) (P 1)) z1).1 M) (fSetT (pCut (pCopy (P 0) (P 1)) z1).1 T) (fSetU (pCut (pCopy (P 0) (P 1)) z1).1 U) (X) (upN P 1 ((pCut (pCopy (P 0) (P 1)) z1).2))) (ws2 := lWd g o od ma ta sa xa ad q a (fSetM (pCut (pCopy (P 0) (P 1)) z1).1 M) (fSetT (pCut (pCopy (P 0) (P 1)) z1).1 T) (fSetU (pCut (pCopy (P 0) (P 1)) z1).1 U) (X) (upN P 1 ((pCut (pCopy (P 0) (P 1)) z1).2)) K) (st1 := [.int (iI ((nCut (m_now D) z1).1)), .int (iI ((pCut (pCopy (P 0) (P 1)) z1).1))]) C hl.1 hW hA (c_X5_cutsL l g od ad D z1 K hDo hNo hz1 hK) v_L_45 rfl [79, 80, 81, 82, 83, 84, 85, 86, 87, 88, 89, 90, 91, 92, 93, 94, 95, 96, 97] [0, 1, 2, 3, 4, 5, 6, 7, 8, 9, 10, 11, 12, 13, 14, 15, 16, 17, 18, 19, 20, 21, 22, 23, 24, 25, 26, 27, 28, 29, 30, 31, 32, 33, 34, 35, 36, 37, 38, 39, 40, 41, 42, 43, 44, 45, 46, 47, 48, 49, 50, 51, 52, 53, 54, 55, 56, 57, 58, 59, 60, 61, 62, 63, 64, 65, 66, 67, 68, 69, 70, 71, 72, 73, 74, 75, 76, 77, 78] [0, 1, 2, 3, 4, 5, 6, 7, 8, 9, 10, 11, 12, 13, 14, 15, 16, 17, 18, 19, 20, 21, 22, 23, 24, 25, 26, 27, 28, 29, 30, 31, 32, 33, 34, 35, 36, 37, 38, 39, 40, 41, 42, 43, 44, 45, 46, 47, 48, 49, 50, 51, 52, 53, 54, 55, 56, 57, 58, 59, 60, 61, 62, 63, 64, 65, 66, 67, 68, 69, 70, 71, 72, 73, 74, 75, 76, 77, 78, 79, 80, 81, 82, 83, 84, 85, 86, 87, 88, 89, 90, 91, 92, 93, 94, 95, 96, 97] rfl rfl (by decide) (by decide) rfl rfl 0 rfl rfl rfl (by decide) ⟨Nat.le_of_ble_eq_true rfl, Nat.le_of_ble_eq_true rfl⟩ (Nat.le_of_ble_eq_true rfl) dL_law_343 rfl rfl (fun H locs hW => ?_)
  rw [hs.1]
  refine lv_icmp_eq (tgt := 770) C.1.1 C.1.2.1 dL_law_346 (by decide) (fun _ => ?_) (fun hne => absurd rfl hne)
  have hg := hs.2
  have hK9 : mSet (nCut (m_now D) z1).1 (nCut (m_now D) z1).2 D = K := hK
  rw [hK9] at hg
  have hrn := fSetM_rn ((pCut (pCopy (P 0) (P 1)) z1).1) M
  obtain ⟨q9, a9, hW9, hR9⟩ := l_set hW hR hS.1.1 hrn.1 hrn.2
  exact hgo _ _ _ ⟨q9, a9, _, _, _, _, _, _, hW9, hg, hR9, hl⟩
end LC

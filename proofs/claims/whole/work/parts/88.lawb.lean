section LC
variable {g : GG} {p : Program} {l : Launch} {e : Env} {s : State} {m : MethodId} {below : List Frame} {meth : Method} {c : Code} {b L : Nat} {xs : Nat → Int32} {A : Nat → Prop} {o od : Nat} {ma ta sa xa ad : Nat → Nat} {H : Heap} {locs : List Loc} {ls : Array Slot}
set_option maxHeartbeats 4000000 in
set_option maxRecDepth 100000 in
theorem lc_at (C : Cx g p m c code 4 s #[Value.ref b] RL) (E : lEnv A b L xs s) {k i : Int} (hk : 0 ≤ k ∧ k < 1000) (hi : 0 ≤ i ∧ i + 5 ≤ L) (hgo : lGo g p l e s m below meth c A b o od ma ta sa xa ad k i) (h : lStt g s A b o od ma ta sa xa ad k i H locs ls) : W p l e room_1 s m #[Value.ref b] below meth c H locs 98 71790 (lw_Z below #[Value.ref b] s) (F0 m 351 ls []) := by
  obtain ⟨q, a, M, T, U, X, P, D, hW, hS, hR, hl⟩ := h
  have hA : ∀ q, s.heap.size ≤ q → A q := E.2.2.2.1
  have hL := E.2.2.2.2
  have hMo : fOk M := gS_f hS (by omega)
  have hTo := hS.2.2.1.1
  have hUo := hS.2.2.1.2.1
  have hXo := hS.2.2.1.2.2.1
  have hPo := hS.2.2.1.2.2.2.1
  have hDo := hS.2.2.1.2.2.2.2.1
  have hNo := hS.2.2.1.2.2.2.2.2.1
  have hWo := hS.2.2.1.2.2.2.2.2.2
  have hr0 := rR_0 hR hS.1.1
  have hr1 := rR_1 hR
  have hz1 := zx_r xs (i + 1)
  have hz2 := zx_r xs (i + 2)
  have hs := s_at (n := zx xs (i + 1)) (w := zx xs (i + 2)) hS (by omega)
  generalize hzz1 : zx xs (i + 1) = z1 at hz1 hs
  generalize hzz2 : zx xs (i + 2) = z2 at hz2 hs
  refine r_aload_n C dL_law_351 hl 1 rfl ?_
  refine r_aload_n C dL_law_352 hl 0 rfl ?_
  refine r_iload_n C dL_law_353 hl 3 rfl ?_
  refine r_iconst (z := 1) C dL_law_354 rfl ?_
  refine r_iadd C dL_law_355 ?_
  refine l_sld C E hW (by omega) dL_law_356 ?_
  rw [hzz1]
  refine r_aload_n C dL_law_357 hl 0 rfl ?_
  refine r_iload_n C dL_law_358 hl 3 rfl ?_
  refine r_iconst (z := 2) C dL_law_359 rfl ?_
  refine r_iadd C dL_law_360 ?_
  refine l_sld C E hW (by omega) dL_law_361 ?_
  rw [hzz2]
  refine r_callW (rest := []) (r := some (.int (iI ((fAt (P 0) z1 z2 M).1)))) (wr := pW g (q 1) (a 1) (P 1) ++ (pW g (q 2) (a 2) (P 2) ++ (pW g (q 3) (a 3) (P 3) ++ (pW g (q 4) (a 4) (P 4) ++ (pW g (q 5) (a 5) (P 5) ++ (pW g (q 6) (a 6) (P 6) ++ mF g od ad (m_refused D) (m_now D) (m_kept D) (m_states D) (m_place D) (m_startFact D) (m_node D) (m_fact D) (m_ahead D) (m_inside D) (m_entries D) (m_caller D) (m_following D) (m_firstCaller D) (m_lastCaller D) (m_callers D) (m_known D) (m_loose D) (m_stack D) (m_high D) (m_pairs D) (m_told D) (m_text D) (m_typed D) (m_orders D) (m_written D) (m_look D))))))) (ws2 := lWd g o od ma ta sa xa ad q a ((fAt (P 0) z1 z2 M).2) (T) (U) (X) P D) (st1 := [.int (iI ((fAt (P 0) z1 z2 M).1))]) C hl.1 hW hA (c_X4_at l g o ma M ta T sa U xa X (q 0) (a 0) (P 0) z1 z2 hMo hTo hUo hXo (hPo 0 (by omega)) hr0 hz1 hz2) v_L_46 rfl [0, 1, 2, 3, 4, 5, 6, 7, 8, 9, 10, 11, 12, 13, 14, 15, 16, 17, 18, 19, 20, 21, 22, 23, 24] [25, 26, 27, 28, 29, 30, 31, 32, 33, 34, 35, 36, 37, 38, 39, 40, 41, 42, 43, 44, 45, 46, 47, 48, 49, 50, 51, 52, 53, 54, 55, 56, 57, 58, 59, 60, 61, 62, 63, 64, 65, 66, 67, 68, 69, 70, 71, 72, 73, 74, 75, 76, 77, 78, 79, 80, 81, 82, 83, 84, 85, 86, 87, 88, 89, 90, 91, 92, 93, 94, 95, 96, 97] [73, 74, 75, 76, 77, 78, 79, 80, 81, 82, 83, 84, 85, 86, 87, 88, 89, 90, 91, 92, 93, 94, 95, 96, 97, 0, 1, 2, 3, 4, 5, 6, 7, 8, 9, 10, 11, 12, 13, 14, 15, 16, 17, 18, 19, 20, 21, 22, 23, 24, 25, 26, 27, 28, 29, 30, 31, 32, 33, 34, 35, 36, 37, 38, 39, 40, 41, 42, 43, 44, 45, 46, 47, 48, 49, 50, 51, 52, 53, 54, 55, 56, 57, 58, 59, 60, 61, 62, 63, 64, 65, 66, 67, 68, 69, 70, 71, 72] rfl rfl (by decide) (by decide) rfl rfl 0 rfl rfl rfl (by decide) ⟨Nat.le_of_ble_eq_true rfl, Nat.le_of_ble_eq_true rfl⟩ (Nat.le_of_ble_eq_true rfl) dL_law_362 rfl rfl (fun H locs hW => ?_)
  refine opq ((mAt z1 z2 D).2) (fun K hK => ?_)
  refine r_aload_n C dL_law_365 hl 2 rfl ?_
  refine r_aload_n C dL_law_366 hl 0 rfl ?_
  refine r_iload_n C dL_law_367 hl 3 rfl ?_
  refine r_iconst (z := 1) C dL_law_368 rfl ?_
  refine r_iadd C dL_law_369 ?_
  refine l_sld C E hW (by omega) dL_law_370 ?_
  rw [hzz1]
  refine r_aload_n C dL_law_371 hl 0 rfl ?_
  refine r_iload_n C dL_law_372 hl 3 rfl ?_
  refine r_iconst (z := 2) C dL_law_373 rfl ?_
  refine r_iadd C dL_law_374 ?_
  refine l_sld C E hW (by omega) dL_law_375 ?_
  rw [hzz2]
  refine r_callW (rest := [.int (iI ((fAt (P 0) z1 z2 M).1))]) (r := some (.int (iI ((mAt z1 z2 D).1)))) (wr := cW g o ma ta sa xa q a ((fAt (P 0) z1 z2 M).2) (T) (U) (X) P) (ws2 := lWd g o od ma ta sa xa ad q a ((fAt (P 0) z1 z2 M).2) (T) (U) (X) P K) (st1 := [.int (iI ((mAt z1 z2 D).1)), .int (iI ((fAt (P 0) z1 z2 M).1))]) C hl.1 hW hA (c_X5_atL l g od ad D z1 z2 K hNo hz1 hz2 hK) v_L_49 rfl [79, 80, 81, 82, 83, 84, 85, 86, 87, 88, 89, 90, 91, 92, 93, 94, 95, 96, 97] [0, 1, 2, 3, 4, 5, 6, 7, 8, 9, 10, 11, 12, 13, 14, 15, 16, 17, 18, 19, 20, 21, 22, 23, 24, 25, 26, 27, 28, 29, 30, 31, 32, 33, 34, 35, 36, 37, 38, 39, 40, 41, 42, 43, 44, 45, 46, 47, 48, 49, 50, 51, 52, 53, 54, 55, 56, 57, 58, 59, 60, 61, 62, 63, 64, 65, 66, 67, 68, 69, 70, 71, 72, 73, 74, 75, 76, 77, 78] [0, 1, 2, 3, 4, 5, 6, 7, 8, 9, 10, 11, 12, 13, 14, 15, 16, 17, 18, 19, 20, 21, 22, 23, 24, 25, 26, 27, 28, 29, 30, 31, 32, 33, 34, 35, 36, 37, 38, 39, 40, 41, 42, 43, 44, 45, 46, 47, 48, 49, 50, 51, 52, 53, 54, 55, 56, 57, 58, 59, 60, 61, 62, 63, 64, 65, 66, 67, 68, 69, 70, 71, 72, 73, 74, 75, 76, 77, 78, 79, 80, 81, 82, 83, 84, 85, 86, 87, 88, 89, 90, 91, 92, 93, 94, 95, 96, 97] rfl rfl (by decide) (by decide) rfl rfl 0 rfl rfl rfl (by decide) ⟨Nat.le_of_ble_eq_true rfl, Nat.le_of_ble_eq_true rfl⟩ (Nat.le_of_ble_eq_true rfl) dL_law_376 rfl rfl (fun H locs hW => ?_)
  rw [hs.1]
  refine lv_icmp_eq (tgt := 770) C.1.1 C.1.2.1 dL_law_379 (by decide) (fun _ => ?_) (fun hne => absurd rfl hne)
  have hg := hs.2
  have hK9 : (mAt z1 z2 D).2 = K := hK
  rw [hK9] at hg
  have hrn : f_rows ((fAt (P 0) z1 z2 M).2) = f_rows M ∧ f_now ((fAt (P 0) z1 z2 M).2) = f_now M := by unfold fAt; (repeat' split) <;> first | exact ⟨rfl, rfl⟩ | exact fRef_rn _ _
  exact hgo _ _ _ ⟨q, a, _, _, _, _, P, _, hW, hg, rR_same hR hrn, hl⟩
set_option maxHeartbeats 4000000 in
set_option maxRecDepth 100000 in
theorem lc_about (C : Cx g p m c code 4 s #[Value.ref b] RL) (E : lEnv A b L xs s) {k i : Int} (hk : 0 ≤ k ∧ k < 1000) (hi : 0 ≤ i ∧ i + 5 ≤ L) (hgo : lGo g p l e s m below meth c A b o od ma ta sa xa ad k i) (h : lStt g s A b o od ma ta sa xa ad k i H locs ls) : W p l e room_1 s m #[Value.ref b] below meth c H locs 98 71790 (lw_Z below #[Value.ref b] s) (F0 m 384 ls []) := by
  obtain ⟨q, a, M, T, U, X, P, D, hW, hS, hR, hl⟩ := h
  have hA : ∀ q, s.heap.size ≤ q → A q := E.2.2.2.1
  have hL := E.2.2.2.2
  have hMo : fOk M := gS_f hS (by omega)
  have hTo := hS.2.2.1.1
  have hUo := hS.2.2.1.2.1
  have hXo := hS.2.2.1.2.2.1
  have hPo := hS.2.2.1.2.2.2.1
  have hDo := hS.2.2.1.2.2.2.2.1
  have hNo := hS.2.2.1.2.2.2.2.2.1
  have hWo := hS.2.2.1.2.2.2.2.2.2
  have hr0 := rR_0 hR hS.1.1
  have hr1 := rR_1 hR
  have hz1 := zx_r xs (i + 1)
  have hz2 := zx_r xs (i + 2)
  have hs := s_about (e := zx xs (i + 1)) (w := zx xs (i + 2)) hS (by omega)
  generalize hzz1 : zx xs (i + 1) = z1 at hz1 hs
  generalize hzz2 : zx xs (i + 2) = z2 at hz2 hs
  refine r_aload_n C dL_law_384 hl 1 rfl ?_
  refine r_aload_n C dL_law_385 hl 0 rfl ?_
  refine r_iload_n C dL_law_386 hl 3 rfl ?_
  refine r_iconst (z := 1) C dL_law_387 rfl ?_
  refine r_iadd C dL_law_388 ?_
  refine l_sld C E hW (by omega) dL_law_389 ?_
  rw [hzz1]
  refine r_aload_n C dL_law_390 hl 0 rfl ?_
  refine r_iload_n C dL_law_391 hl 3 rfl ?_
  refine r_iconst (z := 2) C dL_law_392 rfl ?_
  refine r_iadd C dL_law_393 ?_
  refine l_sld C E hW (by omega) dL_law_394 ?_
  rw [hzz2]
  refine r_callW (rest := []) (r := some (.int (iI ((fAbout (P 0) z1 z2 M).1)))) (wr := pW g (q 1) (a 1) (P 1) ++ (pW g (q 2) (a 2) (P 2) ++ (pW g (q 3) (a 3) (P 3) ++ (pW g (q 4) (a 4) (P 4) ++ (pW g (q 5) (a 5) (P 5) ++ (pW g (q 6) (a 6) (P 6) ++ mF g od ad (m_refused D) (m_now D) (m_kept D) (m_states D) (m_place D) (m_startFact D) (m_node D) (m_fact D) (m_ahead D) (m_inside D) (m_entries D) (m_caller D) (m_following D) (m_firstCaller D) (m_lastCaller D) (m_callers D) (m_known D) (m_loose D) (m_stack D) (m_high D) (m_pairs D) (m_told D) (m_text D) (m_typed D) (m_orders D) (m_written D) (m_look D))))))) (ws2 := lWd g o od ma ta sa xa ad q a ((fAbout (P 0) z1 z2 M).2) (T) (U) (X) P D) (st1 := [.int (iI ((fAbout (P 0) z1 z2 M).1))]) C hl.1 hW hA (c_X4_about l g o ma M ta T sa U xa X (q 0) (a 0) (P 0) z1 z2 hMo hTo hUo hXo (hPo 0 (by omega)) hr0 hz1 hz2) v_L_50 rfl [0, 1, 2, 3, 4, 5, 6, 7, 8, 9, 10, 11, 12, 13, 14, 15, 16, 17, 18, 19, 20, 21, 22, 23, 24] [25, 26, 27, 28, 29, 30, 31, 32, 33, 34, 35, 36, 37, 38, 39, 40, 41, 42, 43, 44, 45, 46, 47, 48, 49, 50, 51, 52, 53, 54, 55, 56, 57, 58, 59, 60, 61, 62, 63, 64, 65, 66, 67, 68, 69, 70, 71, 72, 73, 74, 75, 76, 77, 78, 79, 80, 81, 82, 83, 84, 85, 86, 87, 88, 89, 90, 91, 92, 93, 94, 95, 96, 97] [73, 74, 75, 76, 77, 78, 79, 80, 81, 82, 83, 84, 85, 86, 87, 88, 89, 90, 91, 92, 93, 94, 95, 96, 97, 0, 1, 2, 3, 4, 5, 6, 7, 8, 9, 10, 11, 12, 13, 14, 15, 16, 17, 18, 19, 20, 21, 22, 23, 24, 25, 26, 27, 28, 29, 30, 31, 32, 33, 34, 35, 36, 37, 38, 39, 40, 41, 42, 43, 44, 45, 46, 47, 48, 49, 50, 51, 52, 53, 54, 55, 56, 57, 58, 59, 60, 61, 62, 63, 64, 65, 66, 67, 68, 69, 70, 71, 72] rfl rfl (by decide) (by decide) rfl rfl 0 rfl rfl rfl (by decide) ⟨Nat.le_of_ble_eq_true rfl, Nat.le_of_ble_eq_true rfl⟩ (Nat.le_of_ble_eq_true rfl) dL_law_395 rfl rfl (fun H locs hW => ?_)
  refine opq ((mAbout z1 z2 D).2) (fun K hK => ?_)
  refine r_aload_n C dL_law_398 hl 2 rfl ?_
  refine r_aload_n C dL_law_399 hl 0 rfl ?_
  refine r_iload_n C dL_law_400 hl 3 rfl ?_
  refine r_iconst (z := 1) C dL_law_401 rfl ?_
  refine r_iadd C dL_law_402 ?_
  refine l_sld C E hW (by omega) dL_law_403 ?_
  rw [hzz1]
  refine r_aload_n C dL_law_404 hl 0 rfl ?_
  refine r_iload_n C dL_law_405 hl 3 rfl ?_
  refine r_iconst (z := 2) C dL_law_406 rfl ?_
  refine r_iadd C dL_law_407 ?_
  refine l_sld C E hW (by omega) dL_law_408 ?_
  rw [hzz2]
  refine r_callW (rest := [.int (iI ((fAbout (P 0) z1 z2 M).1))]) (r := some (.int (iI ((mAbout z1 z2 D).1)))) (wr := cW g o ma ta sa xa q a ((fAbout (P 0) z1 z2 M).2) (T) (U) (X) P) (ws2 := lWd g o od ma ta sa xa ad q a ((fAbout (P 0) z1 z2 M).2) (T) (U) (X) P K) (st1 := [.int (iI ((mAbout z1 z2 D).1)), .int (iI ((fAbout (P 0) z1 z2 M).1))]) C hl.1 hW hA (c_X5_aboutL l g od ad D z1 z2 K hNo hz1 hz2 hK) v_L_53 rfl [79, 80, 81, 82, 83, 84, 85, 86, 87, 88, 89, 90, 91, 92, 93, 94, 95, 96, 97] [0, 1, 2, 3, 4, 5, 6, 7, 8, 9, 10, 11, 12, 13, 14, 15, 16, 17, 18, 19, 20, 21, 22, 23, 24, 25, 26, 27, 28, 29, 30, 31, 32, 33, 34, 35, 36, 37, 38, 39, 40, 41, 42, 43, 44, 45, 46, 47, 48, 49, 50, 51, 52, 53, 54, 55, 56, 57, 58, 59, 60, 61, 62, 63, 64, 65, 66, 67, 68, 69, 70, 71, 72, 73, 74, 75, 76, 77, 78] [0, 1, 2, 3, 4, 5, 6, 7, 8, 9, 10, 11, 12, 13, 14, 15, 16, 17, 18, 19, 20, 21, 22, 23, 24, 25, 26, 27, 28, 29, 30, 31, 32, 33, 34, 35, 36, 37, 38, 39, 40, 41, 42, 43, 44, 45, 46, 47, 48, 49, 50, 51, 52, 53, 54, 55, 56, 57, 58, 59, 60, 61, 62, 63, 64, 65, 66, 67, 68, 69, 70, 71, 72, 73, 74, 75, 76, 77, 78, 79, 80, 81, 82, 83, 84, 85, 86, 87, 88, 89, 90, 91, 92, 93, 94, 95, 96, 97] rfl rfl (by decide) (by decide) rfl rfl 0 rfl rfl rfl (by decide) ⟨Nat.le_of_ble_eq_true rfl, Nat.le_of_ble_eq_true rfl⟩ (Nat.le_of_ble_eq_true rfl) dL_law_409 rfl rfl (fun H locs hW => ?_)
  rw [hs.1]
  refine lv_icmp_eq (tgt := 770) C.1.1 C.1.2.1 dL_law_412 (by decide) (fun _ => ?_) (fun hne => absurd rfl hne)
  have hg := hs.2
  have hK9 : (mAbout z1 z2 D).2 = K := hK
  rw [hK9] at hg
  have hrn : f_rows ((fAbout (P 0) z1 z2 M).2) = f_rows M ∧ f_now ((fAbout (P 0) z1 z2 M).2) = f_now M := by unfold fAbout; (repeat' split) <;> first | exact ⟨rfl, rfl⟩ | exact fRef_rn _ _
  exact hgo _ _ _ ⟨q, a, _, _, _, _, P, _, hW, hg, rR_same hR hrn, hl⟩
set_option maxHeartbeats 4000000 in
set_option maxRecDepth 100000 in
theorem lc_goes (C : Cx g p m c code 4 s #[Value.ref b] RL) (E : lEnv A b L xs s) {k i : Int} (hk : 0 ≤ k ∧ k < 1000) (hi : 0 ≤ i ∧ i + 5 ≤ L) (hgo : lGo g p l e s m below meth c A b o od ma ta sa xa ad k i) (h : lStt g s A b o od ma ta sa xa ad k i H locs ls) : W p l e room_1 s m #[Value.ref b] below meth c H locs 98 71790 (lw_Z below #[Value.ref b] s) (F0 m 417 ls []) := by
  obtain ⟨q, a, M, T, U, X, P, D, hW, hS, hR, hl⟩ := h
  have hA : ∀ q, s.heap.size ≤ q → A q := E.2.2.2.1
  have hL := E.2.2.2.2
  have hMo : fOk M := gS_f hS (by omega)
  have hTo := hS.2.2.1.1
  have hUo := hS.2.2.1.2.1
  have hXo := hS.2.2.1.2.2.1
  have hPo := hS.2.2.1.2.2.2.1
  have hDo := hS.2.2.1.2.2.2.2.1
  have hNo := hS.2.2.1.2.2.2.2.2.1
  have hWo := hS.2.2.1.2.2.2.2.2.2
  have hr0 := rR_0 hR hS.1.1
  have hr1 := rR_1 hR
  have hz1 := zx_r xs (i + 1)
  have hz2 := zx_r xs (i + 2)
  have hz3 := zx_r xs (i + 3)
  have hs := s_goes (e := zx xs (i + 1)) (w := zx xs (i + 2)) (a := zx xs (i + 3)) hS (by omega)
  generalize hzz1 : zx xs (i + 1) = z1 at hz1 hs
  generalize hzz2 : zx xs (i + 2) = z2 at hz2 hs
  generalize hzz3 : zx xs (i + 3) = z3 at hz3 hs
  refine r_aload_n C dL_law_417 hl 1 rfl ?_
  refine r_aload_n C dL_law_418 hl 0 rfl ?_
  refine r_iload_n C dL_law_419 hl 3 rfl ?_
  refine r_iconst (z := 1) C dL_law_420 rfl ?_
  refine r_iadd C dL_law_421 ?_
  refine l_sld C E hW (by omega) dL_law_422 ?_
  rw [hzz1]
  refine r_aload_n C dL_law_423 hl 0 rfl ?_
  refine r_iload_n C dL_law_424 hl 3 rfl ?_
  refine r_iconst (z := 2) C dL_law_425 rfl ?_
  refine r_iadd C dL_law_426 ?_
  refine l_sld C E hW (by omega) dL_law_427 ?_
  rw [hzz2]
  refine r_aload_n C dL_law_428 hl 0 rfl ?_
  refine r_iload_n C dL_law_429 hl 3 rfl ?_
  refine r_iconst (z := 3) C dL_law_430 rfl ?_
  refine r_iadd C dL_law_431 ?_
  refine l_sld C E hW (by omega) dL_law_432 ?_
  rw [hzz3]
  refine r_callW (rest := []) (r := some (.int (iI ((fGoes (P 0) z1 z2 z3 M).1)))) (wr := pW g (q 1) (a 1) (P 1) ++ (pW g (q 2) (a 2) (P 2) ++ (pW g (q 3) (a 3) (P 3) ++ (pW g (q 4) (a 4) (P 4) ++ (pW g (q 5) (a 5) (P 5) ++ (pW g (q 6) (a 6) (P 6) ++ mF g od ad (m_refused D) (m_now D) (m_kept D) (m_states D) (m_place D) (m_startFact D) (m_node D) (m_fact D) (m_ahead D) (m_inside D) (m_entries D) (m_caller D) (m_following D) (m_firstCaller D) (m_lastCaller D) (m_callers D) (m_known D) (m_loose D) (m_stack D) (m_high D) (m_pairs D) (m_told D) (m_text D) (m_typed D) (m_orders D) (m_written D) (m_look D))))))) (ws2 := lWd g o od ma ta sa xa ad q a ((fGoes (P 0) z1 z2 z3 M).2) (T) (U) (X) P D) (st1 := [.int (iI ((fGoes (P 0) z1 z2 z3 M).1))]) C hl.1 hW hA (c_X4_goes l g o ma M ta T sa U xa X (q 0) (a 0) (P 0) z1 z2 z3 hMo hTo hUo hXo (hPo 0 (by omega)) hr0 hz1 hz2 hz3) v_L_54 rfl [0, 1, 2, 3, 4, 5, 6, 7, 8, 9, 10, 11, 12, 13, 14, 15, 16, 17, 18, 19, 20, 21, 22, 23, 24] [25, 26, 27, 28, 29, 30, 31, 32, 33, 34, 35, 36, 37, 38, 39, 40, 41, 42, 43, 44, 45, 46, 47, 48, 49, 50, 51, 52, 53, 54, 55, 56, 57, 58, 59, 60, 61, 62, 63, 64, 65, 66, 67, 68, 69, 70, 71, 72, 73, 74, 75, 76, 77, 78, 79, 80, 81, 82, 83, 84, 85, 86, 87, 88, 89, 90, 91, 92, 93, 94, 95, 96, 97] [73, 74, 75, 76, 77, 78, 79, 80, 81, 82, 83, 84, 85, 86, 87, 88, 89, 90, 91, 92, 93, 94, 95, 96, 97, 0, 1, 2, 3, 4, 5, 6, 7, 8, 9, 10, 11, 12, 13, 14, 15, 16, 17, 18, 19, 20, 21, 22, 23, 24, 25, 26, 27, 28, 29, 30, 31, 32, 33, 34, 35, 36, 37, 38, 39, 40, 41, 42, 43, 44, 45, 46, 47, 48, 49, 50, 51, 52, 53, 54, 55, 56, 57, 58, 59, 60, 61, 62, 63, 64, 65, 66, 67, 68, 69, 70, 71, 72] rfl rfl (by decide) (by decide) rfl rfl 0 rfl rfl rfl (by decide) ⟨Nat.le_of_ble_eq_true rfl, Nat.le_of_ble_eq_true rfl⟩ (Nat.le_of_ble_eq_true rfl) dL_law_433 rfl rfl (fun H locs hW => ?_)
  refine opq ((mGoes z1 z2 z3 D).2) (fun K hK => ?_)
  refine r_aload_n C dL_law_436 hl 2 rfl ?_
  refine r_aload_n C dL_law_437 hl 0 rfl ?_
  refine r_iload_n C dL_law_438 hl 3 rfl ?_
  refine r_iconst (z := 1) C dL_law_439 rfl ?_
  refine r_iadd C dL_law_440 ?_
  refine l_sld C E hW (by omega) dL_law_441 ?_
  rw [hzz1]
  refine r_aload_n C dL_law_442 hl 0 rfl ?_
  refine r_iload_n C dL_law_443 hl 3 rfl ?_
  refine r_iconst (z := 2) C dL_law_444 rfl ?_
  refine r_iadd C dL_law_445 ?_
  refine l_sld C E hW (by omega) dL_law_446 ?_
  rw [hzz2]
  refine r_aload_n C dL_law_447 hl 0 rfl ?_
  refine r_iload_n C dL_law_448 hl 3 rfl ?_
  refine r_iconst (z := 3) C dL_law_449 rfl ?_
  refine r_iadd C dL_law_450 ?_
  refine l_sld C E hW (by omega) dL_law_451 ?_
  rw [hzz3]
  refine r_callW (rest := [.int (iI ((fGoes (P 0) z1 z2 z3 M).1))]) (r := some (.int (iI ((mGoes z1 z2 z3 D).1)))) (wr := cW g o ma ta sa xa q a ((fGoes (P 0) z1 z2 z3 M).2) (T) (U) (X) P) (ws2 := lWd g o od ma ta sa xa ad q a ((fGoes (P 0) z1 z2 z3 M).2) (T) (U) (X) P K) (st1 := [.int (iI ((mGoes z1 z2 z3 D).1)), .int (iI ((fGoes (P 0) z1 z2 z3 M).1))]) C hl.1 hW hA (c_X5_goesL l g od ad D z1 z2 z3 K hNo hz1 hz2 hz3 hK) v_L_57 rfl [79, 80, 81, 82, 83, 84, 85, 86, 87, 88, 89, 90, 91, 92, 93, 94, 95, 96, 97] [0, 1, 2, 3, 4, 5, 6, 7, 8, 9, 10, 11, 12, 13, 14, 15, 16, 17, 18, 19, 20, 21, 22, 23, 24, 25, 26, 27, 28, 29, 30, 31, 32, 33, 34, 35, 36, 37, 38, 39, 40, 41, 42, 43, 44, 45, 46, 47, 48, 49, 50, 51, 52, 53, 54, 55, 56, 57, 58, 59, 60, 61, 62, 63, 64, 65, 66, 67, 68, 69, 70, 71, 72, 73, 74, 75, 76, 77, 78] [0, 1, 2, 3, 4, 5, 6, 7, 8, 9, 10, 11, 12, 13, 14, 15, 16, 17, 18, 19, 20, 21, 22, 23, 24, 25, 26, 27, 28, 29, 30, 31, 32, 33, 34, 35, 36, 37, 38, 39, 40, 41, 42, 43, 44, 45, 46, 47, 48, 49, 50, 51, 52, 53, 54, 55, 56, 57, 58, 59, 60, 61, 62, 63, 64, 65, 66, 67, 68, 69, 70, 71, 72, 73, 74, 75, 76, 77, 78, 79, 80, 81, 82, 83, 84, 85, 86, 87, 88, 89, 90, 91, 92, 93, 94, 95, 96, 97] rfl rfl (by decide) (by decide) rfl rfl 0 rfl rfl rfl (by decide) ⟨Nat.le_of_ble_eq_true rfl, Nat.le_of_ble_eq_true rfl⟩ (Nat.le_of_ble_eq_true rfl) dL_law_452 rfl rfl (fun H locs hW => ?_)
  rw [hs.1]
  refine lv_icmp_eq (tgt := 770) C.1.1 C.1.2.1 dL_law_455 (by decide) (fun _ => ?_) (fun hne => absurd rfl hne)
  have hg := hs.2
  have hK9 : (mGoes z1 z2 z3 D).2 = K := hK
  rw [hK9] at hg
  have hrn : f_rows ((fGoes (P 0) z1 z2 z3 M).2) = f_rows M ∧ f_now ((fGoes (P 0) z1 z2 z3 M).2) = f_now M := by unfold fGoes; (repeat' split) <;> first | exact ⟨rfl, rfl⟩ | exact fRef_rn _ _
  exact hgo _ _ _ ⟨q, a, _, _, _, _, P, _, hW, hg, rR_same hR hrn, hl⟩
set_option maxHeartbeats 4000000 in
set_option maxRecDepth 100000 in
theorem lc_count (C : Cx g p m c code 4 s #[Value.ref b] RL) (E : lEnv A b L xs s) {k i : Int} (hk : 0 ≤ k ∧ k < 1000) (hi : 0 ≤ i ∧ i + 5 ≤ L) (hgo : lGo g p l e s m below meth c A b o od ma ta sa xa ad k i) (h : lStt g s A b o od ma ta sa xa ad k i H locs ls) : W p l e room_1 s m #[Value.ref b] below meth c H locs 98 71790 (lw_Z below #[Value.ref b] s) (F0 m 460 ls []) := by
  obtain ⟨q, a, M, T, U, X, P, D, hW, hS, hR, hl⟩ := h
  have hA : ∀ q, s.heap.size ≤ q → A q := E.2.2.2.1
  have hL := E.2.2.2.2
  have hMo : fOk M := gS_f hS (by omega)
  have hTo := hS.2.2.1.1
  have hUo := hS.2.2.1.2.1
  have hXo := hS.2.2.1.2.2.1
  have hPo := hS.2.2.1.2.2.2.1
  have hDo := hS.2.2.1.2.2.2.2.1
  have hNo := hS.2.2.1.2.2.2.2.2.1
  have hWo := hS.2.2.1.2.2.2.2.2.2
  have hr0 := rR_0 hR hS.1.1
  have hr1 := rR_1 hR
  have hz1 := zx_r xs (i + 1)
  have hs := s_count (w := zx xs (i + 1)) hS (by omega)
  generalize hzz1 : zx xs (i + 1) = z1 at hz1 hs
  refine r_aload_n C dL_law_460 hl 1 rfl ?_
  refine r_aload_n C dL_law_461 hl 0 rfl ?_
  refine r_iload_n C dL_law_462 hl 3 rfl ?_
  refine r_iconst (z := 1) C dL_law_463 rfl ?_
  refine r_iadd C dL_law_464 ?_
  refine l_sld C E hW (by omega) dL_law_465 ?_
  rw [hzz1]
  refine r_callW (rest := []) (r := some (.int (iI ((fCount (P 0) z1 M T).1)))) (wr := pW g (q 1) (a 1) (P 1) ++ (pW g (q 2) (a 2) (P 2) ++ (pW g (q 3) (a 3) (P 3) ++ (pW g (q 4) (a 4) (P 4) ++ (pW g (q 5) (a 5) (P 5) ++ (pW g (q 6) (a 6) (P 6) ++ mF g od ad (m_refused D) (m_now D) (m_kept D) (m_states D) (m_place D) (m_startFact D) (m_node D) (m_fact D) (m_ahead D) (m_inside D) (m_entries D) (m_caller D) (m_following D) (m_firstCaller D) (m_lastCaller D) (m_callers D) (m_known D) (m_loose D) (m_stack D) (m_high D) (m_pairs D) (m_told D) (m_text D) (m_typed D) (m_orders D) (m_written D) (m_look D))))))) (ws2 := lWd g o od ma ta sa xa ad q a ((fCount (P 0) z1 M T).2.1) ((fCount (P 0) z1 M T).2.2) (U) (X) P D) (st1 := [.int (iI ((fCount (P 0) z1 M T).1))]) C hl.1 hW hA (c_X4_count l g o ma M ta T sa U xa X (q 0) (a 0) (P 0) z1 hMo hTo hUo hXo (hPo 0 (by omega)) hr0 hz1) v_L_58 rfl [0, 1, 2, 3, 4, 5, 6, 7, 8, 9, 10, 11, 12, 13, 14, 15, 16, 17, 18, 19, 20, 21, 22, 23, 24] [25, 26, 27, 28, 29, 30, 31, 32, 33, 34, 35, 36, 37, 38, 39, 40, 41, 42, 43, 44, 45, 46, 47, 48, 49, 50, 51, 52, 53, 54, 55, 56, 57, 58, 59, 60, 61, 62, 63, 64, 65, 66, 67, 68, 69, 70, 71, 72, 73, 74, 75, 76, 77, 78, 79, 80, 81, 82, 83, 84, 85, 86, 87, 88, 89, 90, 91, 92, 93, 94, 95, 96, 97] [73, 74, 75, 76, 77, 78, 79, 80, 81, 82, 83, 84, 85, 86, 87, 88, 89, 90, 91, 92, 93, 94, 95, 96, 97, 0, 1, 2, 3, 4, 5, 6, 7, 8, 9, 10, 11, 12, 13, 14, 15, 16, 17, 18, 19, 20, 21, 22, 23, 24, 25, 26, 27, 28, 29, 30, 31, 32, 33, 34, 35, 36, 37, 38, 39, 40, 41, 42, 43, 44, 45, 46, 47, 48, 49, 50, 51, 52, 53, 54, 55, 56, 57, 58, 59, 60, 61, 62, 63, 64, 65, 66, 67, 68, 69, 70, 71, 72] rfl rfl (by decide) (by decide) rfl rfl 0 rfl rfl rfl (by decide) ⟨Nat.le_of_ble_eq_true rfl, Nat.le_of_ble_eq_true rfl⟩ (Nat.le_of_ble_eq_true rfl) dL_law_466 rfl rfl (fun H locs hW => ?_)
  refine opq ((mCount z1 D).2) (fun K hK => ?_)
  refine r_aload_n C dL_law_469 hl 2 rfl ?_
  refine r_aload_n C dL_law_470 hl 0 rfl ?_
  refine r_iload_n C dL_law_471 hl 3 rfl ?_
  refine r_iconst (z := 1) C dL_law_472 rfl ?_
  refine r_iadd C dL_law_473 ?_
  refine l_sld C E hW (by omega) dL_law_474 ?_
  rw [hzz1]
  refine r_callW (rest := [.int (iI ((fCount (P 0) z1 M T).1))]) (r := some (.int (iI ((mCount z1 D).1)))) (wr := cW g o ma ta sa xa q a ((fCount (P 0) z1 M T).2.1) ((fCount (P 0) z1 M T).2.2) (U) (X) P) (ws2 := lWd g o od ma ta sa xa ad q a ((fCount (P 0) z1 M T).2.1) ((fCount (P 0) z1 M T).2.2) (U) (X) P K) (st1 := [.int (iI ((mCount z1 D).1)), .int (iI ((fCount (P 0) z1 M T).1))]) C hl.1 hW hA (c_X5_countL l g od ad D z1 K hDo hNo hWo hz1 hK) v_L_61 rfl [79, 80, 81, 82, 83, 84, 85, 86, 87, 88, 89, 90, 91, 92, 93, 94, 95, 96, 97] [0, 1, 2, 3, 4, 5, 6, 7, 8, 9, 10, 11, 12, 13, 14, 15, 16, 17, 18, 19, 20, 21, 22, 23, 24, 25, 26, 27, 28, 29, 30, 31, 32, 33, 34, 35, 36, 37, 38, 39, 40, 41, 42, 43, 44, 45, 46, 47, 48, 49, 50, 51, 52, 53, 54, 55, 56, 57, 58, 59, 60, 61, 62, 63, 64, 65, 66, 67, 68, 69, 70, 71, 72, 73, 74, 75, 76, 77, 78] [0, 1, 2, 3, 4, 5, 6, 7, 8, 9, 10, 11, 12, 13, 14, 15, 16, 17, 18, 19, 20, 21, 22, 23, 24, 25, 26, 27, 28, 29, 30, 31, 32, 33, 34, 35, 36, 37, 38, 39, 40, 41, 42, 43, 44, 45, 46, 47, 48, 49, 50, 51, 52, 53, 54, 55, 56, 57, 58, 59, 60, 61, 62, 63, 64, 65, 66, 67, 68, 69, 70, 71, 72, 73, 74, 75, 76, 77, 78, 79, 80, 81, 82, 83, 84, 85, 86, 87, 88, 89, 90, 91, 92, 93, 94, 95, 96, 97] rfl rfl (by decide) (by decide) rfl rfl 0 rfl rfl rfl (by decide) ⟨Nat.le_of_ble_eq_true rfl, Nat.le_of_ble_eq_true rfl⟩ (Nat.le_of_ble_eq_true rfl) dL_law_475 rfl rfl (fun H locs hW => ?_)
  rw [hs.1]
  refine lv_icmp_eq (tgt := 770) C.1.1 C.1.2.1 dL_law_478 (by decide) (fun _ => ?_) (fun hne => absurd rfl hne)
  have hg := hs.2
  have hK9 : (mCount z1 D).2 = K := hK
  rw [hK9] at hg
  have hrn : f_rows ((fCount (P 0) z1 M T).2.1) = f_rows M ∧ f_now ((fCount (P 0) z1 M T).2.1) = f_now M := by unfold fCount; (repeat' split) <;> first | exact ⟨rfl, rfl⟩ | exact fRef_rn _ _
  exact hgo _ _ _ ⟨q, a, _, _, _, _, P, _, hW, hg, rR_same hR hrn, hl⟩
set_option maxHeartbeats 4000000 in
set_option maxRecDepth 100000 in
theorem lc_holds (C : Cx g p m c code 4 s #[Value.ref b] RL) (E : lEnv A b L xs s) {k i : Int} (hk : 0 ≤ k ∧ k < 1000) (hi : 0 ≤ i ∧ i + 5 ≤ L) (hgo : lGo g p l e s m below meth c A b o od ma ta sa xa ad k i) (h : lStt g s A b o od ma ta sa xa ad k i H locs ls) : W p l e room_1 s m #[Value.ref b] below meth c H locs 98 71790 (lw_Z below #[Value.ref b] s) (F0 m 483 ls []) := by
  obtain ⟨q, a, M, T, U, X, P, D, hW, hS, hR, hl⟩ := h
  have hA : ∀ q, s.heap.size ≤ q → A q := E.2.2.2.1
  have hL := E.2.2.2.2
  have hMo : fOk M := gS_f hS (by omega)
  have hTo := hS.2.2.1.1
  have hUo := hS.2.2.1.2.1
  have hXo := hS.2.2.1.2.2.1
  have hPo := hS.2.2.1.2.2.2.1
  have hDo := hS.2.2.1.2.2.2.2.1
  have hNo := hS.2.2.1.2.2.2.2.2.1
  have hWo := hS.2.2.1.2.2.2.2.2.2
  have hr0 := rR_0 hR hS.1.1
  have hr1 := rR_1 hR
  have hz1 := zx_r xs (i + 1)
  have hs := s_holds (n := zx xs (i + 1)) hS (by omega)
  generalize hzz1 : zx xs (i + 1) = z1 at hz1 hs
  refine r_aload_n C dL_law_483 hl 1 rfl ?_
  refine r_aload_n C dL_law_484 hl 0 rfl ?_
  refine r_iload_n C dL_law_485 hl 3 rfl ?_
  refine r_iconst (z := 1) C dL_law_486 rfl ?_
  refine r_iadd C dL_law_487 ?_
  refine l_sld C E hW (by omega) dL_law_488 ?_
  rw [hzz1]
  refine r_callW (rest := []) (r := some (.int (iI ((fHolds (P 0) z1 M T).1)))) (wr := pW g (q 1) (a 1) (P 1) ++ (pW g (q 2) (a 2) (P 2) ++ (pW g (q 3) (a 3) (P 3) ++ (pW g (q 4) (a 4) (P 4) ++ (pW g (q 5) (a 5) (P 5) ++ (pW g (q 6) (a 6) (P 6) ++ mF g od ad (m_refused D) (m_now D) (m_kept D) (m_states D) (m_place D) (m_startFact D) (m_node D) (m_fact D) (m_ahead D) (m_inside D) (m_entries D) (m_caller D) (m_following D) (m_firstCaller D) (m_lastCaller D) (m_callers D) (m_known D) (m_loose D) (m_stack D) (m_high D) (m_pairs D) (m_told D) (m_text D) (m_typed D) (m_orders D) (m_written D) (m_look D))))))) (ws2 := lWd g o od ma ta sa xa ad q a ((fHolds (P 0) z1 M T).2.1) ((fHolds (P 0) z1 M T).2.2) (U) (X) P D) (st1 := [.int (iI ((fHolds (P 0) z1 M T).1))]) C hl.1 hW hA (c_X4_holds l g o ma M ta T sa U xa X (q 0) (a 0) (P 0) z1 hMo hTo hUo hXo (hPo 0 (by omega)) hr0 hz1) v_L_62 rfl [0, 1, 2, 3, 4, 5, 6, 7, 8, 9, 10, 11, 12, 13, 14, 15, 16, 17, 18, 19, 20, 21, 22, 23, 24] [25, 26, 27, 28, 29, 30, 31, 32, 33, 34, 35, 36, 37, 38, 39, 40, 41, 42, 43, 44, 45, 46, 47, 48, 49, 50, 51, 52, 53, 54, 55, 56, 57, 58, 59, 60, 61, 62, 63, 64, 65, 66, 67, 68, 69, 70, 71, 72, 73, 74, 75, 76, 77, 78, 79, 80, 81, 82, 83, 84, 85, 86, 87, 88, 89, 90, 91, 92, 93, 94, 95, 96, 97] [73, 74, 75, 76, 77, 78, 79, 80, 81, 82, 83, 84, 85, 86, 87, 88, 89, 90, 91, 92, 93, 94, 95, 96, 97, 0, 1, 2, 3, 4, 5, 6, 7, 8, 9, 10, 11, 12, 13, 14, 15, 16, 17, 18, 19, 20, 21, 22, 23, 24, 25, 26, 27, 28, 29, 30, 31, 32, 33, 34, 35, 36, 37, 38, 39, 40, 41, 42, 43, 44, 45, 46, 47, 48, 49, 50, 51, 52, 53, 54, 55, 56, 57, 58, 59, 60, 61, 62, 63, 64, 65, 66, 67, 68, 69, 70, 71, 72] rfl rfl (by decide) (by decide) rfl rfl 0 rfl rfl rfl (by decide) ⟨Nat.le_of_ble_eq_true rfl, Nat.le_of_ble_eq_true rfl⟩ (Nat.le_of_ble_eq_true rfl) dL_law_489 rfl rfl (fun H locs hW => ?_)
  refine opq ((mHolds z1 D).2) (fun K hK => ?_)
  refine r_aload_n C dL_law_492 hl 2 rfl ?_
  refine r_aload_n C dL_law_493 hl 0 rfl ?_
  refine r_iload_n C dL_law_494 hl 3 rfl ?_
  refine r_iconst (z := 1) C dL_law_495 rfl ?_
  refine r_iadd C dL_law_496 ?_
  refine l_sld C E hW (by omega) dL_law_497 ?_
  rw [hzz1]
  refine r_callW (rest := [.int (iI ((fHolds (P 0) z1 M T).1))]) (r := some (.int (iI ((mHolds z1 D).1)))) (wr := cW g o ma ta sa xa q a ((fHolds (P 0) z1 M T).2.1) ((fHolds (P 0) z1 M T).2.2) (U) (X) P) (ws2 := lWd g o od ma ta sa xa ad q a ((fHolds (P 0) z1 M T).2.1) ((fHolds (P 0) z1 M T).2.2) (U) (X) P K) (st1 := [.int (iI ((mHolds z1 D).1)), .int (iI ((fHolds (P 0) z1 M T).1))]) C hl.1 hW hA (c_X5_holdsL l g od ad D z1 K hDo hNo hWo hz1 hK) v_L_65 rfl [79, 80, 81, 82, 83, 84, 85, 86, 87, 88, 89, 90, 91, 92, 93, 94, 95, 96, 97] [0, 1, 2, 3, 4, 5, 6, 7, 8, 9, 10, 11, 12, 13, 14, 15, 16, 17, 18, 19, 20, 21, 22, 23, 24, 25, 26, 27, 28, 29, 30, 31, 32, 33, 34, 35, 36, 37, 38, 39, 40, 41, 42, 43, 44, 45, 46, 47, 48, 49, 50, 51, 52, 53, 54, 55, 56, 57, 58, 59, 60, 61, 62, 63, 64, 65, 66, 67, 68, 69, 70, 71, 72, 73, 74, 75, 76, 77, 78] [0, 1, 2, 3, 4, 5, 6, 7, 8, 9, 10, 11, 12, 13, 14, 15, 16, 17, 18, 19, 20, 21, 22, 23, 24, 25, 26, 27, 28, 29, 30, 31, 32, 33, 34, 35, 36, 37, 38, 39, 40, 41, 42, 43, 44, 45, 46, 47, 48, 49, 50, 51, 52, 53, 54, 55, 56, 57, 58, 59, 60, 61, 62, 63, 64, 65, 66, 67, 68, 69, 70, 71, 72, 73, 74, 75, 76, 77, 78, 79, 80, 81, 82, 83, 84, 85, 86, 87, 88, 89, 90, 91, 92, 93, 94, 95, 96, 97] rfl rfl (by decide) (by decide) rfl rfl 0 rfl rfl rfl (by decide) ⟨Nat.le_of_ble_eq_true rfl, Nat.le_of_ble_eq_true rfl⟩ (Nat.le_of_ble_eq_true rfl) dL_law_498 rfl rfl (fun H locs hW => ?_)
  rw [hs.1]
  refine lv_icmp_eq (tgt := 770) C.1.1 C.1.2.1 dL_law_501 (by decide) (fun _ => ?_) (fun hne => absurd rfl hne)
  have hg := hs.2
  have hK9 : (mHolds z1 D).2 = K := hK
  rw [hK9] at hg
  have hrn : f_rows ((fHolds (P 0) z1 M T).2.1) = f_rows M ∧ f_now ((fHolds (P 0) z1 M T).2.1) = f_now M := by unfold fHolds; (repeat' split) <;> first | exact ⟨rfl, rfl⟩ | exact fRef_rn _ _
  exact hgo _ _ _ ⟨q, a, _, _, _, _, P, _, hW, hg, rR_same hR hrn, hl⟩
set_option maxHeartbeats 4000000 in
set_option maxRecDepth 100000 in
theorem lc_loose (C : Cx g p m c code 4 s #[Value.ref b] RL) (E : lEnv A b L xs s) {k i : Int} (hk : 0 ≤ k ∧ k < 1000) (hi : 0 ≤ i ∧ i + 5 ≤ L) (hgo : lGo g p l e s m below meth c A b o od ma ta sa xa ad k i) (h : lStt g s A b o od ma ta sa xa ad k i H locs ls) : W p l e room_1 s m #[Value.ref b] below meth c H locs 98 71790 (lw_Z below #[Value.ref b] s) (F0 m 506 ls []) := by
  obtain ⟨q, a, M, T, U, X, P, D, hW, hS, hR, hl⟩ := h
  have hA : ∀ q, s.heap.size ≤ q → A q := E.2.2.2.1
  have hL := E.2.2.2.2
  have hMo : fOk M := gS_f hS (by omega)
  have hTo := hS.2.2.1.1
  have hUo := hS.2.2.1.2.1
  have hXo := hS.2.2.1.2.2.1
  have hPo := hS.2.2.1.2.2.2.1
  have hDo := hS.2.2.1.2.2.2.2.1
  have hNo := hS.2.2.1.2.2.2.2.2.1
  have hWo := hS.2.2.1.2.2.2.2.2.2
  have hr0 := rR_0 hR hS.1.1
  have hr1 := rR_1 hR
  have hz1 := zx_r xs (i + 1)
  have hs := s_loose (n := zx xs (i + 1)) hS (by omega)
  generalize hzz1 : zx xs (i + 1) = z1 at hz1 hs
  refine r_aload_n C dL_law_506 hl 1 rfl ?_
  refine r_aload_n C dL_law_507 hl 0 rfl ?_
  refine r_iload_n C dL_law_508 hl 3 rfl ?_
  refine r_iconst (z := 1) C dL_law_509 rfl ?_
  refine r_iadd C dL_law_510 ?_
  refine l_sld C E hW (by omega) dL_law_511 ?_
  rw [hzz1]
  refine r_callW (rest := []) (r := some (.int (iI ((fLoose (P 0) z1 M U).1)))) (wr := pW g (q 1) (a 1) (P 1) ++ (pW g (q 2) (a 2) (P 2) ++ (pW g (q 3) (a 3) (P 3) ++ (pW g (q 4) (a 4) (P 4) ++ (pW g (q 5) (a 5) (P 5) ++ (pW g (q 6) (a 6) (P 6) ++ mF g od ad (m_refused D) (m_now D) (m_kept D) (m_states D) (m_place D) (m_startFact D) (m_node D) (m_fact D) (m_ahead D) (m_inside D) (m_entries D) (m_caller D) (m_following D) (m_firstCaller D) (m_lastCaller D) (m_callers D) (m_known D) (m_loose D) (m_stack D) (m_high D) (m_pairs D) (m_told D) (m_text D) (m_typed D) (m_orders D) (m_written D) (m_look D))))))) (ws2 := lWd g o od ma ta sa xa ad q a ((fLoose (P 0) z1 M U).2.1) (T) ((fLoose (P 0) z1 M U).2.2) (X) P D) (st1 := [.int (iI ((fLoose (P 0) z1 M U).1))]) C hl.1 hW hA (c_X4_loose l g o ma M ta T sa U xa X (q 0) (a 0) (P 0) z1 hMo hTo hUo hXo (hPo 0 (by omega)) hr0 hz1) v_L_66 rfl [0, 1, 2, 3, 4, 5, 6, 7, 8, 9, 10, 11, 12, 13, 14, 15, 16, 17, 18, 19, 20, 21, 22, 23, 24] [25, 26, 27, 28, 29, 30, 31, 32, 33, 34, 35, 36, 37, 38, 39, 40, 41, 42, 43, 44, 45, 46, 47, 48, 49, 50, 51, 52, 53, 54, 55, 56, 57, 58, 59, 60, 61, 62, 63, 64, 65, 66, 67, 68, 69, 70, 71, 72, 73, 74, 75, 76, 77, 78, 79, 80, 81, 82, 83, 84, 85, 86, 87, 88, 89, 90, 91, 92, 93, 94, 95, 96, 97] [73, 74, 75, 76, 77, 78, 79, 80, 81, 82, 83, 84, 85, 86, 87, 88, 89, 90, 91, 92, 93, 94, 95, 96, 97, 0, 1, 2, 3, 4, 5, 6, 7, 8, 9, 10, 11, 12, 13, 14, 15, 16, 17, 18, 19, 20, 21, 22, 23, 24, 25, 26, 27, 28, 29, 30, 31, 32, 33, 34, 35, 36, 37, 38, 39, 40, 41, 42, 43, 44, 45, 46, 47, 48, 49, 50, 51, 52, 53, 54, 55, 56, 57, 58, 59, 60, 61, 62, 63, 64, 65, 66, 67, 68, 69, 70, 71, 72] rfl rfl (by decide) (by decide) rfl rfl 0 rfl rfl rfl (by decide) ⟨Nat.le_of_ble_eq_true rfl, Nat.le_of_ble_eq_true rfl⟩ (Nat.le_of_ble_eq_true rfl) dL_law_512 rfl rfl (fun H locs hW => ?_)
  refine opq ((mLoose z1 D).2) (fun K hK => ?_)
  refine r_aload_n C dL_law_515 hl 2 rfl ?_
  refine r_aload_n C dL_law_516 hl 0 rfl ?_
  refine r_iload_n C dL_law_517 hl 3 rfl ?_
  refine r_iconst (z := 1) C dL_law_518 rfl ?_
  refine r_iadd C dL_law_519 ?_
  refine l_sld C E hW (by omega) dL_law_520 ?_
  rw [hzz1]
  refine r_callW (rest := [.int (iI ((fLoose (P 0) z1 M U).1))]) (r := some (.int (iI ((mLoose z1 D).1)))) (wr := cW g o ma ta sa xa q a ((fLoose (P 0) z1 M U).2.1) (T) ((fLoose (P 0) z1 M U).2.2) (X) P) (ws2 := lWd g o od ma ta sa xa ad q a ((fLoose (P 0) z1 M U).2.1) (T) ((fLoose (P 0) z1 M U).2.2) (X) P K) (st1 := [.int (iI ((mLoose z1 D).1)), .int (iI ((fLoose (P 0) z1 M U).1))]) C hl.1 hW hA (c_X5_looseL l g od ad D z1 K hDo hNo hWo hz1 hK) v_L_69 rfl [79, 80, 81, 82, 83, 84, 85, 86, 87, 88, 89, 90, 91, 92, 93, 94, 95, 96, 97] [0, 1, 2, 3, 4, 5, 6, 7, 8, 9, 10, 11, 12, 13, 14, 15, 16, 17, 18, 19, 20, 21, 22, 23, 24, 25, 26, 27, 28, 29, 30, 31, 32, 33, 34, 35, 36, 37, 38, 39, 40, 41, 42, 43, 44, 45, 46, 47, 48, 49, 50, 51, 52, 53, 54, 55, 56, 57, 58, 59, 60, 61, 62, 63, 64, 65, 66, 67, 68, 69, 70, 71, 72, 73, 74, 75, 76, 77, 78] [0, 1, 2, 3, 4, 5, 6, 7, 8, 9, 10, 11, 12, 13, 14, 15, 16, 17, 18, 19, 20, 21, 22, 23, 24, 25, 26, 27, 28, 29, 30, 31, 32, 33, 34, 35, 36, 37, 38, 39, 40, 41, 42, 43, 44, 45, 46, 47, 48, 49, 50, 51, 52, 53, 54, 55, 56, 57, 58, 59, 60, 61, 62, 63, 64, 65, 66, 67, 68, 69, 70, 71, 72, 73, 74, 75, 76, 77, 78, 79, 80, 81, 82, 83, 84, 85, 86, 87, 88, 89, 90, 91, 92, 93, 94, 95, 96, 97] rfl rfl (by decide) (by decide) rfl rfl 0 rfl rfl rfl (by decide) ⟨Nat.le_of_ble_eq_true rfl, Nat.le_of_ble_eq_true rfl⟩ (Nat.le_of_ble_eq_true rfl) dL_law_521 rfl rfl (fun H locs hW => ?_)
  rw [hs.1]
  refine lv_icmp_eq (tgt := 770) C.1.1 C.1.2.1 dL_law_524 (by decide) (fun _ => ?_) (fun hne => absurd rfl hne)
  have hg := hs.2
  have hK9 : (mLoose z1 D).2 = K := hK
  rw [hK9] at hg
  have hrn : f_rows ((fLoose (P 0) z1 M U).2.1) = f_rows M ∧ f_now ((fLoose (P 0) z1 M U).2.1) = f_now M := by unfold fLoose; (repeat' split) <;> first | exact ⟨rfl, rfl⟩ | exact fRef_rn _ _
  exact hgo _ _ _ ⟨q, a, _, _, _, _, P, _, hW, hg, rR_same hR hrn, hl⟩
set_option maxHeartbeats 4000000 in
set_option maxRecDepth 100000 in
theorem lc_origins (C : Cx g p m c code 4 s #[Value.ref b] RL) (E : lEnv A b L xs s) {k i : Int} (hk : 0 ≤ k ∧ k < 1000) (hi : 0 ≤ i ∧ i + 5 ≤ L) (hgo : lGo g p l e s m below meth c A b o od ma ta sa xa ad k i) (h : lStt g s A b o od ma ta sa xa ad k i H locs ls) : W p l e room_1 s m #[Value.ref b] below meth c H locs 98 71790 (lw_Z below #[Value.ref b] s) (F0 m 529 ls []) := by
  obtain ⟨q, a, M, T, U, X, P, D, hW, hS, hR, hl⟩ := h
  have hA : ∀ q, s.heap.size ≤ q → A q := E.2.2.2.1
  have hL := E.2.2.2.2
  have hMo : fOk M := gS_f hS (by omega)
  have hTo := hS.2.2.1.1
  have hUo := hS.2.2.1.2.1
  have hXo := hS.2.2.1.2.2.1
  have hPo := hS.2.2.1.2.2.2.1
  have hDo := hS.2.2.1.2.2.2.2.1
  have hNo := hS.2.2.1.2.2.2.2.2.1
  have hWo := hS.2.2.1.2.2.2.2.2.2
  have hr0 := rR_0 hR hS.1.1
  have hr1 := rR_1 hR
  have hz1 := zx_r xs (i + 1)
  have hz2 := zx_r xs (i + 2)
  have hs := s_origins (n := zx xs (i + 1)) (f := zx xs (i + 2)) hS (by omega)
  generalize hzz1 : zx xs (i + 1) = z1 at hz1 hs
  generalize hzz2 : zx xs (i + 2) = z2 at hz2 hs
  refine r_aload_n C dL_law_529 hl 1 rfl ?_
  refine r_aload_n C dL_law_530 hl 0 rfl ?_
  refine r_iload_n C dL_law_531 hl 3 rfl ?_
  refine r_iconst (z := 1) C dL_law_532 rfl ?_
  refine r_iadd C dL_law_533 ?_
  refine l_sld C E hW (by omega) dL_law_534 ?_
  rw [hzz1]
  refine r_aload_n C dL_law_535 hl 0 rfl ?_
  refine r_iload_n C dL_law_536 hl 3 rfl ?_
  refine r_iconst (z := 2) C dL_law_537 rfl ?_
  refine r_iadd C dL_law_538 ?_
  refine l_sld C E hW (by omega) dL_law_539 ?_
  rw [hzz2]
  refine r_callW (rest := []) (r := some (.int (iI ((fOrigins (P 0) z1 z2 M T).1)))) (wr := pW g (q 1) (a 1) (P 1) ++ (pW g (q 2) (a 2) (P 2) ++ (pW g (q 3) (a 3) (P 3) ++ (pW g (q 4) (a 4) (P 4) ++ (pW g (q 5) (a 5) (P 5) ++ (pW g (q 6) (a 6) (P 6) ++ mF g od ad (m_refused D) (m_now D) (m_kept D) (m_states D) (m_place D) (m_startFact D) (m_node D) (m_fact D) (m_ahead D) (m_inside D) (m_entries D) (m_caller D) (m_following D) (m_firstCaller D) (m_lastCaller D) (m_callers D) (m_known D) (m_loose D) (m_stack D) (m_high D) (m_pairs D) (m_told D) (m_text D) (m_typed D) (m_orders D) (m_written D) (m_look D))))))) (ws2 := lWd g o od ma ta sa xa ad q a ((fOrigins (P 0) z1 z2 M T).2.1) ((fOrigins (P 0) z1 z2 M T).2.2) (U) (X) P D) (st1 := [.int (iI ((fOrigins (P 0) z1 z2 M T).1))]) C hl.1 hW hA (c_X4_origins l g o ma M ta T sa U xa X (q 0) (a 0) (P 0) z1 z2 hMo hTo hUo hXo (hPo 0 (by omega)) hr0 hz1 hz2) v_L_70 rfl [0, 1, 2, 3, 4, 5, 6, 7, 8, 9, 10, 11, 12, 13, 14, 15, 16, 17, 18, 19, 20, 21, 22, 23, 24] [25, 26, 27, 28, 29, 30, 31, 32, 33, 34, 35, 36, 37, 38, 39, 40, 41, 42, 43, 44, 45, 46, 47, 48, 49, 50, 51, 52, 53, 54, 55, 56, 57, 58, 59, 60, 61, 62, 63, 64, 65, 66, 67, 68, 69, 70, 71, 72, 73, 74, 75, 76, 77, 78, 79, 80, 81, 82, 83, 84, 85, 86, 87, 88, 89, 90, 91, 92, 93, 94, 95, 96, 97] [73, 74, 75, 76, 77, 78, 79, 80, 81, 82, 83, 84, 85, 86, 87, 88, 89, 90, 91, 92, 93, 94, 95, 96, 97, 0, 1, 2, 3, 4, 5, 6, 7, 8, 9, 10, 11, 12, 13, 14, 15, 16, 17, 18, 19, 20, 21, 22, 23, 24, 25, 26, 27, 28, 29, 30, 31, 32, 33, 34, 35, 36, 37, 38, 39, 40, 41, 42, 43, 44, 45, 46, 47, 48, 49, 50, 51, 52, 53, 54, 55, 56, 57, 58, 59, 60, 61, 62, 63, 64, 65, 66, 67, 68, 69, 70, 71, 72] rfl rfl (by decide) (by decide) rfl rfl 0 rfl rfl rfl (by decide) ⟨Nat.le_of_ble_eq_true rfl, Nat.le_of_ble_eq_true rfl⟩ (Nat.le_of_ble_eq_true rfl) dL_law_540 rfl rfl (fun H locs hW => ?_)
  refine opq ((mOrigins z1 z2 D).2) (fun K hK => ?_)
  refine r_aload_n C dL_law_543 hl 2 rfl ?_
  refine r_aload_n C dL_law_544 hl 0 rfl ?_
  refine r_iload_n C dL_law_545 hl 3 rfl ?_
  refine r_iconst (z := 1) C dL_law_546 rfl ?_
  refine r_iadd C dL_law_547 ?_
  refine l_sld C E hW (by omega) dL_law_548 ?_
  rw [hzz1]
  refine r_aload_n C dL_law_549 hl 0 rfl ?_
  refine r_iload_n C dL_law_550 hl 3 rfl ?_
  refine r_iconst (z := 2) C dL_law_551 rfl ?_
  refine r_iadd C dL_law_552 ?_
  refine l_sld C E hW (by omega) dL_law_553 ?_
  rw [hzz2]
  refine r_callW (rest := [.int (iI ((fOrigins (P 0) z1 z2 M T).1))]) (r := some (.int (iI ((mOrigins z1 z2 D).1)))) (wr := cW g o ma ta sa xa q a ((fOrigins (P 0) z1 z2 M T).2.1) ((fOrigins (P 0) z1 z2 M T).2.2) (U) (X) P) (ws2 := lWd g o od ma ta sa xa ad q a ((fOrigins (P 0) z1 z2 M T).2.1) ((fOrigins (P 0) z1 z2 M T).2.2) (U) (X) P K) (st1 := [.int (iI ((mOrigins z1 z2 D).1)), .int (iI ((fOrigins (P 0) z1 z2 M T).1))]) C hl.1 hW hA (c_X5_originsL l g od ad D z1 z2 K hDo hNo hWo hz1 hz2 hK) v_L_73 rfl [79, 80, 81, 82, 83, 84, 85, 86, 87, 88, 89, 90, 91, 92, 93, 94, 95, 96, 97] [0, 1, 2, 3, 4, 5, 6, 7, 8, 9, 10, 11, 12, 13, 14, 15, 16, 17, 18, 19, 20, 21, 22, 23, 24, 25, 26, 27, 28, 29, 30, 31, 32, 33, 34, 35, 36, 37, 38, 39, 40, 41, 42, 43, 44, 45, 46, 47, 48, 49, 50, 51, 52, 53, 54, 55, 56, 57, 58, 59, 60, 61, 62, 63, 64, 65, 66, 67, 68, 69, 70, 71, 72, 73, 74, 75, 76, 77, 78] [0, 1, 2, 3, 4, 5, 6, 7, 8, 9, 10, 11, 12, 13, 14, 15, 16, 17, 18, 19, 20, 21, 22, 23, 24, 25, 26, 27, 28, 29, 30, 31, 32, 33, 34, 35, 36, 37, 38, 39, 40, 41, 42, 43, 44, 45, 46, 47, 48, 49, 50, 51, 52, 53, 54, 55, 56, 57, 58, 59, 60, 61, 62, 63, 64, 65, 66, 67, 68, 69, 70, 71, 72, 73, 74, 75, 76, 77, 78, 79, 80, 81, 82, 83, 84, 85, 86, 87, 88, 89, 90, 91, 92, 93, 94, 95, 96, 97] rfl rfl (by decide) (by decide) rfl rfl 0 rfl rfl rfl (by decide) ⟨Nat.le_of_ble_eq_true rfl, Nat.le_of_ble_eq_true rfl⟩ (Nat.le_of_ble_eq_true rfl) dL_law_554 rfl rfl (fun H locs hW => ?_)
  rw [hs.1]
  refine lv_icmp_eq (tgt := 770) C.1.1 C.1.2.1 dL_law_557 (by decide) (fun _ => ?_) (fun hne => absurd rfl hne)
  have hg := hs.2
  have hK9 : (mOrigins z1 z2 D).2 = K := hK
  rw [hK9] at hg
  have hrn : f_rows ((fOrigins (P 0) z1 z2 M T).2.1) = f_rows M ∧ f_now ((fOrigins (P 0) z1 z2 M T).2.1) = f_now M := by unfold fOrigins; (repeat' split) <;> first | exact ⟨rfl, rfl⟩ | exact fRef_rn _ _
  exact hgo _ _ _ ⟨q, a, _, _, _, _, P, _, hW, hg, rR_same hR hrn, hl⟩
set_option maxHeartbeats 4000000 in
set_option maxRecDepth 100000 in
theorem lc_summary (C : Cx g p m c code 4 s #[Value.ref b] RL) (E : lEnv A b L xs s) {k i : Int} (hk : 0 ≤ k ∧ k < 1000) (hi : 0 ≤ i ∧ i + 5 ≤ L) (hgo : lGo g p l e s m below meth c A b o od ma ta sa xa ad k i) (h : lStt g s A b o od ma ta sa xa ad k i H locs ls) : W p l e room_1 s m #[Value.ref b] below meth c H locs 98 71790 (lw_Z below #[Value.ref b] s) (F0 m 562 ls []) := by
  obtain ⟨q, a, M, T, U, X, P, D, hW, hS, hR, hl⟩ := h
  have hA : ∀ q, s.heap.size ≤ q → A q := E.2.2.2.1
  have hL := E.2.2.2.2
  have hMo : fOk M := gS_f hS (by omega)
  have hTo := hS.2.2.1.1
  have hUo := hS.2.2.1.2.1
  have hXo := hS.2.2.1.2.2.1
  have hPo := hS.2.2.1.2.2.2.1
  have hDo := hS.2.2.1.2.2.2.2.1
  have hNo := hS.2.2.1.2.2.2.2.2.1
  have hWo := hS.2.2.1.2.2.2.2.2.2
  have hr0 := rR_0 hR hS.1.1
  have hr1 := rR_1 hR
  have hz1 := zx_r xs (i + 1)
  have hz2 := zx_r xs (i + 2)
  have hs := s_summary (e := zx xs (i + 1)) (b := zx xs (i + 2)) hS (by omega)
  generalize hzz1 : zx xs (i + 1) = z1 at hz1 hs
  generalize hzz2 : zx xs (i + 2) = z2 at hz2 hs
  refine r_aload_n C dL_law_562 hl 1 rfl ?_
  refine r_aload_n C dL_law_563 hl 0 rfl ?_
  refine r_iload_n C dL_law_564 hl 3 rfl ?_
  refine r_iconst (z := 1) C dL_law_565 rfl ?_
  refine r_iadd C dL_law_566 ?_
  refine l_sld C E hW (by omega) dL_law_567 ?_
  rw [hzz1]
  refine r_aload_n C dL_law_568 hl 0 rfl ?_
  refine r_iload_n C dL_law_569 hl 3 rfl ?_
  refine r_iconst (z := 2) C dL_law_570 rfl ?_
  refine r_iadd C dL_law_571 ?_
  refine l_sld C E hW (by omega) dL_law_572 ?_
  rw [hzz2]
  refine r_callW (rest := []) (r := some (.int (iI ((fSummary (P 0) z1 z2 M T).1)))) (wr := pW g (q 1) (a 1) (P 1) ++ (pW g (q 2) (a 2) (P 2) ++ (pW g (q 3) (a 3) (P 3) ++ (pW g (q 4) (a 4) (P 4) ++ (pW g (q 5) (a 5) (P 5) ++ (pW g (q 6) (a 6) (P 6) ++ mF g od ad (m_refused D) (m_now D) (m_kept D) (m_states D) (m_place D) (m_startFact D) (m_node D) (m_fact D) (m_ahead D) (m_inside D) (m_entries D) (m_caller D) (m_following D) (m_firstCaller D) (m_lastCaller D) (m_callers D) (m_known D) (m_loose D) (m_stack D) (m_high D) (m_pairs D) (m_told D) (m_text D) (m_typed D) (m_orders D) (m_written D) (m_look D))))))) (ws2 := lWd g o od ma ta sa xa ad q a ((fSummary (P 0) z1 z2 M T).2.1) ((fSummary (P 0) z1 z2 M T).2.2) (U) (X) P D) (st1 := [.int (iI ((fSummary (P 0) z1 z2 M T).1))]) C hl.1 hW hA (c_X4_summary l g o ma M ta T sa U xa X (q 0) (a 0) (P 0) z1 z2 hMo hTo hUo hXo (hPo 0 (by omega)) hr0 hz1 hz2) v_L_74 rfl [0, 1, 2, 3, 4, 5, 6, 7, 8, 9, 10, 11, 12, 13, 14, 15, 16, 17, 18, 19, 20, 21, 22, 23, 24] [25, 26, 27, 28, 29, 30, 31, 32, 33, 34, 35, 36, 37, 38, 39, 40, 41, 42, 43, 44, 45, 46, 47, 48, 49, 50, 51, 52, 53, 54, 55, 56, 57, 58, 59, 60, 61, 62, 63, 64, 65, 66, 67, 68, 69, 70, 71, 72, 73, 74, 75, 76, 77, 78, 79, 80, 81, 82, 83, 84, 85, 86, 87, 88, 89, 90, 91, 92, 93, 94, 95, 96, 97] [73, 74, 75, 76, 77, 78, 79, 80, 81, 82, 83, 84, 85, 86, 87, 88, 89, 90, 91, 92, 93, 94, 95, 96, 97, 0, 1, 2, 3, 4, 5, 6, 7, 8, 9, 10, 11, 12, 13, 14, 15, 16, 17, 18, 19, 20, 21, 22, 23, 24, 25, 26, 27, 28, 29, 30, 31, 32, 33, 34, 35, 36, 37, 38, 39, 40, 41, 42, 43, 44, 45, 46, 47, 48, 49, 50, 51, 52, 53, 54, 55, 56, 57, 58, 59, 60, 61, 62, 63, 64, 65, 66, 67, 68, 69, 70, 71, 72] rfl rfl (by decide) (by decide) rfl rfl 0 rfl rfl rfl (by decide) ⟨Nat.le_of_ble_eq_true rfl, Nat.le_of_ble_eq_true rfl⟩ (Nat.le_of_ble_eq_true rfl) dL_law_573 rfl rfl (fun H locs hW => ?_)
  refine opq ((mSummary z1 z2 D).2) (fun K hK => ?_)
  refine r_aload_n C dL_law_576 hl 2 rfl ?_
  refine r_aload_n C dL_law_577 hl 0 rfl ?_
  refine r_iload_n C dL_law_578 hl 3 rfl ?_
  refine r_iconst (z := 1) C dL_law_579 rfl ?_
  refine r_iadd C dL_law_580 ?_
  refine l_sld C E hW (by omega) dL_law_581 ?_
  rw [hzz1]
  refine r_aload_n C dL_law_582 hl 0 rfl ?_
  refine r_iload_n C dL_law_583 hl 3 rfl ?_
  refine r_iconst (z := 2) C dL_law_584 rfl ?_
  refine r_iadd C dL_law_585 ?_
  refine l_sld C E hW (by omega) dL_law_586 ?_
  rw [hzz2]
  refine r_callW (rest := [.int (iI ((fSummary (P 0) z1 z2 M T).1))]) (r := some (.int (iI ((mSummary z1 z2 D).1)))) (wr := cW g o ma ta sa xa q a ((fSummary (P 0) z1 z2 M T).2.1) ((fSummary (P 0) z1 z2 M T).2.2) (U) (X) P) (ws2 := lWd g o od ma ta sa xa ad q a ((fSummary (P 0) z1 z2 M T).2.1) ((fSummary (P 0) z1 z2 M T).2.2) (U) (X) P K) (st1 := [.int (iI ((mSummary z1 z2 D).1)), .int (iI ((fSummary (P 0) z1 z2 M T).1))]) C hl.1 hW hA (c_X5_summaryL l g od ad D z1 z2 K hDo hNo hWo hz1 hz2 hK) v_L_77 rfl [79, 80, 81, 82, 83, 84, 85, 86, 87, 88, 89, 90, 91, 92, 93, 94, 95, 96, 97] [0, 1, 2, 3, 4, 5, 6, 7, 8, 9, 10, 11, 12, 13, 14, 15, 16, 17, 18, 19, 20, 21, 22, 23, 24, 25, 26, 27, 28, 29, 30, 31, 32, 33, 34, 35, 36, 37, 38, 39, 40, 41, 42, 43, 44, 45, 46, 47, 48, 49, 50, 51, 52, 53, 54, 55, 56, 57, 58, 59, 60, 61, 62, 63, 64, 65, 66, 67, 68, 69, 70, 71, 72, 73, 74, 75, 76, 77, 78] [0, 1, 2, 3, 4, 5, 6, 7, 8, 9, 10, 11, 12, 13, 14, 15, 16, 17, 18, 19, 20, 21, 22, 23, 24, 25, 26, 27, 28, 29, 30, 31, 32, 33, 34, 35, 36, 37, 38, 39, 40, 41, 42, 43, 44, 45, 46, 47, 48, 49, 50, 51, 52, 53, 54, 55, 56, 57, 58, 59, 60, 61, 62, 63, 64, 65, 66, 67, 68, 69, 70, 71, 72, 73, 74, 75, 76, 77, 78, 79, 80, 81, 82, 83, 84, 85, 86, 87, 88, 89, 90, 91, 92, 93, 94, 95, 96, 97] rfl rfl (by decide) (by decide) rfl rfl 0 rfl rfl rfl (by decide) ⟨Nat.le_of_ble_eq_true rfl, Nat.le_of_ble_eq_true rfl⟩ (Nat.le_of_ble_eq_true rfl) dL_law_587 rfl rfl (fun H locs hW => ?_)
  rw [hs.1]
  refine lv_icmp_eq (tgt := 770) C.1.1 C.1.2.1 dL_law_590 (by decide) (fun _ => ?_) (fun hne => absurd rfl hne)
  have hg := hs.2
  have hK9 : (mSummary z1 z2 D).2 = K := hK
  rw [hK9] at hg
  have hrn : f_rows ((fSummary (P 0) z1 z2 M T).2.1) = f_rows M ∧ f_now ((fSummary (P 0) z1 z2 M T).2.1) = f_now M := by unfold fSummary; (repeat' split) <;> first | exact ⟨rfl, rfl⟩ | exact fRef_rn _ _
  exact hgo _ _ _ ⟨q, a, _, _, _, _, P, _, hW, hg, rR_same hR hrn, hl⟩
end LC

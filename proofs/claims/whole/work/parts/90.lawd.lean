/-! the law's loop, its start -/
theorem and31 (x : Int32) : ∃ z : Int, (0 ≤ z ∧ z ≤ 31) ∧ x &&& iI 31 = iI z := by
  have h31 : (iI 31).toBitVec.toNat = 31 := by decide
  have h : (x &&& iI 31).toBitVec.toNat = x.toBitVec.toNat &&& 31 := by rw [Int32.toBitVec_and, BitVec.toNat_and, h31]
  refine ⟨(((x &&& iI 31).toBitVec.toNat : Nat) : Int), ?_, ?_⟩
  · have := @Nat.and_le_right x.toBitVec.toNat 31
    rw [h]; omega
  · rw [iI_nat]
    apply Int32.toBitVec.inj
    simp [nI]
section LL
variable {g : GG} {p : Program} {l : Launch} {e : Env} {s : State} {m : MethodId} {below : List Frame} {meth : Method} {c : Code} {b L : Nat} {xs : Nat → Int32} {A : Nat → Prop} {o od : Nat} {ma ta sa xa ad : Nat → Nat} {H : Heap} {locs : List Loc} {ls : Array Slot}
set_option maxHeartbeats 4000000 in
set_option maxRecDepth 100000 in
theorem law_head (hr : meth.sig.returnType = ret) (hlocks : meth.locks = false) (C : Cx g p m c code 4 s #[Value.ref b] RL) (E : lEnv A b L xs s) (hAf : ∀ q, A q → s.heap.size ≤ q) {k i : Int} (hi : 0 ≤ i ∧ i ≤ 3000) (h : lStt g s A b o od ma ta sa xa ad k i H locs ls) (kk : i + 5 ≤ L → W p l e room_1 s m #[Value.ref b] below meth c H locs 98 71790 (lw_Z below #[Value.ref b] s) (F0 m 26 ls [])) : W p l e room_1 s m #[Value.ref b] below meth c H locs 98 71790 (lw_Z below #[Value.ref b] s) (F0 m 18 ls []) := by
  obtain ⟨q, a, M, T, U, X, P, D, hW, hS, hR, hl⟩ := h
  have hL := E.2.2.2.2
  refine r_iload_n C dL_law_18 hl 3 rfl ?_
  refine r_aload_n C dL_law_19 hl 0 rfl ?_
  refine l_slen C E hW dL_law_20 ?_
  refine r_iconst (z := 5) C dL_law_21 rfl ?_
  refine r_isub C dL_law_22 ?_
  refine r_icmp_gt C 776 dL_law_23 (by decide) (by omega) (by omega) (fun hc => ?_) (fun hc => kk (by omega))
  refine r_iconst (z := 1) C dL_law_776 rfl ?_
  refine va_forget (fun l hl => hAf _ (hW.2.2.2.2 l hl)) ?_
  refine W.widen (k := 600000) (n := 7302250) (Nat.le_of_ble_eq_true rfl) (Nat.le_of_ble_eq_true rfl) ?_
  exact lw_ret C.1.1 C.1.2.1 hr hlocks dL_law_777
set_option maxHeartbeats 4000000 in
set_option maxRecDepth 100000 in
theorem law_body (C : Cx g p m c code 4 s #[Value.ref b] RL) (E : lEnv A b L xs s) {k i : Int} (hk : 0 ≤ k ∧ k < 1000) (hi : 0 ≤ i ∧ i + 5 ≤ L) (hgo : lGo g p l e s m below meth c A b o od ma ta sa xa ad k i) (h : lStt g s A b o od ma ta sa xa ad k i H locs ls) : W p l e room_1 s m #[Value.ref b] below meth c H locs 98 71790 (lw_Z below #[Value.ref b] s) (F0 m 26 ls []) := by
  obtain ⟨q, a, M, T, U, X, P, D, hW, hS, hR, hl⟩ := id h
  refine r_aload_n C dL_law_26 hl 0 rfl ?_
  refine r_iload_n C dL_law_27 hl 3 rfl ?_
  refine l_sld C E hW (by omega) dL_law_28 ?_
  refine r_bipush (z := 31) C dL_law_29 rfl ?_
  obtain ⟨z, hz, he⟩ := and31 (iI (zx xs i))
  refine lv_iand C.1.1 C.1.2.1 dL_law_31 ?_
  rw [he]
  by_cases h22 : z ≤ 22
  · have hzz : z = 0 ∨ z = 1 ∨ z = 2 ∨ z = 3 ∨ z = 4 ∨ z = 5 ∨ z = 6 ∨ z = 7 ∨ z = 8 ∨ z = 9 ∨ z = 10 ∨ z = 11 ∨ z = 12 ∨ z = 13 ∨ z = 14 ∨ z = 15 ∨ z = 16 ∨ z = 17 ∨ z = 18 ∨ z = 19 ∨ z = 20 ∨ z = 21 ∨ z = 22 := by omega
    rcases hzz with rfl | rfl | rfl | rfl | rfl | rfl | rfl | rfl | rfl | rfl | rfl | rfl | rfl | rfl | rfl | rfl | rfl | rfl | rfl | rfl | rfl | rfl | rfl
    · exact r_tableIn C 140 dL_law_32 (by decide) (by decide) rfl (by decide) (lc_proc C E hk hi hgo h)
    · exact r_tableIn C 153 dL_law_32 (by decide) (by decide) rfl (by decide) (lc_node C E hk hi hgo h)
    · exact r_tableIn C 176 dL_law_32 (by decide) (by decide) rfl (by decide) (lc_edge C E hk hi hgo h)
    · exact r_tableIn C 209 dL_law_32 (by decide) (by decide) rfl (by decide) (lc_call C E hk hi hgo h)
    · exact r_tableIn C 252 dL_law_32 (by decide) (by decide) rfl (by decide) (lc_flows C E hk hi hgo h)
    · exact r_tableIn C 305 dL_law_32 (by decide) (by decide) rfl (by decide) (lc_starts C E hk hi hgo h)
    · exact r_tableIn C 328 dL_law_32 (by decide) (by decide) rfl (by decide) (lc_cuts C E hk hi hgo h)
    · exact r_tableIn C 351 dL_law_32 (by decide) (by decide) rfl (by decide) (lc_at C E hk hi hgo h)
    · exact r_tableIn C 384 dL_law_32 (by decide) (by decide) rfl (by decide) (lc_about C E hk hi hgo h)
    · exact r_tableIn C 417 dL_law_32 (by decide) (by decide) rfl (by decide) (lc_goes C E hk hi hgo h)
    · exact r_tableIn C 460 dL_law_32 (by decide) (by decide) rfl (by decide) (lc_count C E hk hi hgo h)
    · exact r_tableIn C 483 dL_law_32 (by decide) (by decide) rfl (by decide) (lc_holds C E hk hi hgo h)
    · exact r_tableIn C 506 dL_law_32 (by decide) (by decide) rfl (by decide) (lc_loose C E hk hi hgo h)
    · exact r_tableIn C 529 dL_law_32 (by decide) (by decide) rfl (by decide) (lc_origins C E hk hi hgo h)
    · exact r_tableIn C 562 dL_law_32 (by decide) (by decide) rfl (by decide) (lc_summary C E hk hi hgo h)
    · exact r_tableIn C 595 dL_law_32 (by decide) (by decide) rfl (by decide) (lc_entry C E hk hi hgo h)
    · exact r_tableIn C 628 dL_law_32 (by decide) (by decide) rfl (by decide) (lc_witness C E hk hi hgo h)
    · exact r_tableIn C 671 dL_law_32 (by decide) (by decide) rfl (by decide) (lc_type C E hk hi hgo h)
    · exact r_tableIn C 694 dL_law_32 (by decide) (by decide) rfl (by decide) (lc_clear C E hk hi hgo h)
    · exact r_tableIn C 707 dL_law_32 (by decide) (by decide) rfl (by decide) (lc_does C E hk hi hgo h)
    · exact r_tableIn C 720 dL_law_32 (by decide) (by decide) rfl (by decide) (lc_back C E hk hi hgo h)
    · exact r_tableIn C 733 dL_law_32 (by decide) (by decide) rfl (by decide) (lc_told C E hk hi hgo h)
    · exact r_tableIn C 756 dL_law_32 (by decide) (by decide) rfl (by decide) (lc_digest C E hk hi hgo h)
  · exact r_tableD C 770 dL_law_32 (by omega) (by decide) (fun _ h9 => absurd h9 h22) (hgo H locs ls ⟨q, a, M, T, U, X, P, D, hW, gS_mono hS (by omega), hR, hl⟩)
theorem law_loop (hr : meth.sig.returnType = ret) (hlocks : meth.locks = false) (C : Cx g p m c code 4 s #[Value.ref b] RL) (E : lEnv A b L xs s) (hAf : ∀ q, A q → s.heap.size ≤ q) (n : Nat) : ∀ (k i : Int), i = 5 * k → 0 ≤ k ∧ k ≤ 512 → (L : Int) < i + 5 * n → ∀ (H : Heap) (locs : List Loc) (ls : Array Slot), lStt g s A b o od ma ta sa xa ad k i H locs ls → W p l e room_1 s m #[Value.ref b] below meth c H locs 98 71790 (lw_Z below #[Value.ref b] s) (F0 m 18 ls []) := by
  have hL := E.2.2.2.2
  induction n with
  | zero =>
    intro k i hi hk hn H locs ls h
    exact law_head hr hlocks C E hAf (by omega) h (fun h9 => absurd h9 (by omega))
  | succ n ih =>
    intro k i hi hk hn H locs ls h
    refine law_head hr hlocks C E hAf (by omega) h (fun h9 => ?_)
    refine law_body C E (by omega) (by omega) ?_ h
    intro H locs ls h
    obtain ⟨q, a, M, T, U, X, P, D, hW, hS, hR, hl⟩ := h
    refine r_iinc (v := i + 5) C [(3, .int (iI (i + 5))), (0, .ref b), (1, .ref o), (2, .ref od)] dL_law_770 hl 3 rfl (by decide) rfl rfl (fun ls hl => ?_)
    refine r_goto C 18 dL_law_773 (by decide) ?_
    exact ih (k + 1) (i + 5) (by omega) (by omega) (by omega) H locs ls ⟨q, a, M, T, U, X, P, D, hW, hS, hR, lv_sub hl [1, 2, 3, 0] rfl⟩
end LL
theorem tb_1 {w : Cond} (i : Nat) (h0 : tables_1_1[i]? = some w) : w ∈ lw_tbl := List.mem_append_right _ (show w ∈ tables_1_1 ++ (tables_1_2 ++ (tables_1_3 ++ tables_1_4)) from List.mem_append_left _ (List.mem_of_getElem? h0))
theorem tb_2 {w : Cond} (i : Nat) (h0 : tables_1_2[i]? = some w) : w ∈ lw_tbl := List.mem_append_right _ (show w ∈ tables_1_1 ++ (tables_1_2 ++ (tables_1_3 ++ tables_1_4)) from List.mem_append_right _ (List.mem_append_left _ (List.mem_of_getElem? h0)))
theorem nest_lw : ∀ w ∈ nestW, w ∈ lw_tbl := by
  intro w hw
  simp only [nestW, List.mem_cons, List.not_mem_nil, or_false] at hw
  rcases hw with rfl | rfl | rfl | rfl | rfl | rfl | rfl | rfl | rfl
  · exact tb_1 21 (by decide +kernel)
  · exact tb_1 72 (by decide +kernel)
  · exact tb_1 87 (by decide +kernel)
  · exact tb_1 110 (by decide +kernel)
  · exact tb_2 64 (by decide +kernel)
  · exact tb_2 67 (by decide +kernel)
  · exact tb_2 70 (by decide +kernel)
  · exact tb_2 124 (by decide +kernel)
  · exact tb_2 125 (by decide +kernel)
theorem ao_lw : Cond.arrayOver (.object "MatchedFlows$Program") ∈ lw_tbl := tb_1 18 (by decide +kernel)
theorem KK_0 {s : State} {args : Array Value} (hts : ∀ w ∈ lw_tbl, w.before args s = true) : ∃ g : GG, KK g s := by
  have ht : ∀ w ∈ TT, w.before args s = true := fun w hw => hts w (tt_lw hw)
  obtain ⟨c0, i0, h0⟩ := u_known (C := RX0) (T := TX0) (N := 12) (n := 12) ht kl_0 (ht _ k_109)
  obtain ⟨c1, i1, h1⟩ := u_known (C := RX1) (T := TX1) (N := 2) (n := 2) ht kl_1 (ht _ k_71)
  obtain ⟨c2, i2, h2⟩ := u_known (C := RX2) (T := TX2) (N := 13) (n := 13) ht kl_2 (ht _ k_20)
  obtain ⟨c3, i3, h3⟩ := u_known (C := RX3) (T := TX3) (N := 5) (n := 5) ht kl_3 (ht _ k_86)
  obtain ⟨c4, i4, h4⟩ := u_known (C := RX4) (T := TX4) (N := 9) (n := 9) ht kl_4 (ht _ k_10)
  obtain ⟨c5, i5, h5⟩ := u_known (C := RX5) (T := TX5) (N := 27) (n := 27) ht kl_5 (ht _ k_555)
  obtain ⟨cI, kI, mI, f1, f2, f3⟩ := Cond.arrayClass_spec (ht _ k_69)
  obtain ⟨cL, kL, mL, g1, g2, g3⟩ := Cond.arrayClass_spec (ht _ k_176)
  obtain ⟨mP, cP, kP, e1, e2, e3, e4, e5⟩ := Cond.arrayOver_spec (hts _ ao_lw)
  refine ⟨((fun k => if k = 0 then c0 else if k = 1 then c1 else if k = 2 then c2 else if k = 3 then c3 else if k = 4 then c4 else c5, fun k => if k = 0 then i0 else if k = 1 then i1 else if k = 2 then i2 else if k = 3 then i3 else if k = 4 then i4 else i5), cI, cL, cP), ⟨?_, ?_⟩, ?_, ?_⟩
  · intro k q hq
    match k, hq with
    | 0, hq => cases hq; exact h0
    | 1, hq => cases hq; exact h1
    | 2, hq => cases hq; exact h2
    | 3, hq => cases hq; exact h3
    | 4, hq => cases hq; exact h4
    | 5, hq => cases hq; exact h5
    | k + 6, hq => exact absurd hq (by simp)
  · intro k q hq
    match k, hq with
    | 0, hq => cases hq; exact ⟨fun n z => ⟨fun k h => (by cases h), kI, f2, mI, f3⟩, f1⟩
    | 1, hq => cases hq; exact ⟨fun n z => ⟨fun k h => (by cases h), kL, g2, mL, g3⟩, g1⟩
    | 2, hq => cases hq; exact ⟨fun n z => ⟨fun k h => (by cases h), kP, e3, mP, e4⟩, ⟨kP, mP, e3, e4, e1, e5⟩⟩
    | k + 3, hq => exact absurd hq (by simp)
  · intro w hw
    have hq := nestW_q w hw
    exact va_Nw.of (by obtain ⟨a, i, x, y, rfl⟩ := hq; rfl) (hts w (nest_lw w hw))
  · exact va_AO.of (hts _ ao_lw)
set_option maxHeartbeats 4000000 in
set_option maxRecDepth 100000 in
theorem whole_start {p : Program} {e : Env} {s : State} {m : MethodId} {below : List Frame} {meth : Method} {c : Code} (l : Launch) (hflags : l.flags = flags0) {b L : Nat} {xs : Nat → Int32} (hL : L ≤ 2560) (C0 : lw_At p s m meth c b L xs) : W p l e room_1 s m #[Value.ref b] below meth c s.heap [] 0 0 (lw_Z below #[Value.ref b] s) (entryFrame m ([Value.ref b] : List Value).toArray 4) := by
  obtain ⟨hx, hb, hr, hml, hown, hts, hX, hbl, hlocks, hgv⟩ := id C0
  obtain ⟨g, hK⟩ := KK_0 hts
  have C : Cx g p m c code 4 s #[Value.ref b] RL := ⟨⟨hx, hb, hml, hown, fun w hw => hts w (tt_lw hw)⟩, hK⟩
  obtain ⟨A, hAd⟩ : ∃ A : Nat → Prop, A = fun q => s.heap.size ≤ q := ⟨_, rfl⟩
  have hA : ∀ q : Nat, s.heap.size ≤ q → A q := fun q h => by rw [hAd]; exact h
  have hAf : ∀ q : Nat, A q → s.heap.size ≤ q := fun q h => by rw [hAd] at h; exact h
  have E : lEnv A b L xs s := ⟨hX, hbl, fun h => absurd (hAf _ h) (Nat.not_le.mpr hbl), hA, hL⟩
  have hW : HW g A s.heap [] s.heap [] := ⟨fun k q h => by simp at h, ⟨fun i j p q h => by simp at h, fun k q h => by simp at h⟩, va_S.rf⟩
  have hl := lv_entry ([.ref b]) (n := 4) (Nat.le_of_ble_eq_true rfl)
  rw [lg_entry_eq]
  generalize (lg_sl ([.ref b]) ++ List.replicate (4 - (lg_sl ([.ref b])).length) Slot.unset).toArray = ls at hl ⊢
  have hl : lv_has ls 4 [(0, .ref b)] := hl
  refine r_new (ci := 4) C tyX4 tyX4_ok kl_4 k_9 k_10 k_1 rfl hW hA [.null, .int 0, .int 0, .null, .null, .null, .int 0, .int 0, .int 0] (fun j hj => by rcases (show j = 0 ∨ j = 1 ∨ j = 2 ∨ j = 3 ∨ j = 4 ∨ j = 5 ∨ j = 6 ∨ j = 7 ∨ j = 8 by omega) with rfl | rfl | rfl | rfl | rfl | rfl | rfl | rfl | rfl <;> rfl) (Nat.le_of_ble_eq_true rfl) (Nat.le_of_ble_eq_true rfl) dL_law_0 (fun o H hW => ?_)
  refine r_dup C rfl dL_law_3 ?_
  refine r_callCL (rest := [.ref o]) (wr := []) C hl.1 hW hA (c_X4_init l g o) cl_L_9 [0] [] rfl rfl (by decide) (by decide) (by decide) (by decide) (Nat.le_of_ble_eq_true rfl) dL_law_4 (fun z H locs hW => ?_)
  refine r_astore_n C [(1, .ref o), (0, .ref b)] dL_law_7 hl (by decide) rfl (fun ls hl => ?_)
  have hW : HW g A s.heap (cW g o z.1 (z.2 1) (z.2 2) (z.2 3) (fun j => z.1 (4 + j)) (fun j => z.2 (4 + j)) (f0 (fun j => z.1 (4 + j))) t0 u0 x0 P0s) H locs := hW
  refine r_new (ci := 5) C tyX5 tyX5_ok kl_5 k_554 k_555 k_6 rfl hW hA [.null, .null, .null, .int 0, .null, .null, .null, .null, .null, .null, .int 0, .null, .null, .null, .null, .int 0, .int 0, .null, .null, .int 0, .null, .int 0, .null, .int 0, .null, .int 0, .int 0] (fun j hj => by rcases (show j = 0 ∨ j = 1 ∨ j = 2 ∨ j = 3 ∨ j = 4 ∨ j = 5 ∨ j = 6 ∨ j = 7 ∨ j = 8 ∨ j = 9 ∨ j = 10 ∨ j = 11 ∨ j = 12 ∨ j = 13 ∨ j = 14 ∨ j = 15 ∨ j = 16 ∨ j = 17 ∨ j = 18 ∨ j = 19 ∨ j = 20 ∨ j = 21 ∨ j = 22 ∨ j = 23 ∨ j = 24 ∨ j = 25 ∨ j = 26 by omega) with rfl | rfl | rfl | rfl | rfl | rfl | rfl | rfl | rfl | rfl | rfl | rfl | rfl | rfl | rfl | rfl | rfl | rfl | rfl | rfl | rfl | rfl | rfl | rfl | rfl | rfl | rfl <;> rfl) (Nat.le_of_ble_eq_true rfl) (Nat.le_of_ble_eq_true rfl) dL_law_8 (fun od H hW => ?_)
  refine r_dup C rfl dL_law_11 ?_
  refine r_callCL (rest := [.ref od]) (wr := cW g o z.1 (z.2 1) (z.2 2) (z.2 3) (fun j => z.1 (4 + j)) (fun j => z.2 (4 + j)) (f0 (fun j => z.1 (4 + j))) t0 u0 x0 P0s) C hl.1 hW hA (c_X5_init l g od) cl_L_12 [79] (List.range 79) rfl rfl (by decide +kernel) (by decide +kernel) (by decide) (by decide) (Nat.le_of_ble_eq_true rfl) dL_law_12 (fun ad H locs hW => ?_)
  refine r_astore_n C [(2, .ref od), (1, .ref o), (0, .ref b)] dL_law_15 hl (by decide) rfl (fun ls hl => ?_)
  refine r_iconst (z := 0) C dL_law_16 rfl ?_
  refine r_istore_n C [(3, .int (iI 0)), (2, .ref od), (1, .ref o), (0, .ref b)] dL_law_17 hl (by decide) rfl (fun ls hl => ?_)
  exact law_loop hr hlocks C E hAf 600 0 0 rfl (by decide) (by omega) H locs ls ⟨_, _, _, _, _, _, _, _, hW, gS_0 _, rR_init _, lv_sub hl [3, 2, 1, 0] rfl⟩

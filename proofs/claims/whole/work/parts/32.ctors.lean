theorem ff_0_4 : FF RX0 0 4 (.array .int) := by
  intro C T N h
  cases h
  exact ⟨rfl, rfl, by decide +kernel⟩
theorem ff_0_5 : FF RX0 0 5 (.array .int) := by
  intro C T N h
  cases h
  exact ⟨rfl, rfl, by decide +kernel⟩
theorem ff_0_6 : FF RX0 0 6 (.array .int) := by
  intro C T N h
  cases h
  exact ⟨rfl, rfl, by decide +kernel⟩
theorem ff_0_7 : FF RX0 0 7 (.array .int) := by
  intro C T N h
  cases h
  exact ⟨rfl, rfl, by decide +kernel⟩
theorem ff_0_8 : FF RX0 0 8 (.array .int) := by
  intro C T N h
  cases h
  exact ⟨rfl, rfl, by decide +kernel⟩
theorem ff_0_9 : FF RX0 0 9 (.array .int) := by
  intro C T N h
  cases h
  exact ⟨rfl, rfl, by decide +kernel⟩
theorem ff_0_10 : FF RX0 0 10 (.array .int) := by
  intro C T N h
  cases h
  exact ⟨rfl, rfl, by decide +kernel⟩
theorem ff_0_11 : FF RX0 0 11 (.array .long) := by
  intro C T N h
  cases h
  exact ⟨rfl, rfl, by decide +kernel⟩
theorem ff_1_1 : FF RX1 1 1 (.array .int) := by
  intro C T N h
  cases h
  exact ⟨rfl, rfl, by decide +kernel⟩
theorem ff_2_4 : FF RX2 2 4 (.array .int) := by
  intro C T N h
  cases h
  exact ⟨rfl, rfl, by decide +kernel⟩
theorem ff_2_5 : FF RX2 2 5 (.array .int) := by
  intro C T N h
  cases h
  exact ⟨rfl, rfl, by decide +kernel⟩
theorem ff_2_6 : FF RX2 2 6 (.array .int) := by
  intro C T N h
  cases h
  exact ⟨rfl, rfl, by decide +kernel⟩
theorem ff_2_7 : FF RX2 2 7 (.array .int) := by
  intro C T N h
  cases h
  exact ⟨rfl, rfl, by decide +kernel⟩
theorem ff_2_8 : FF RX2 2 8 (.array .int) := by
  intro C T N h
  cases h
  exact ⟨rfl, rfl, by decide +kernel⟩
theorem ff_2_9 : FF RX2 2 9 (.array .int) := by
  intro C T N h
  cases h
  exact ⟨rfl, rfl, by decide +kernel⟩
theorem ff_2_10 : FF RX2 2 10 (.array .int) := by
  intro C T N h
  cases h
  exact ⟨rfl, rfl, by decide +kernel⟩
theorem ff_2_11 : FF RX2 2 11 (.array .int) := by
  intro C T N h
  cases h
  exact ⟨rfl, rfl, by decide +kernel⟩
theorem ff_3_2 : FF RX3 3 2 (.array .int) := by
  intro C T N h
  cases h
  exact ⟨rfl, rfl, by decide +kernel⟩
theorem ff_3_3 : FF RX3 3 3 (.array .int) := by
  intro C T N h
  cases h
  exact ⟨rfl, rfl, by decide +kernel⟩
theorem ff_4_0 : FF RX4 4 0 (.array (.object "MatchedFlows$Program")) := by
  intro C T N h
  cases h
  exact ⟨rfl, rfl, by decide +kernel⟩
theorem ff_4_3 : FF RX4 4 3 (.object "MatchedFlows$Table") := by
  intro C T N h
  cases h
  exact ⟨rfl, rfl, by decide +kernel⟩
theorem ff_4_4 : FF RX4 4 4 (.object "MatchedFlows$Spread") := by
  intro C T N h
  cases h
  exact ⟨rfl, rfl, by decide +kernel⟩
theorem ff_4_5 : FF RX4 4 5 (.object "MatchedFlows$Text") := by
  intro C T N h
  cases h
  exact ⟨rfl, rfl, by decide +kernel⟩
theorem ff_5_0 : FF RX5 5 0 (.array .int) := by
  intro C T N h
  cases h
  exact ⟨rfl, rfl, by decide +kernel⟩
theorem ff_5_1 : FF RX5 5 1 (.array .int) := by
  intro C T N h
  cases h
  exact ⟨rfl, rfl, by decide +kernel⟩
theorem ff_5_2 : FF RX5 5 2 (.array .int) := by
  intro C T N h
  cases h
  exact ⟨rfl, rfl, by decide +kernel⟩
theorem ff_5_4 : FF RX5 5 4 (.array .int) := by
  intro C T N h
  cases h
  exact ⟨rfl, rfl, by decide +kernel⟩
theorem ff_5_5 : FF RX5 5 5 (.array .int) := by
  intro C T N h
  cases h
  exact ⟨rfl, rfl, by decide +kernel⟩
theorem ff_5_6 : FF RX5 5 6 (.array .int) := by
  intro C T N h
  cases h
  exact ⟨rfl, rfl, by decide +kernel⟩
theorem ff_5_7 : FF RX5 5 7 (.array .int) := by
  intro C T N h
  cases h
  exact ⟨rfl, rfl, by decide +kernel⟩
theorem ff_5_8 : FF RX5 5 8 (.array .int) := by
  intro C T N h
  cases h
  exact ⟨rfl, rfl, by decide +kernel⟩
theorem ff_5_9 : FF RX5 5 9 (.array .int) := by
  intro C T N h
  cases h
  exact ⟨rfl, rfl, by decide +kernel⟩
theorem ff_5_11 : FF RX5 5 11 (.array .int) := by
  intro C T N h
  cases h
  exact ⟨rfl, rfl, by decide +kernel⟩
theorem ff_5_12 : FF RX5 5 12 (.array .int) := by
  intro C T N h
  cases h
  exact ⟨rfl, rfl, by decide +kernel⟩
theorem ff_5_13 : FF RX5 5 13 (.array .int) := by
  intro C T N h
  cases h
  exact ⟨rfl, rfl, by decide +kernel⟩
theorem ff_5_14 : FF RX5 5 14 (.array .int) := by
  intro C T N h
  cases h
  exact ⟨rfl, rfl, by decide +kernel⟩
theorem ff_5_17 : FF RX5 5 17 (.array .int) := by
  intro C T N h
  cases h
  exact ⟨rfl, rfl, by decide +kernel⟩
theorem ff_5_18 : FF RX5 5 18 (.array .int) := by
  intro C T N h
  cases h
  exact ⟨rfl, rfl, by decide +kernel⟩
theorem ff_5_20 : FF RX5 5 20 (.array .int) := by
  intro C T N h
  cases h
  exact ⟨rfl, rfl, by decide +kernel⟩
theorem ff_5_22 : FF RX5 5 22 (.array .int) := by
  intro C T N h
  cases h
  exact ⟨rfl, rfl, by decide +kernel⟩
theorem ff_5_24 : FF RX5 5 24 (.array .int) := by
  intro C T N h
  cases h
  exact ⟨rfl, rfl, by decide +kernel⟩
def p0 : Pg := (0, 0, 0, 1, fun _ => 0, fun _ => 0, fun _ => 0, fun _ => 0, fun _ => 0, fun _ => 0, fun _ => 0, fun _ => 0)
def u0 : Sp := (0, fun _ => 0)
def t0 : Tb := (0, 0, 0, 0, fun _ => 0, fun _ => 0, fun _ => 0, fun _ => 0, fun _ => 0, fun _ => 0, fun _ => 0, fun _ => 0, 0)
def x0 : Tx := (0, 0, fun _ => 0, fun _ => 0, 0)
set_option maxHeartbeats 4000000 in
set_option maxRecDepth 100000 in
theorem c_X0_init (l : Launch) (g : GG) (o : Nat) : MC l g yX0_init cX0_init 1 1 40 8 250 o [(o, .inr (0, [.int 0, .int 0, .int 0, .int 0, .null, .null, .null, .null, .null, .null, .null, .null]))] (fun ad : Nat → Nat => pW g o ad p0) := by
  refine MC_start (by decide) (Nat.le_of_ble_eq_true rfl) ?_
  intro zp ze zs zm zb zt zc A hAe C hrt hlk hnm hW ls hl
  have hA : ∀ q, zs.heap.size ≤ q → A q := fun q h => by rw [hAe]; exact Or.inr h
  have hin : zt.name = "<init>" := hnm
  have hl : lv_has ls 1 [(0, .ref o)] := hl
  refine r_aload_n C dX0_init_0 hl 0 rfl ?_
  refine r_objInit C hl.1 k_113 k_15 (by decide) (by decide) dX0_init_1 ?_
  refine r_aload_n C dX0_init_4 hl 0 rfl ?_
  refine r_iconst (z := 0) C dX0_init_5 rfl ?_
  refine r_put C f_X0_9 fp_0_0 hW [(o, .inr (0, [.int (iI 0), .int 0, .int 0, .int 0, .null, .null, .null, .null, .null, .null, .null, .null]))] 0 rfl rfl rfl (Nat.le_of_ble_eq_true rfl) rfl dX0_init_6 (fun H locs hW => ?_)
  refine r_aload_n C dX0_init_9 hl 0 rfl ?_
  refine r_iconst (z := 0) C dX0_init_10 rfl ?_
  refine r_put C f_X0_15 fp_0_1 hW [(o, .inr (0, [.int (iI 0), .int (iI 0), .int 0, .int 0, .null, .null, .null, .null, .null, .null, .null, .null]))] 0 rfl rfl rfl (Nat.le_of_ble_eq_true rfl) rfl dX0_init_11 (fun H locs hW => ?_)
  refine r_aload_n C dX0_init_14 hl 0 rfl ?_
  refine r_iconst (z := 0) C dX0_init_15 rfl ?_
  refine r_put C f_X0_18 fp_0_2 hW [(o, .inr (0, [.int (iI 0), .int (iI 0), .int (iI 0), .int 0, .null, .null, .null, .null, .null, .null, .null, .null]))] 0 rfl rfl rfl (Nat.le_of_ble_eq_true rfl) rfl dX0_init_16 (fun H locs hW => ?_)
  refine r_aload_n C dX0_init_19 hl 0 rfl ?_
  refine r_iconst (z := 1) C dX0_init_20 rfl ?_
  refine r_put C f_X0_21 fp_0_3 hW [(o, .inr (0, [.int (iI 0), .int (iI 0), .int (iI 0), .int (iI 1), .null, .null, .null, .null, .null, .null, .null, .null]))] 0 rfl rfl rfl (Nat.le_of_ble_eq_true rfl) rfl dX0_init_21 (fun H locs hW => ?_)
  refine r_aload_n C dX0_init_24 hl 0 rfl ?_
  refine r_iconst (z := 5) C dX0_init_25 rfl ?_
  refine r_newai C k_69 hW hA 5 rfl (Nat.le_of_ble_eq_true rfl) (Nat.le_of_ble_eq_true rfl) (Nat.le_of_ble_eq_true rfl) dX0_init_26 (fun q0 H hW => ?_)
  have hW : HW g A zs.heap [(o, .inr (0, [.int (iI 0), .int (iI 0), .int (iI 0), .int (iI 1), .null, .null, .null, .null, .null, .null, .null, .null])), (q0, .inl (g.2.1, 5, .inl (iA (fun _ => 0))))] H _ := hW
  refine r_putF C f_X0_24 ff_0_4 hin hW [(o, .inr (0, [.int (iI 0), .int (iI 0), .int (iI 0), .int (iI 1), .ref q0, .null, .null, .null, .null, .null, .null, .null])), (q0, .inl (g.2.1, 5, .inl (iA (fun _ => 0))))] 0 rfl rfl rfl (Nat.le_of_ble_eq_true rfl) rfl dX0_init_28 (fun H locs hW => ?_)
  refine r_aload_n C dX0_init_31 hl 0 rfl ?_
  refine r_iconst (z := 5) C dX0_init_32 rfl ?_
  refine r_newai C k_69 hW hA 5 rfl (Nat.le_of_ble_eq_true rfl) (Nat.le_of_ble_eq_true rfl) (Nat.le_of_ble_eq_true rfl) dX0_init_33 (fun q1 H hW => ?_)
  have hW : HW g A zs.heap [(o, .inr (0, [.int (iI 0), .int (iI 0), .int (iI 0), .int (iI 1), .ref q0, .null, .null, .null, .null, .null, .null, .null])), (q0, .inl (g.2.1, 5, .inl (iA (fun _ => 0)))), (q1, .inl (g.2.1, 5, .inl (iA (fun _ => 0))))] H _ := hW
  refine r_putF C f_X0_28 ff_0_5 hin hW [(o, .inr (0, [.int (iI 0), .int (iI 0), .int (iI 0), .int (iI 1), .ref q0, .ref q1, .null, .null, .null, .null, .null, .null])), (q0, .inl (g.2.1, 5, .inl (iA (fun _ => 0)))), (q1, .inl (g.2.1, 5, .inl (iA (fun _ => 0))))] 0 rfl rfl rfl (Nat.le_of_ble_eq_true rfl) rfl dX0_init_35 (fun H locs hW => ?_)
  refine r_aload_n C dX0_init_38 hl 0 rfl ?_
  refine r_bipush (z := 24) C dX0_init_39 rfl ?_
  refine r_newai C k_69 hW hA 24 rfl (Nat.le_of_ble_eq_true rfl) (Nat.le_of_ble_eq_true rfl) (Nat.le_of_ble_eq_true rfl) dX0_init_41 (fun q2 H hW => ?_)
  have hW : HW g A zs.heap [(o, .inr (0, [.int (iI 0), .int (iI 0), .int (iI 0), .int (iI 1), .ref q0, .ref q1, .null, .null, .null, .null, .null, .null])), (q0, .inl (g.2.1, 5, .inl (iA (fun _ => 0)))), (q1, .inl (g.2.1, 5, .inl (iA (fun _ => 0)))), (q2, .inl (g.2.1, 24, .inl (iA (fun _ => 0))))] H _ := hW
  refine r_putF C f_X0_31 ff_0_6 hin hW [(o, .inr (0, [.int (iI 0), .int (iI 0), .int (iI 0), .int (iI 1), .ref q0, .ref q1, .ref q2, .null, .null, .null, .null, .null])), (q0, .inl (g.2.1, 5, .inl (iA (fun _ => 0)))), (q1, .inl (g.2.1, 5, .inl (iA (fun _ => 0)))), (q2, .inl (g.2.1, 24, .inl (iA (fun _ => 0))))] 0 rfl rfl rfl (Nat.le_of_ble_eq_true rfl) rfl dX0_init_43 (fun H locs hW => ?_)
  refine r_aload_n C dX0_init_46 hl 0 rfl ?_
  refine r_bipush (z := 24) C dX0_init_47 rfl ?_
  refine r_newai C k_69 hW hA 24 rfl (Nat.le_of_ble_eq_true rfl) (Nat.le_of_ble_eq_true rfl) (Nat.le_of_ble_eq_true rfl) dX0_init_49 (fun q3 H hW => ?_)
  have hW : HW g A zs.heap [(o, .inr (0, [.int (iI 0), .int (iI 0), .int (iI 0), .int (iI 1), .ref q0, .ref q1, .ref q2, .null, .null, .null, .null, .null])), (q0, .inl (g.2.1, 5, .inl (iA (fun _ => 0)))), (q1, .inl (g.2.1, 5, .inl (iA (fun _ => 0)))), (q2, .inl (g.2.1, 24, .inl (iA (fun _ => 0)))), (q3, .inl (g.2.1, 24, .inl (iA (fun _ => 0))))] H _ := hW
  refine r_putF C f_X0_34 ff_0_7 hin hW [(o, .inr (0, [.int (iI 0), .int (iI 0), .int (iI 0), .int (iI 1), .ref q0, .ref q1, .ref q2, .ref q3, .null, .null, .null, .null])), (q0, .inl (g.2.1, 5, .inl (iA (fun _ => 0)))), (q1, .inl (g.2.1, 5, .inl (iA (fun _ => 0)))), (q2, .inl (g.2.1, 24, .inl (iA (fun _ => 0)))), (q3, .inl (g.2.1, 24, .inl (iA (fun _ => 0))))] 0 rfl rfl rfl (Nat.le_of_ble_eq_true rfl) rfl dX0_init_51 (fun H locs hW => ?_)
  refine r_aload_n C dX0_init_54 hl 0 rfl ?_
  refine r_bipush (z := 32) C dX0_init_55 rfl ?_
  refine r_newai C k_69 hW hA 32 rfl (Nat.le_of_ble_eq_true rfl) (Nat.le_of_ble_eq_true rfl) (Nat.le_of_ble_eq_true rfl) dX0_init_57 (fun q4 H hW => ?_)
  have hW : HW g A zs.heap [(o, .inr (0, [.int (iI 0), .int (iI 0), .int (iI 0), .int (iI 1), .ref q0, .ref q1, .ref q2, .ref q3, .null, .null, .null, .null])), (q0, .inl (g.2.1, 5, .inl (iA (fun _ => 0)))), (q1, .inl (g.2.1, 5, .inl (iA (fun _ => 0)))), (q2, .inl (g.2.1, 24, .inl (iA (fun _ => 0)))), (q3, .inl (g.2.1, 24, .inl (iA (fun _ => 0)))), (q4, .inl (g.2.1, 32, .inl (iA (fun _ => 0))))] H _ := hW
  refine r_putF C f_X0_37 ff_0_8 hin hW [(o, .inr (0, [.int (iI 0), .int (iI 0), .int (iI 0), .int (iI 1), .ref q0, .ref q1, .ref q2, .ref q3, .ref q4, .null, .null, .null])), (q0, .inl (g.2.1, 5, .inl (iA (fun _ => 0)))), (q1, .inl (g.2.1, 5, .inl (iA (fun _ => 0)))), (q2, .inl (g.2.1, 24, .inl (iA (fun _ => 0)))), (q3, .inl (g.2.1, 24, .inl (iA (fun _ => 0)))), (q4, .inl (g.2.1, 32, .inl (iA (fun _ => 0))))] 0 rfl rfl rfl (Nat.le_of_ble_eq_true rfl) rfl dX0_init_59 (fun H locs hW => ?_)
  refine r_aload_n C dX0_init_62 hl 0 rfl ?_
  refine r_bipush (z := 32) C dX0_init_63 rfl ?_
  refine r_newai C k_69 hW hA 32 rfl (Nat.le_of_ble_eq_true rfl) (Nat.le_of_ble_eq_true rfl) (Nat.le_of_ble_eq_true rfl) dX0_init_65 (fun q5 H hW => ?_)
  have hW : HW g A zs.heap [(o, .inr (0, [.int (iI 0), .int (iI 0), .int (iI 0), .int (iI 1), .ref q0, .ref q1, .ref q2, .ref q3, .ref q4, .null, .null, .null])), (q0, .inl (g.2.1, 5, .inl (iA (fun _ => 0)))), (q1, .inl (g.2.1, 5, .inl (iA (fun _ => 0)))), (q2, .inl (g.2.1, 24, .inl (iA (fun _ => 0)))), (q3, .inl (g.2.1, 24, .inl (iA (fun _ => 0)))), (q4, .inl (g.2.1, 32, .inl (iA (fun _ => 0)))), (q5, .inl (g.2.1, 32, .inl (iA (fun _ => 0))))] H _ := hW
  refine r_putF C f_X0_40 ff_0_9 hin hW [(o, .inr (0, [.int (iI 0), .int (iI 0), .int (iI 0), .int (iI 1), .ref q0, .ref q1, .ref q2, .ref q3, .ref q4, .ref q5, .null, .null])), (q0, .inl (g.2.1, 5, .inl (iA (fun _ => 0)))), (q1, .inl (g.2.1, 5, .inl (iA (fun _ => 0)))), (q2, .inl (g.2.1, 24, .inl (iA (fun _ => 0)))), (q3, .inl (g.2.1, 24, .inl (iA (fun _ => 0)))), (q4, .inl (g.2.1, 32, .inl (iA (fun _ => 0)))), (q5, .inl (g.2.1, 32, .inl (iA (fun _ => 0))))] 0 rfl rfl rfl (Nat.le_of_ble_eq_true rfl) rfl dX0_init_67 (fun H locs hW => ?_)
  refine r_aload_n C dX0_init_70 hl 0 rfl ?_
  refine r_bipush (z := 32) C dX0_init_71 rfl ?_
  refine r_newai C k_69 hW hA 32 rfl (Nat.le_of_ble_eq_true rfl) (Nat.le_of_ble_eq_true rfl) (Nat.le_of_ble_eq_true rfl) dX0_init_73 (fun q6 H hW => ?_)
  have hW : HW g A zs.heap [(o, .inr (0, [.int (iI 0), .int (iI 0), .int (iI 0), .int (iI 1), .ref q0, .ref q1, .ref q2, .ref q3, .ref q4, .ref q5, .null, .null])), (q0, .inl (g.2.1, 5, .inl (iA (fun _ => 0)))), (q1, .inl (g.2.1, 5, .inl (iA (fun _ => 0)))), (q2, .inl (g.2.1, 24, .inl (iA (fun _ => 0)))), (q3, .inl (g.2.1, 24, .inl (iA (fun _ => 0)))), (q4, .inl (g.2.1, 32, .inl (iA (fun _ => 0)))), (q5, .inl (g.2.1, 32, .inl (iA (fun _ => 0)))), (q6, .inl (g.2.1, 32, .inl (iA (fun _ => 0))))] H _ := hW
  refine r_putF C f_X0_43 ff_0_10 hin hW [(o, .inr (0, [.int (iI 0), .int (iI 0), .int (iI 0), .int (iI 1), .ref q0, .ref q1, .ref q2, .ref q3, .ref q4, .ref q5, .ref q6, .null])), (q0, .inl (g.2.1, 5, .inl (iA (fun _ => 0)))), (q1, .inl (g.2.1, 5, .inl (iA (fun _ => 0)))), (q2, .inl (g.2.1, 24, .inl (iA (fun _ => 0)))), (q3, .inl (g.2.1, 24, .inl (iA (fun _ => 0)))), (q4, .inl (g.2.1, 32, .inl (iA (fun _ => 0)))), (q5, .inl (g.2.1, 32, .inl (iA (fun _ => 0)))), (q6, .inl (g.2.1, 32, .inl (iA (fun _ => 0))))] 0 rfl rfl rfl (Nat.le_of_ble_eq_true rfl) rfl dX0_init_75 (fun H locs hW => ?_)
  refine r_aload_n C dX0_init_78 hl 0 rfl ?_
  refine r_bipush (z := 96) C dX0_init_79 rfl ?_
  refine r_newal C k_176 hW hA 96 rfl (Nat.le_of_ble_eq_true rfl) (Nat.le_of_ble_eq_true rfl) (Nat.le_of_ble_eq_true rfl) dX0_init_81 (fun q7 H hW => ?_)
  have hW : HW g A zs.heap [(o, .inr (0, [.int (iI 0), .int (iI 0), .int (iI 0), .int (iI 1), .ref q0, .ref q1, .ref q2, .ref q3, .ref q4, .ref q5, .ref q6, .null])), (q0, .inl (g.2.1, 5, .inl (iA (fun _ => 0)))), (q1, .inl (g.2.1, 5, .inl (iA (fun _ => 0)))), (q2, .inl (g.2.1, 24, .inl (iA (fun _ => 0)))), (q3, .inl (g.2.1, 24, .inl (iA (fun _ => 0)))), (q4, .inl (g.2.1, 32, .inl (iA (fun _ => 0)))), (q5, .inl (g.2.1, 32, .inl (iA (fun _ => 0)))), (q6, .inl (g.2.1, 32, .inl (iA (fun _ => 0)))), (q7, .inl (g.2.2.1, 96, .inr (.inl (lA (fun _ => 0)))))] H _ := hW
  refine r_putF C f_X0_46 ff_0_11 hin hW [(o, .inr (0, [.int (iI 0), .int (iI 0), .int (iI 0), .int (iI 1), .ref q0, .ref q1, .ref q2, .ref q3, .ref q4, .ref q5, .ref q6, .ref q7])), (q0, .inl (g.2.1, 5, .inl (iA (fun _ => 0)))), (q1, .inl (g.2.1, 5, .inl (iA (fun _ => 0)))), (q2, .inl (g.2.1, 24, .inl (iA (fun _ => 0)))), (q3, .inl (g.2.1, 24, .inl (iA (fun _ => 0)))), (q4, .inl (g.2.1, 32, .inl (iA (fun _ => 0)))), (q5, .inl (g.2.1, 32, .inl (iA (fun _ => 0)))), (q6, .inl (g.2.1, 32, .inl (iA (fun _ => 0)))), (q7, .inl (g.2.2.1, 96, .inr (.inl (lA (fun _ => 0)))))] 0 rfl rfl rfl (Nat.le_of_ble_eq_true rfl) rfl dX0_init_83 (fun H locs hW => ?_)
  exact MC_vret (fun k => [q0, q1, q2, q3, q4, q5, q6, q7].getD k 0) C hAe hrt hlk hW dX0_init_86 rfl ⟨Nat.le_of_ble_eq_true rfl, Nat.le_of_ble_eq_true rfl⟩
set_option maxHeartbeats 4000000 in
set_option maxRecDepth 100000 in
theorem c_X1_init (l : Launch) (g : GG) (o : Nat) : MC l g yX1_init cX1_init 1 1 40 1 24 o [(o, .inr (1, [.int 0, .null]))] (fun ad : Nat → Nat => uW g o ad u0) := by
  refine MC_start (by decide) (Nat.le_of_ble_eq_true rfl) ?_
  intro zp ze zs zm zb zt zc A hAe C hrt hlk hnm hW ls hl
  have hA : ∀ q, zs.heap.size ≤ q → A q := fun q h => by rw [hAe]; exact Or.inr h
  have hin : zt.name = "<init>" := hnm
  have hl : lv_has ls 1 [(0, .ref o)] := hl
  refine r_aload_n C dX1_init_0 hl 0 rfl ?_
  refine r_objInit C hl.1 k_75 k_15 (by decide) (by decide) dX1_init_1 ?_
  refine r_aload_n C dX1_init_4 hl 0 rfl ?_
  refine r_iconst (z := 0) C dX1_init_5 rfl ?_
  refine r_put C f_X1_9 fp_1_0 hW [(o, .inr (1, [.int (iI 0), .null]))] 0 rfl (by decide) (by decide) (Nat.le_of_ble_eq_true rfl) rfl dX1_init_6 (fun H locs hW => ?_)
  refine r_aload_n C dX1_init_9 hl 0 rfl ?_
  refine r_bipush (z := 24) C dX1_init_10 rfl ?_
  refine r_newai C k_69 hW hA 24 rfl (Nat.le_of_ble_eq_true rfl) (Nat.le_of_ble_eq_true rfl) (Nat.le_of_ble_eq_true rfl) dX1_init_12 (fun q0 H hW => ?_)
  have hW : HW g A zs.heap [(o, .inr (1, [.int (iI 0), .null])), (q0, .inl (g.2.1, 24, .inl (iA (fun _ => 0))))] H _ := hW
  refine r_putF C f_X1_15 ff_1_1 hin hW [(o, .inr (1, [.int (iI 0), .ref q0])), (q0, .inl (g.2.1, 24, .inl (iA (fun _ => 0))))] 0 rfl rfl rfl (Nat.le_of_ble_eq_true rfl) rfl dX1_init_14 (fun H locs hW => ?_)
  exact MC_vret (fun k => [q0].getD k 0) C hAe hrt hlk hW dX1_init_17 rfl ⟨Nat.le_of_ble_eq_true rfl, Nat.le_of_ble_eq_true rfl⟩
set_option maxHeartbeats 4000000 in
set_option maxRecDepth 100000 in
theorem c_X2_init (l : Launch) (g : GG) (o : Nat) : MC l g yX2_init cX2_init 1 1 40 8 11456 o [(o, .inr (2, [.int 0, .int 0, .int 0, .int 0, .null, .null, .null, .null, .null, .null, .null, .null, .int 0]))] (fun ad : Nat → Nat => tW g o ad t0) := by
  refine MC_start (by decide) (Nat.le_of_ble_eq_true rfl) ?_
  intro zp ze zs zm zb zt zc A hAe C hrt hlk hnm hW ls hl
  have hA : ∀ q, zs.heap.size ≤ q → A q := fun q h => by rw [hAe]; exact Or.inr h
  have hin : zt.name = "<init>" := hnm
  have hl : lv_has ls 1 [(0, .ref o)] := hl
  refine r_aload_n C dX2_init_0 hl 0 rfl ?_
  refine r_objInit C hl.1 k_24 k_15 (by decide) (by decide) dX2_init_1 ?_
  refine r_aload_n C dX2_init_4 hl 0 rfl ?_
  refine r_iconst (z := 0) C dX2_init_5 rfl ?_
  refine r_put C f_X2_11 fp_2_0 hW [(o, .inr (2, [.int (iI 0), .int 0, .int 0, .int 0, .null, .null, .null, .null, .null, .null, .null, .null, .int 0]))] 0 rfl (by decide) (by decide) (Nat.le_of_ble_eq_true rfl) rfl dX2_init_6 (fun H locs hW => ?_)
  refine r_aload_n C dX2_init_9 hl 0 rfl ?_
  refine r_iconst (z := 0) C dX2_init_10 rfl ?_
  refine r_put C f_X2_15 fp_2_1 hW [(o, .inr (2, [.int (iI 0), .int (iI 0), .int 0, .int 0, .null, .null, .null, .null, .null, .null, .null, .null, .int 0]))] 0 rfl rfl rfl (Nat.le_of_ble_eq_true rfl) rfl dX2_init_11 (fun H locs hW => ?_)
  refine r_aload_n C dX2_init_14 hl 0 rfl ?_
  refine r_iconst (z := 0) C dX2_init_15 rfl ?_
  refine r_put C f_X2_19 fp_2_2 hW [(o, .inr (2, [.int (iI 0), .int (iI 0), .int (iI 0), .int 0, .null, .null, .null, .null, .null, .null, .null, .null, .int 0]))] 0 rfl rfl rfl (Nat.le_of_ble_eq_true rfl) rfl dX2_init_16 (fun H locs hW => ?_)
  refine r_aload_n C dX2_init_19 hl 0 rfl ?_
  refine r_iconst (z := 0) C dX2_init_20 rfl ?_
  refine r_put C f_X2_22 fp_2_3 hW [(o, .inr (2, [.int (iI 0), .int (iI 0), .int (iI 0), .int (iI 0), .null, .null, .null, .null, .null, .null, .null, .null, .int 0]))] 0 rfl rfl rfl (Nat.le_of_ble_eq_true rfl) rfl dX2_init_21 (fun H locs hW => ?_)
  refine r_aload_n C dX2_init_24 hl 0 rfl ?_
  refine r_sipush (z := 192) C dX2_init_25 rfl ?_
  refine r_newai C k_69 hW hA 192 rfl (Nat.le_of_ble_eq_true rfl) (Nat.le_of_ble_eq_true rfl) (Nat.le_of_ble_eq_true rfl) dX2_init_28 (fun q0 H hW => ?_)
  have hW : HW g A zs.heap [(o, .inr (2, [.int (iI 0), .int (iI 0), .int (iI 0), .int (iI 0), .null, .null, .null, .null, .null, .null, .null, .null, .int 0])), (q0, .inl (g.2.1, 192, .inl (iA (fun _ => 0))))] H _ := hW
  refine r_putF C f_X2_25 ff_2_4 hin hW [(o, .inr (2, [.int (iI 0), .int (iI 0), .int (iI 0), .int (iI 0), .ref q0, .null, .null, .null, .null, .null, .null, .null, .int 0])), (q0, .inl (g.2.1, 192, .inl (iA (fun _ => 0))))] 0 rfl rfl rfl (Nat.le_of_ble_eq_true rfl) rfl dX2_init_30 (fun H locs hW => ?_)
  refine r_aload_n C dX2_init_33 hl 0 rfl ?_
  refine r_sipush (z := 1536) C dX2_init_34 rfl ?_
  refine r_newai C k_69 hW hA 1536 rfl (Nat.le_of_ble_eq_true rfl) (Nat.le_of_ble_eq_true rfl) (Nat.le_of_ble_eq_true rfl) dX2_init_37 (fun q1 H hW => ?_)
  have hW : HW g A zs.heap [(o, .inr (2, [.int (iI 0), .int (iI 0), .int (iI 0), .int (iI 0), .ref q0, .null, .null, .null, .null, .null, .null, .null, .int 0])), (q0, .inl (g.2.1, 192, .inl (iA (fun _ => 0)))), (q1, .inl (g.2.1, 1536, .inl (iA (fun _ => 0))))] H _ := hW
  refine r_putF C f_X2_29 ff_2_5 hin hW [(o, .inr (2, [.int (iI 0), .int (iI 0), .int (iI 0), .int (iI 0), .ref q0, .ref q1, .null, .null, .null, .null, .null, .null, .int 0])), (q0, .inl (g.2.1, 192, .inl (iA (fun _ => 0)))), (q1, .inl (g.2.1, 1536, .inl (iA (fun _ => 0))))] 0 rfl rfl rfl (Nat.le_of_ble_eq_true rfl) rfl dX2_init_39 (fun H locs hW => ?_)
  refine r_aload_n C dX2_init_42 hl 0 rfl ?_
  refine r_sipush (z := 1536) C dX2_init_43 rfl ?_
  refine r_newai C k_69 hW hA 1536 rfl (Nat.le_of_ble_eq_true rfl) (Nat.le_of_ble_eq_true rfl) (Nat.le_of_ble_eq_true rfl) dX2_init_46 (fun q2 H hW => ?_)
  have hW : HW g A zs.heap [(o, .inr (2, [.int (iI 0), .int (iI 0), .int (iI 0), .int (iI 0), .ref q0, .ref q1, .null, .null, .null, .null, .null, .null, .int 0])), (q0, .inl (g.2.1, 192, .inl (iA (fun _ => 0)))), (q1, .inl (g.2.1, 1536, .inl (iA (fun _ => 0)))), (q2, .inl (g.2.1, 1536, .inl (iA (fun _ => 0))))] H _ := hW
  refine r_putF C f_X2_32 ff_2_6 hin hW [(o, .inr (2, [.int (iI 0), .int (iI 0), .int (iI 0), .int (iI 0), .ref q0, .ref q1, .ref q2, .null, .null, .null, .null, .null, .int 0])), (q0, .inl (g.2.1, 192, .inl (iA (fun _ => 0)))), (q1, .inl (g.2.1, 1536, .inl (iA (fun _ => 0)))), (q2, .inl (g.2.1, 1536, .inl (iA (fun _ => 0))))] 0 rfl rfl rfl (Nat.le_of_ble_eq_true rfl) rfl dX2_init_48 (fun H locs hW => ?_)
  refine r_aload_n C dX2_init_51 hl 0 rfl ?_
  refine r_sipush (z := 1536) C dX2_init_52 rfl ?_
  refine r_newai C k_69 hW hA 1536 rfl (Nat.le_of_ble_eq_true rfl) (Nat.le_of_ble_eq_true rfl) (Nat.le_of_ble_eq_true rfl) dX2_init_55 (fun q3 H hW => ?_)
  have hW : HW g A zs.heap [(o, .inr (2, [.int (iI 0), .int (iI 0), .int (iI 0), .int (iI 0), .ref q0, .ref q1, .ref q2, .null, .null, .null, .null, .null, .int 0])), (q0, .inl (g.2.1, 192, .inl (iA (fun _ => 0)))), (q1, .inl (g.2.1, 1536, .inl (iA (fun _ => 0)))), (q2, .inl (g.2.1, 1536, .inl (iA (fun _ => 0)))), (q3, .inl (g.2.1, 1536, .inl (iA (fun _ => 0))))] H _ := hW
  refine r_putF C f_X2_35 ff_2_7 hin hW [(o, .inr (2, [.int (iI 0), .int (iI 0), .int (iI 0), .int (iI 0), .ref q0, .ref q1, .ref q2, .ref q3, .null, .null, .null, .null, .int 0])), (q0, .inl (g.2.1, 192, .inl (iA (fun _ => 0)))), (q1, .inl (g.2.1, 1536, .inl (iA (fun _ => 0)))), (q2, .inl (g.2.1, 1536, .inl (iA (fun _ => 0)))), (q3, .inl (g.2.1, 1536, .inl (iA (fun _ => 0))))] 0 rfl rfl rfl (Nat.le_of_ble_eq_true rfl) rfl dX2_init_57 (fun H locs hW => ?_)
  refine r_aload_n C dX2_init_60 hl 0 rfl ?_
  refine r_sipush (z := 1536) C dX2_init_61 rfl ?_
  refine r_newai C k_69 hW hA 1536 rfl (Nat.le_of_ble_eq_true rfl) (Nat.le_of_ble_eq_true rfl) (Nat.le_of_ble_eq_true rfl) dX2_init_64 (fun q4 H hW => ?_)
  have hW : HW g A zs.heap [(o, .inr (2, [.int (iI 0), .int (iI 0), .int (iI 0), .int (iI 0), .ref q0, .ref q1, .ref q2, .ref q3, .null, .null, .null, .null, .int 0])), (q0, .inl (g.2.1, 192, .inl (iA (fun _ => 0)))), (q1, .inl (g.2.1, 1536, .inl (iA (fun _ => 0)))), (q2, .inl (g.2.1, 1536, .inl (iA (fun _ => 0)))), (q3, .inl (g.2.1, 1536, .inl (iA (fun _ => 0)))), (q4, .inl (g.2.1, 1536, .inl (iA (fun _ => 0))))] H _ := hW
  refine r_putF C f_X2_38 ff_2_8 hin hW [(o, .inr (2, [.int (iI 0), .int (iI 0), .int (iI 0), .int (iI 0), .ref q0, .ref q1, .ref q2, .ref q3, .ref q4, .null, .null, .null, .int 0])), (q0, .inl (g.2.1, 192, .inl (iA (fun _ => 0)))), (q1, .inl (g.2.1, 1536, .inl (iA (fun _ => 0)))), (q2, .inl (g.2.1, 1536, .inl (iA (fun _ => 0)))), (q3, .inl (g.2.1, 1536, .inl (iA (fun _ => 0)))), (q4, .inl (g.2.1, 1536, .inl (iA (fun _ => 0))))] 0 rfl rfl rfl (Nat.le_of_ble_eq_true rfl) rfl dX2_init_66 (fun H locs hW => ?_)
  refine r_aload_n C dX2_init_69 hl 0 rfl ?_
  refine r_sipush (z := 1536) C dX2_init_70 rfl ?_
  refine r_newai C k_69 hW hA 1536 rfl (Nat.le_of_ble_eq_true rfl) (Nat.le_of_ble_eq_true rfl) (Nat.le_of_ble_eq_true rfl) dX2_init_73 (fun q5 H hW => ?_)
  have hW : HW g A zs.heap [(o, .inr (2, [.int (iI 0), .int (iI 0), .int (iI 0), .int (iI 0), .ref q0, .ref q1, .ref q2, .ref q3, .ref q4, .null, .null, .null, .int 0])), (q0, .inl (g.2.1, 192, .inl (iA (fun _ => 0)))), (q1, .inl (g.2.1, 1536, .inl (iA (fun _ => 0)))), (q2, .inl (g.2.1, 1536, .inl (iA (fun _ => 0)))), (q3, .inl (g.2.1, 1536, .inl (iA (fun _ => 0)))), (q4, .inl (g.2.1, 1536, .inl (iA (fun _ => 0)))), (q5, .inl (g.2.1, 1536, .inl (iA (fun _ => 0))))] H _ := hW
  refine r_putF C f_X2_41 ff_2_9 hin hW [(o, .inr (2, [.int (iI 0), .int (iI 0), .int (iI 0), .int (iI 0), .ref q0, .ref q1, .ref q2, .ref q3, .ref q4, .ref q5, .null, .null, .int 0])), (q0, .inl (g.2.1, 192, .inl (iA (fun _ => 0)))), (q1, .inl (g.2.1, 1536, .inl (iA (fun _ => 0)))), (q2, .inl (g.2.1, 1536, .inl (iA (fun _ => 0)))), (q3, .inl (g.2.1, 1536, .inl (iA (fun _ => 0)))), (q4, .inl (g.2.1, 1536, .inl (iA (fun _ => 0)))), (q5, .inl (g.2.1, 1536, .inl (iA (fun _ => 0))))] 0 rfl rfl rfl (Nat.le_of_ble_eq_true rfl) rfl dX2_init_75 (fun H locs hW => ?_)
  refine r_aload_n C dX2_init_78 hl 0 rfl ?_
  refine r_sipush (z := 1536) C dX2_init_79 rfl ?_
  refine r_newai C k_69 hW hA 1536 rfl (Nat.le_of_ble_eq_true rfl) (Nat.le_of_ble_eq_true rfl) (Nat.le_of_ble_eq_true rfl) dX2_init_82 (fun q6 H hW => ?_)
  have hW : HW g A zs.heap [(o, .inr (2, [.int (iI 0), .int (iI 0), .int (iI 0), .int (iI 0), .ref q0, .ref q1, .ref q2, .ref q3, .ref q4, .ref q5, .null, .null, .int 0])), (q0, .inl (g.2.1, 192, .inl (iA (fun _ => 0)))), (q1, .inl (g.2.1, 1536, .inl (iA (fun _ => 0)))), (q2, .inl (g.2.1, 1536, .inl (iA (fun _ => 0)))), (q3, .inl (g.2.1, 1536, .inl (iA (fun _ => 0)))), (q4, .inl (g.2.1, 1536, .inl (iA (fun _ => 0)))), (q5, .inl (g.2.1, 1536, .inl (iA (fun _ => 0)))), (q6, .inl (g.2.1, 1536, .inl (iA (fun _ => 0))))] H _ := hW
  refine r_putF C f_X2_44 ff_2_10 hin hW [(o, .inr (2, [.int (iI 0), .int (iI 0), .int (iI 0), .int (iI 0), .ref q0, .ref q1, .ref q2, .ref q3, .ref q4, .ref q5, .ref q6, .null, .int 0])), (q0, .inl (g.2.1, 192, .inl (iA (fun _ => 0)))), (q1, .inl (g.2.1, 1536, .inl (iA (fun _ => 0)))), (q2, .inl (g.2.1, 1536, .inl (iA (fun _ => 0)))), (q3, .inl (g.2.1, 1536, .inl (iA (fun _ => 0)))), (q4, .inl (g.2.1, 1536, .inl (iA (fun _ => 0)))), (q5, .inl (g.2.1, 1536, .inl (iA (fun _ => 0)))), (q6, .inl (g.2.1, 1536, .inl (iA (fun _ => 0))))] 0 rfl rfl rfl (Nat.le_of_ble_eq_true rfl) rfl dX2_init_84 (fun H locs hW => ?_)
  refine r_aload_n C dX2_init_87 hl 0 rfl ?_
  refine r_sipush (z := 2048) C dX2_init_88 rfl ?_
  refine r_newai C k_69 hW hA 2048 rfl (Nat.le_of_ble_eq_true rfl) (Nat.le_of_ble_eq_true rfl) (Nat.le_of_ble_eq_true rfl) dX2_init_91 (fun q7 H hW => ?_)
  have hW : HW g A zs.heap [(o, .inr (2, [.int (iI 0), .int (iI 0), .int (iI 0), .int (iI 0), .ref q0, .ref q1, .ref q2, .ref q3, .ref q4, .ref q5, .ref q6, .null, .int 0])), (q0, .inl (g.2.1, 192, .inl (iA (fun _ => 0)))), (q1, .inl (g.2.1, 1536, .inl (iA (fun _ => 0)))), (q2, .inl (g.2.1, 1536, .inl (iA (fun _ => 0)))), (q3, .inl (g.2.1, 1536, .inl (iA (fun _ => 0)))), (q4, .inl (g.2.1, 1536, .inl (iA (fun _ => 0)))), (q5, .inl (g.2.1, 1536, .inl (iA (fun _ => 0)))), (q6, .inl (g.2.1, 1536, .inl (iA (fun _ => 0)))), (q7, .inl (g.2.1, 2048, .inl (iA (fun _ => 0))))] H _ := hW
  refine r_putF C f_X2_47 ff_2_11 hin hW [(o, .inr (2, [.int (iI 0), .int (iI 0), .int (iI 0), .int (iI 0), .ref q0, .ref q1, .ref q2, .ref q3, .ref q4, .ref q5, .ref q6, .ref q7, .int 0])), (q0, .inl (g.2.1, 192, .inl (iA (fun _ => 0)))), (q1, .inl (g.2.1, 1536, .inl (iA (fun _ => 0)))), (q2, .inl (g.2.1, 1536, .inl (iA (fun _ => 0)))), (q3, .inl (g.2.1, 1536, .inl (iA (fun _ => 0)))), (q4, .inl (g.2.1, 1536, .inl (iA (fun _ => 0)))), (q5, .inl (g.2.1, 1536, .inl (iA (fun _ => 0)))), (q6, .inl (g.2.1, 1536, .inl (iA (fun _ => 0)))), (q7, .inl (g.2.1, 2048, .inl (iA (fun _ => 0))))] 0 rfl rfl rfl (Nat.le_of_ble_eq_true rfl) rfl dX2_init_93 (fun H locs hW => ?_)
  refine r_aload_n C dX2_init_96 hl 0 rfl ?_
  refine r_iconst (z := 0) C dX2_init_97 rfl ?_
  refine r_put C f_X2_50 fp_2_12 hW [(o, .inr (2, [.int (iI 0), .int (iI 0), .int (iI 0), .int (iI 0), .ref q0, .ref q1, .ref q2, .ref q3, .ref q4, .ref q5, .ref q6, .ref q7, .int (iI 0)])), (q0, .inl (g.2.1, 192, .inl (iA (fun _ => 0)))), (q1, .inl (g.2.1, 1536, .inl (iA (fun _ => 0)))), (q2, .inl (g.2.1, 1536, .inl (iA (fun _ => 0)))), (q3, .inl (g.2.1, 1536, .inl (iA (fun _ => 0)))), (q4, .inl (g.2.1, 1536, .inl (iA (fun _ => 0)))), (q5, .inl (g.2.1, 1536, .inl (iA (fun _ => 0)))), (q6, .inl (g.2.1, 1536, .inl (iA (fun _ => 0)))), (q7, .inl (g.2.1, 2048, .inl (iA (fun _ => 0))))] 0 rfl rfl rfl (Nat.le_of_ble_eq_true rfl) rfl dX2_init_98 (fun H locs hW => ?_)
  exact MC_vret (fun k => [q0, q1, q2, q3, q4, q5, q6, q7].getD k 0) C hAe hrt hlk hW dX2_init_101 rfl ⟨Nat.le_of_ble_eq_true rfl, Nat.le_of_ble_eq_true rfl⟩
set_option maxHeartbeats 4000000 in
set_option maxRecDepth 100000 in
theorem c_X3_init (l : Launch) (g : GG) (o : Nat) : MC l g yX3_init cX3_init 1 1 40 2 420 o [(o, .inr (3, [.int 0, .int 0, .null, .null, .int 0]))] (fun ad : Nat → Nat => xW g o ad x0) := by
  refine MC_start (by decide) (Nat.le_of_ble_eq_true rfl) ?_
  intro zp ze zs zm zb zt zc A hAe C hrt hlk hnm hW ls hl
  have hA : ∀ q, zs.heap.size ≤ q → A q := fun q h => by rw [hAe]; exact Or.inr h
  have hin : zt.name = "<init>" := hnm
  have hl : lv_has ls 1 [(0, .ref o)] := hl
  refine r_aload_n C dX3_init_0 hl 0 rfl ?_
  refine r_objInit C hl.1 k_90 k_15 (by decide) (by decide) dX3_init_1 ?_
  refine r_aload_n C dX3_init_4 hl 0 rfl ?_
  refine r_iconst (z := 0) C dX3_init_5 rfl ?_
  refine r_put C f_X3_9 fp_3_0 hW [(o, .inr (3, [.int (iI 0), .int 0, .null, .null, .int 0]))] 0 rfl rfl rfl (Nat.le_of_ble_eq_true rfl) rfl dX3_init_6 (fun H locs hW => ?_)
  refine r_aload_n C dX3_init_9 hl 0 rfl ?_
  refine r_iconst (z := 0) C dX3_init_10 rfl ?_
  refine r_put C f_X3_15 fp_3_1 hW [(o, .inr (3, [.int (iI 0), .int (iI 0), .null, .null, .int 0]))] 0 rfl rfl rfl (Nat.le_of_ble_eq_true rfl) rfl dX3_init_11 (fun H locs hW => ?_)
  refine r_aload_n C dX3_init_14 hl 0 rfl ?_
  refine r_bipush (z := 120) C dX3_init_15 rfl ?_
  refine r_newai C k_69 hW hA 120 rfl (Nat.le_of_ble_eq_true rfl) (Nat.le_of_ble_eq_true rfl) (Nat.le_of_ble_eq_true rfl) dX3_init_17 (fun q0 H hW => ?_)
  have hW : HW g A zs.heap [(o, .inr (3, [.int (iI 0), .int (iI 0), .null, .null, .int 0])), (q0, .inl (g.2.1, 120, .inl (iA (fun _ => 0))))] H _ := hW
  refine r_putF C f_X3_18 ff_3_2 hin hW [(o, .inr (3, [.int (iI 0), .int (iI 0), .ref q0, .null, .int 0])), (q0, .inl (g.2.1, 120, .inl (iA (fun _ => 0))))] 0 rfl rfl rfl (Nat.le_of_ble_eq_true rfl) rfl dX3_init_19 (fun H locs hW => ?_)
  refine r_aload_n C dX3_init_22 hl 0 rfl ?_
  refine r_sipush (z := 300) C dX3_init_23 rfl ?_
  refine r_newai C k_69 hW hA 300 rfl (Nat.le_of_ble_eq_true rfl) (Nat.le_of_ble_eq_true rfl) (Nat.le_of_ble_eq_true rfl) dX3_init_26 (fun q1 H hW => ?_)
  have hW : HW g A zs.heap [(o, .inr (3, [.int (iI 0), .int (iI 0), .ref q0, .null, .int 0])), (q0, .inl (g.2.1, 120, .inl (iA (fun _ => 0)))), (q1, .inl (g.2.1, 300, .inl (iA (fun _ => 0))))] H _ := hW
  refine r_putF C f_X3_22 ff_3_3 hin hW [(o, .inr (3, [.int (iI 0), .int (iI 0), .ref q0, .ref q1, .int 0])), (q0, .inl (g.2.1, 120, .inl (iA (fun _ => 0)))), (q1, .inl (g.2.1, 300, .inl (iA (fun _ => 0))))] 0 rfl rfl rfl (Nat.le_of_ble_eq_true rfl) rfl dX3_init_28 (fun H locs hW => ?_)
  refine r_aload_n C dX3_init_31 hl 0 rfl ?_
  refine r_iconst (z := 0) C dX3_init_32 rfl ?_
  refine r_put C f_X3_25 fp_3_4 hW [(o, .inr (3, [.int (iI 0), .int (iI 0), .ref q0, .ref q1, .int (iI 0)])), (q0, .inl (g.2.1, 120, .inl (iA (fun _ => 0)))), (q1, .inl (g.2.1, 300, .inl (iA (fun _ => 0))))] 0 rfl rfl rfl (Nat.le_of_ble_eq_true rfl) rfl dX3_init_33 (fun H locs hW => ?_)
  exact MC_vret (fun k => [q0, q1].getD k 0) C hAe hrt hlk hW dX3_init_36 rfl ⟨Nat.le_of_ble_eq_true rfl, Nat.le_of_ble_eq_true rfl⟩

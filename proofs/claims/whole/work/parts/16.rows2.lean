section RP
variable {g : GG} {p : Program} {l : Launch} {e : Env} {R : Room} {s : State} {m : MethodId} {args : Array Value} {below : List Frame} {meth : Method} {c : Code} {H H0 : Heap} {locs : List Loc} {cells slots : Nat} {Q : State → Prop} {cc : ByteArray} {nL pc : Nat} {own : String} {ls : Array Slot} {rest : List Value} {A : Nat → Prop} {ws : va_W}
theorem r_lushr8 (C : Cx g p m c cc nL s args own) {x : Int64} {a : Int} (hd : decode cc pc = .ok (.lushr, 1)) (k : W p l e R s m args below meth c H locs cells slots Q (F0 m (pc + 1) ls (.long (shL x a) :: rest))) : W p l e R s m args below meth c H locs cells slots Q (F0 m pc ls (.int (iI (a * 8)) :: .long x :: rest)) :=
  lv_lushr C.1.1 C.1.2.1 hd rfl k
theorem r_l2i (C : Cx g p m c cc nL s args own) {x : Int64} (hd : decode cc pc = .ok (.l2i, 1)) (k : W p l e R s m args below meth c H locs cells slots Q (F0 m (pc + 1) ls (.int x.toInt32 :: rest))) : W p l e R s m args below meth c H locs cells slots Q (F0 m pc ls (.long x :: rest)) :=
  lv_l2i C.1.1 C.1.2.1 hd rfl k
theorem r_iandby (C : Cx g p m c cc nL s args own) {x : Int64} {a : Int} (h0 : 0 ≤ a) (h : a < 8) (hd : decode cc pc = .ok (.iand, 1)) (k : W p l e R s m args below meth c H locs cells slots Q (F0 m (pc + 1) ls (.int (iI (byL x a)) :: rest))) : W p l e R s m args below meth c H locs cells slots Q (F0 m pc ls (.int (iI 255) :: .int (shL x a).toInt32 :: rest)) :=
  lv_iand C.1.1 C.1.2.1 hd (by rw [byL_eq h0 h]; exact k)
theorem r_lshl8 (C : Cx g p m c cc nL s args own) {v a : Int} (hd : decode cc pc = .ok (.lshl, 1)) (k : W p l e R s m args below meth c H locs cells slots Q (F0 m (pc + 1) ls (.long (sfL v a) :: rest))) : W p l e R s m args below meth c H locs cells slots Q (F0 m pc ls (.int (iI (a * 8)) :: .long (lI v) :: rest)) :=
  lv_lshl C.1.1 C.1.2.1 hd rfl k
theorem r_lxor (C : Cx g p m c cc nL s args own) {x y : Int64} (hd : decode cc pc = .ok (.lxor, 1)) (k : W p l e R s m args below meth c H locs cells slots Q (F0 m (pc + 1) ls (.long (x ^^^ y) :: rest))) : W p l e R s m args below meth c H locs cells slots Q (F0 m pc ls (.long y :: .long x :: rest)) :=
  lv_lxor C.1.1 C.1.2.1 hd k
theorem r_land (C : Cx g p m c cc nL s args own) {x y : Int64} (hd : decode cc pc = .ok (.land, 1)) (k : W p l e R s m args below meth c H locs cells slots Q (F0 m (pc + 1) ls (.long (x &&& y) :: rest))) : W p l e R s m args below meth c H locs cells slots Q (F0 m pc ls (.long y :: .long x :: rest)) :=
  lv_land C.1.1 C.1.2.1 hd k
theorem r_lor (C : Cx g p m c cc nL s args own) {x y : Int64} (hd : decode cc pc = .ok (.lor, 1)) (k : W p l e R s m args below meth c H locs cells slots Q (F0 m (pc + 1) ls (.long (x ||| y) :: rest))) : W p l e R s m args below meth c H locs cells slots Q (F0 m pc ls (.long y :: .long x :: rest)) :=
  lv_lor C.1.1 C.1.2.1 hd k
end RP

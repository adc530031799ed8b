/-! contracts. MR: reads alone; MW: writes its world's cells, makes none. Rooms: fr frames, lo words -/
abbrev rmm (fr lo : Nat) : Room := { frames := fr, cells := 0, slots := 0, locals := lo }
def QR (r : Value) : Array Value → State → Outcome → State → Prop := fun _ st o t => o = .returned (some r) ∧ t.heap = st.heap
def MR (l : Launch) (g : GG) (y : MethodName) (cc : ByteArray) (nL : Nat) (ret : Option FieldType) (fr lo : Nat) (as : List Value) (ws : va_W) (r : Value) : Prop :=
  Met l y (.code y cc nL ret :: TT) (rmm fr lo) (va_Pc as (fun U => KK g U ∧ va_P g.1 vwCl ws U.heap)) (QR r) 0 0 (fun _ => False)
def QW (g : GG) (ws ws1 : va_W) (sz : Nat) (r : Option Value) : Array Value → State → Outcome → State → Prop := fun _ st o t => o = .returned r ∧ va_P g.1 vwCl ws1 t.heap ∧ va_F (va_A ws sz) st t
def MW (l : Launch) (g : GG) (y : MethodName) (cc : ByteArray) (nL : Nat) (ret : Option FieldType) (fr lo : Nat) (as : List Value) (ws ws1 : va_W) (r : Option Value) : Prop :=
  ∀ sz : Nat, Met l y (.code y cc nL ret :: TT) (rmm fr lo) (va_Pc as (fun U => U.heap.size = sz ∧ KK g U ∧ va_P g.1 vwCl ws U.heap ∧ va_D (fun _ => True) ws)) (QW g ws ws1 sz r) 0 0 (va_A ws sz)
theorem GoodIn_TT {w : Cond} (h : w ∈ TT) : (w.onTables && w.keeps) = true ∨ ∃ ty, w = .arrayClass ty := good_of_word (List.mem_filter.mp h).2
theorem GoodIn_c {y : MethodName} {cc : ByteArray} {nL : Nat} {ret : Option FieldType} (h : Cond.code y cc nL ret ∈ TT) : GoodIn TT (.code y cc nL ret :: TT) := fun w hw => by
  rcases List.mem_cons.mp hw with rfl | hw
  · exact ⟨h, GoodIn_TT h⟩
  · exact ⟨hw, GoodIn_TT hw⟩
/-- an instance method by its entry in the caller's pool -/
def VL (own : String) (idx : Nat) (y : MethodName) (cc : ByteArray) (nL : Nat) (ret : Option FieldType) (n : Nat) : Prop := Cond.methodLink own idx y ∈ TT ∧ Cond.instanceMethod y ∈ TT ∧ Cond.selects y.cls y y ∈ TT ∧ Cond.initialized y.cls ∈ TT ∧ Cond.code y cc nL ret ∈ TT ∧ y.cls ≠ "java/lang/invoke/MethodHandle" ∧ y.cls ≠ "java/lang/invoke/VarHandle" ∧ (parseMethodDescriptor y.desc).map (fun d => d.parameters.length) = some n
/-- a static method of the same class -/
def SL (own : String) (idx : Nat) (y : MethodName) (cc : ByteArray) (nL : Nat) (ret : Option FieldType) (n : Nat) : Prop := Cond.methodLink own idx y ∈ TT ∧ Cond.static y ∈ TT ∧ Cond.initialized own ∈ TT ∧ Cond.code y cc nL ret ∈ TT ∧ y.cls = own ∧ y.cls ≠ "java/lang/invoke/MethodHandle" ∧ y.cls ≠ "java/lang/invoke/VarHandle" ∧ (parseMethodDescriptor y.desc).map (fun d => d.parameters.length) = some n
/-- a private static method of a nest mate -/
def NL (own : String) (idx : Nat) (y : MethodName) (cc : ByteArray) (nL : Nat) (ret : Option FieldType) (n : Nat) : Prop := (∃ host, Cond.methodLinkNest own idx y host ∈ nestW) ∧ Cond.static y ∈ TT ∧ Cond.initialized y.cls ∈ TT ∧ Cond.code y cc nL ret ∈ TT ∧ y.cls ≠ "java/lang/invoke/MethodHandle" ∧ y.cls ≠ "java/lang/invoke/VarHandle" ∧ (parseMethodDescriptor y.desc).map (fun d => d.parameters.length) = some n
theorem va_P_l {D : va_G} {cl : List vw_C} {a b : va_W} {H : Heap} (h : va_P D cl (a ++ b) H) : va_P D cl a H := fun k q hq => h k q (by rw [List.getElem?_append_left (List.getElem?_eq_some_iff.mp hq).1]; exact hq)
theorem va_P_r {D : va_G} {cl : List vw_C} {a b : va_W} {H : Heap} (h : va_P D cl (a ++ b) H) : va_P D cl b H := fun k q hq => h (a.length + k) q (by rw [List.getElem?_append_right (by omega), Nat.add_sub_cancel_left]; exact hq)
theorem va_D_same {A : Nat → Prop} {ws ws1 : va_W} (hm : ws1.map (fun q => q.1) = ws.map (fun q => q.1)) (h : va_D A ws) : va_D A ws1 := by
  have hk : ∀ (k : Nat) (q : Nat × va_E), ws1[k]? = some q → ∃ q' : Nat × va_E, ws[k]? = some q' ∧ q'.1 = q.1 := by
    intro k q hq
    have h1 : (ws1.map (fun q => q.1))[k]? = some q.1 := by rw [List.getElem?_map, hq]; rfl
    rw [hm, List.getElem?_map] at h1
    cases hw : ws[k]? with
    | none => rw [hw] at h1; cases h1
    | some q' => rw [hw] at h1; exact ⟨q', rfl, Option.some.inj h1⟩
  refine ⟨fun i j p q hp hq e => ?_, fun k q hq => ?_⟩
  · obtain ⟨p', h1, e1⟩ := hk i p hp
    obtain ⟨q', h2, e2⟩ := hk j q hq
    exact h.1 i j p' q' h1 h2 (by rw [e1, e2, e])
  · obtain ⟨q', h1, e1⟩ := hk k q hq
    rw [← e1]; exact h.2 k q' h1
theorem HW.sz {g : GG} {A : Nat → Prop} {H0 H : Heap} {ws : va_W} {locs : List Loc} (h : HW g A H0 ws H locs) : H0.size ≤ H.size := h.2.2.1
theorem goodIn_app {big a b : List Cond} (ha : GoodIn big a) (hb : GoodIn big b) : GoodIn big (a ++ b) := fun w h => (List.mem_append.mp h).elim (ha w) (hb w)
theorem pick_fm {α : Type} {f : Nat → Option α} {is : List Nat} {ws : List α} (h : is.map f = ws.map some) : is.filterMap f = ws := by
  have h1 : is.filterMap f = (is.map f).filterMap id := by rw [List.filterMap_map]; rfl
  rw [h1, h]
  simp
section CA
variable {g : GG} {p : Program} {l : Launch} {e : Env} {R : Room} {s : State} {m : MethodId} {args : Array Value} {below : List Frame} {meth : Method} {c : Code} {H H0 : Heap} {locs : List Loc} {cells slots : Nat} {Q : State → Prop} {cc : ByteArray} {nL pc : Nat} {own : String} {ls : Array Slot} {rest : List Value} {A : Nat → Prop} {ws ws1 : va_W} {a : Nat} {y : MethodName} {fr lo : Nat} {as : List Value} {ret : Option FieldType}
theorem MR_start {r : Value} (hy : plainName y.cls = true) (hlen : (lg_sl as).length ≤ nL)
    (k : ∀ (p : Program) (e : Env) (s : State) (m : MethodId) (below : List Frame) (meth : Method) (c : Code), Cx g p m c cc nL s as.toArray y.cls → meth.sig.returnType = ret → meth.locks = false → va_P g.1 vwCl ws s.heap → ∀ ls : Array Slot, lv_has ls nL (lv_args 0 as) → W p l e (rmm fr lo) s m as.toArray below meth c s.heap [] 0 0 (MQ below (QR r) as.toArray s 0 0 (fun _ => False)) (F0 m 0 ls [])) : MR l g y cc nL ret fr lo as ws r := by
  refine Met.ofW (cc := cc) (maxL := nL) (ret := ret) hy rfl ?_
  intro p e s m args below meth c s₁ B hml hv
  obtain ⟨rfl, hK, hP⟩ := hv
  have hts := atoms_spec (ws := .code y cc nL ret :: TT) B.pre
  have hown : s.vm.findClass y.cls = some m.cls := findClass_of_methodNamed B.named
  have hl := lv_entry as (n := nL) hlen
  rw [lg_entry_eq]
  exact k p e s m below meth c ⟨⟨B.exec, B.bytes, hml, hown, fun w hw => hts w (List.mem_cons_of_mem _ hw)⟩, hK⟩ B.returns B.notSynchronized hP _ hl
theorem MW_start {r : Option Value} (hy : plainName y.cls = true) (hlen : (lg_sl as).length ≤ nL)
    (k : ∀ (p : Program) (e : Env) (s : State) (m : MethodId) (below : List Frame) (meth : Method) (c : Code) (A : Nat → Prop), A = va_A ws s.heap.size → Cx g p m c cc nL s as.toArray y.cls → meth.sig.returnType = ret → meth.locks = false → HW g A s.heap ws s.heap [] → ∀ ls : Array Slot, lv_has ls nL (lv_args 0 as) → W p l e (rmm fr lo) s m as.toArray below meth c s.heap [] 0 0 (MQ below (QW g ws ws1 s.heap.size r) as.toArray s 0 0 A) (F0 m 0 ls [])) : MW l g y cc nL ret fr lo as ws ws1 r := by
  intro sz
  refine Met.ofW (cc := cc) (maxL := nL) (ret := ret) hy rfl ?_
  intro p e s m args below meth c s₁ B hml hv
  obtain ⟨rfl, hsz, hK, hP, hD⟩ := hv
  subst hsz
  have hts := atoms_spec (ws := .code y cc nL ret :: TT) B.pre
  have hown : s.vm.findClass y.cls = some m.cls := findClass_of_methodNamed B.named
  have hl := lv_entry as (n := nL) hlen
  rw [lg_entry_eq]
  exact k p e s m below meth c _ rfl ⟨⟨B.exec, B.bytes, hml, hown, fun w hw => hts w (List.mem_cons_of_mem _ hw)⟩, hK⟩ B.returns B.notSynchronized ⟨hP, hD.self, va_S.rf⟩ _ hl
/-! ends -/
theorem MR_iret {v : Int32} {r : Value} (C : Cx g p m c cc nL s args own) (hr : meth.sig.returnType = some .int) (hk : meth.locks = false) (hd : decode cc pc = .ok (.ireturn, 1)) (hv : Value.int v = r) : W p l e R s m args below meth c s.heap [] 0 0 (MQ below (QR r) args s 0 0 (fun _ => False)) (F0 m pc ls [.int v]) := by
  subst hv
  exact W.iret (Qc := QR (.int v)) C.1.1 C.1.2.1 hr (fun t ht _ => ⟨rfl, ht⟩) (fun _ h => by cases h) hd hk
theorem MR_zret {d : Prop} [Decidable d] {r : Value} (C : Cx g p m c cc nL s args own) (hr : meth.sig.returnType = some .boolean) (hk : meth.locks = false) (hd : decode cc pc = .ok (.ireturn, 1)) {v : Int} (hv : v = bI d) (hv2 : Value.int (iI (bI d)) = r) : W p l e R s m args below meth c s.heap [] 0 0 (MQ below (QR r) args s 0 0 (fun _ => False)) (F0 m pc ls [.int (iI v)]) := by
  subst hv; subst hv2
  rcases bI_r d with h | h <;> rw [h] <;> exact W.zret (Qc := QR _) C.1.1 C.1.2.1 hr (by decide) (fun t ht _ => ⟨rfl, ht⟩) (fun _ h => by cases h) hd hk
theorem MR_lret {v : Int64} {r : Value} (C : Cx g p m c cc nL s args own) (hr : meth.sig.returnType = some .long) (hk : meth.locks = false) (hd : decode cc pc = .ok (.lreturn, 1)) (hv : Value.long v = r) : W p l e R s m args below meth c s.heap [] 0 0 (MQ below (QR r) args s 0 0 (fun _ => False)) (F0 m pc ls [.long v]) := by
  subst hv
  exact W.lret (Qc := QR (.long v)) C.1.1 C.1.2.1 hr (fun t ht _ => ⟨rfl, ht⟩) (fun _ h => by cases h) hd hk
theorem MW_iret {v : Int32} {r : Option Value} {ws2 : va_W} (C : Cx g p m c cc nL s args own) (hA : A = va_A ws s.heap.size) (hr : meth.sig.returnType = some .int) (hk : meth.locks = false) (hW : HW g A s.heap ws2 H locs) (hd : decode cc pc = .ok (.ireturn, 1)) (hv : some (Value.int v) = r) (hs : ws2 = ws1) : W p l e R s m args below meth c H locs 0 0 (MQ below (QW g ws ws1 s.heap.size r) args s 0 0 A) (F0 m pc ls [.int v]) := by
  subst hv; subst hs; subst hA
  exact W.iret (Qc := QW _ _ _ _ _) C.1.1 C.1.2.1 hr (fun t ht _ => ⟨rfl, by rw [ht]; exact hW.1, hW.2.2.F ht⟩) hW.2.2.2.2 hd hk
theorem MW_zret {d : Prop} [Decidable d] {r : Option Value} {ws2 : va_W} (C : Cx g p m c cc nL s args own) (hA : A = va_A ws s.heap.size) (hr : meth.sig.returnType = some .boolean) (hk : meth.locks = false) (hW : HW g A s.heap ws2 H locs) (hd : decode cc pc = .ok (.ireturn, 1)) {v : Int} (hv : v = bI d) (hv2 : some (Value.int (iI (bI d))) = r) (hs : ws2 = ws1) : W p l e R s m args below meth c H locs 0 0 (MQ below (QW g ws ws1 s.heap.size r) args s 0 0 A) (F0 m pc ls [.int (iI v)]) := by
  subst hv; subst hv2; subst hs; subst hA
  rcases bI_r d with h | h <;> rw [h] <;> exact W.zret (Qc := QW _ _ _ _ _) C.1.1 C.1.2.1 hr (by decide) (fun t ht _ => ⟨rfl, by rw [ht]; exact hW.1, hW.2.2.F ht⟩) hW.2.2.2.2 hd hk
theorem MW_lret {v : Int64} {r : Option Value} {ws2 : va_W} (C : Cx g p m c cc nL s args own) (hA : A = va_A ws s.heap.size) (hr : meth.sig.returnType = some .long) (hk : meth.locks = false) (hW : HW g A s.heap ws2 H locs) (hd : decode cc pc = .ok (.lreturn, 1)) (hv : some (Value.long v) = r) (hs : ws2 = ws1) : W p l e R s m args below meth c H locs 0 0 (MQ below (QW g ws ws1 s.heap.size r) args s 0 0 A) (F0 m pc ls [.long v]) := by
  subst hv; subst hs; subst hA
  exact W.lret (Qc := QW _ _ _ _ _) C.1.1 C.1.2.1 hr (fun t ht _ => ⟨rfl, by rw [ht]; exact hW.1, hW.2.2.F ht⟩) hW.2.2.2.2 hd hk
theorem MW_vret {r : Option Value} {ws2 : va_W} (C : Cx g p m c cc nL s args own) (hA : A = va_A ws s.heap.size) (hr : meth.sig.returnType = none) (hk : meth.locks = false) (hW : HW g A s.heap ws2 H locs) (hd : decode cc pc = .ok (.return_, 1)) (hv : none = r) (hs : ws2 = ws1) : W p l e R s m args below meth c H locs 0 0 (MQ below (QW g ws ws1 s.heap.size r) args s 0 0 A) (F0 m pc ls []) := by
  subst hv; subst hs; subst hA
  exact W.vret (Qc := QW _ _ _ _ _) C.1.1 C.1.2.1 hr (fun t ht _ => ⟨rfl, by rw [ht]; exact hW.1, hW.2.2.F ht⟩) hW.2.2.2.2 hd hk
theorem MW_aret {v : Nat} {rt : FieldType} {r : Option Value} {ws2 : va_W} (C : Cx g p m c cc nL s args own) (hA : A = va_A ws s.heap.size) (hr : meth.sig.returnType = some rt) (hrt : ∃ n, rt = .object n) (hk : meth.locks = false) (hW : HW g A s.heap ws2 H locs) (hd : decode cc pc = .ok (.areturn, 1)) (hv : some (Value.ref v) = r) (hs : ws2 = ws1) : W p l e R s m args below meth c H locs 0 0 (MQ below (QW g ws ws1 s.heap.size r) args s 0 0 A) (F0 m pc ls [.ref v]) := by
  subst hv; subst hs; subst hA
  exact W.aret (Qc := QW _ _ _ _ _) C.1.1 C.1.2.1 hr (Or.inl hrt) (Or.inr ⟨v, rfl⟩) (fun t ht _ => ⟨rfl, by rw [ht]; exact hW.1, hW.2.2.F ht⟩) hW.2.2.2.2 hd hk
/-! calls -/
theorem blindR {as : List Value} {ws : va_W} : FrameBlind (va_Pc as (fun U => KK g U ∧ va_P g.1 vwCl ws U.heap)) := fun a U f mk q => ⟨q.1, KK.blind f mk a q.2.1, q.2.2⟩
theorem blindW {as : List Value} {ws : va_W} {sz : Nat} : FrameBlind (va_Pc as (fun U => U.heap.size = sz ∧ KK g U ∧ va_P g.1 vwCl ws U.heap ∧ va_D (fun _ => True) ws)) := fun a U f mk q => ⟨q.1, q.2.1, KK.blind f mk a q.2.2.1, q.2.2.2.1, q.2.2.2.2⟩
/-- a call that reads alone leaves the heap as it is -/
theorem runR {st0 : List Value} {r : Value} {av : Array Value} (hr : va_Run p l e R s m args below meth c H locs cells slots 0 0 (F0 m pc ls st0) rest (QR r av) (fun _ => False)) (kk : W p l e R s m args below meth c H locs cells slots Q (F0 m (pc + 3) ls (r :: rest))) : W p l e R s m args below meth c H locs cells slots Q (F0 m pc ls st0) := by
  intro T hT X
  obtain ⟨v, st₀, t, T', L, h0, X', hL, e1, e2, ⟨hv, hh⟩, st⟩ := hr T hT X
  cases hv
  have hL0 : L = [] := by
    cases L with
    | nil => rfl
    | cons q _ => exact absurd (hL q List.mem_cons_self) id
  subst hL0
  rw [List.append_nil] at X'
  obtain ⟨t2, a1, b1⟩ := kk T' (by rw [e1, hh, h0]) X'
  exact ⟨t2, st t2 a1, b1⟩
theorem r_callR {cy : ByteArray} {nL1 idx n b ci : Nat} {As : List Value} {wsc : va_W} {r : Value} {q : vw_C} {fs : List Value} (C : Cx g p m c cc nL s args own) (hls : ls.size = nL) (hM : MR l g y cy nL1 ret fr lo (.ref b :: As) wsc r) (hV : VL own idx y cy nL1 ret n) (hn : As.length = n) (hP : va_P g.1 vwCl wsc H) (q0 : Nat) (he : wsc[q0]? = some (b, .inr (ci, fs))) (hc : vwCl[ci]? = some q) (hq : q.1 = y.cls) (hR : fr + 1 ≤ R.frames ∧ 8 + (nL1 + 11) + lo ≤ R.locals) (hf : cells ≤ R.cells ∧ slots ≤ R.slots) (hrest : (rest.map fun v => v.category).sum ≤ 8) (hd : decode cc pc = .ok (.invokevirtual idx, 3)) {st0 : List Value} (hst : st0 = As.reverse ++ .ref b :: rest)
    (kk : W p l e R s m args below meth c H locs cells slots Q (F0 m (pc + 3) ls (r :: rest))) : W p l e R s m args below meth c H locs cells slots Q (F0 m pc ls st0) := by
  obtain ⟨v1, v2, v3, v4, v5, v6, v7, v8⟩ := hV
  have hin : GoodIn TT (wsV own idx y.cls y (.code y cy nL1 ret :: TT)) := goodIn_app (fun w hw => by
    simp only [List.mem_cons, List.not_mem_nil, or_false] at hw
    rcases hw with rfl | rfl | rfl | rfl
    · exact ⟨v1, GoodIn_TT v1⟩
    · exact ⟨v2, GoodIn_TT v2⟩
    · exact ⟨v3, GoodIn_TT v3⟩
    · exact ⟨v4, GoodIn_TT v4⟩) (GoodIn_c v5)
  refine runR (va_runV (As := As) (rest := rest) C.1 hM (cwV n C.1.2.2.2.2 hin rfl rfl rfl ⟨rfl, v6, v7, v8⟩ ⟨hR.1, hR.2⟩) ⟨blindR, ?_, fun U hU hW => ⟨rfl, KK.moved hW C.2, by rw [hU]; exact hP⟩⟩ rfl hn hls hst (lv_room hrest) hd ⟨hf.1, hf.2⟩) kk
  have := va_recv C.2.1 hP hc he
  rw [hq] at this
  exact this
theorem r_callRS {cy : ByteArray} {nL1 idx n : Nat} {As : List Value} {wsc : va_W} {r : Value} (C : Cx g p m c cc nL s args own) (hls : ls.size = nL) (hM : MR l g y cy nL1 ret fr lo As wsc r) (hV : SL own idx y cy nL1 ret n) (hn : As.length = n) (hP : va_P g.1 vwCl wsc H) (hR : fr + 1 ≤ R.frames ∧ 8 + (nL1 + 11) + lo ≤ R.locals) (hf : cells ≤ R.cells ∧ slots ≤ R.slots) (hrest : (rest.map fun v => v.category).sum ≤ 8) (hd : decode cc pc = .ok (.invokestatic idx, 3)) {st0 : List Value} (hst : st0 = As.reverse ++ rest)
    (kk : W p l e R s m args below meth c H locs cells slots Q (F0 m (pc + 3) ls (r :: rest))) : W p l e R s m args below meth c H locs cells slots Q (F0 m pc ls st0) := by
  obtain ⟨v1, v2, v3, v4, v5, v6, v7, v8⟩ := hV
  have hin : GoodIn TT (wsS own idx y (.code y cy nL1 ret :: TT)) := goodIn_app (fun w hw => by
    simp only [List.mem_cons, List.not_mem_nil, or_false] at hw
    rcases hw with rfl | rfl | rfl
    · exact ⟨v1, GoodIn_TT v1⟩
    · exact ⟨v2, GoodIn_TT v2⟩
    · exact ⟨v3, GoodIn_TT v3⟩) (GoodIn_c v4)
  exact runR (va_runS (As := As) (rest := rest) C.1 hM (cwS n C.1.2.2.2.2 hin rfl rfl rfl ⟨v5, v6, v7, v8⟩ ⟨hR.1, hR.2⟩) ⟨blindR, fun U hU hW => ⟨rfl, KK.moved hW C.2, by rw [hU]; exact hP⟩⟩ rfl hn hls hst (lv_room hrest) hd ⟨hf.1, hf.2⟩) kk
theorem r_callRN {cy : ByteArray} {nL1 idx n : Nat} {As : List Value} {wsc : va_W} {r : Value} (C : Cx g p m c cc nL s args own) (hls : ls.size = nL) (hM : MR l g y cy nL1 ret fr lo As wsc r) (hV : NL own idx y cy nL1 ret n) (hn : As.length = n) (hP : va_P g.1 vwCl wsc H) (hR : fr + 1 ≤ R.frames ∧ 8 + (nL1 + 11) + lo ≤ R.locals) (hf : cells ≤ R.cells ∧ slots ≤ R.slots) (hrest : (rest.map fun v => v.category).sum ≤ 8) (hd : decode cc pc = .ok (.invokestatic idx, 3)) {st0 : List Value} (hst : st0 = As.reverse ++ rest)
    (kk : W p l e R s m args below meth c H locs cells slots Q (F0 m (pc + 3) ls (r :: rest))) : W p l e R s m args below meth c H locs cells slots Q (F0 m pc ls st0) := by
  obtain ⟨⟨host, v1⟩, v2, v3, v4, v6, v7, v8⟩ := hV
  exact runR (va_runSN (As := As) (rest := rest) C.1 hM ⟨va_cnB n C.1.2.2.2.2 (GoodIn_c v4) rfl rfl rfl (C.2.2.1 _ v1) (C.1.2.2.2.2 _ v3) ⟨v6, v7, v8⟩ ⟨hR.1, hR.2⟩, C.1.2.2.2.2 _ v2, trivial⟩ ⟨blindR, fun U hU hW => ⟨rfl, KK.moved hW C.2, by rw [hU]; exact hP⟩⟩ rfl hn hls hst (lv_room hrest) hd ⟨hf.1, hf.2⟩) kk
/-- a call that writes: its cells are the places isC of the caller's world, the rest isR -/
theorem runW {st0 : List Value} {r : Option Value} {av : Array Value} {wsc wsc1 wr ws2 : va_W} (hW : HW g A H0 ws H locs) (hA : ∀ q, H0.size ≤ q → A q) (isC isR : List Nat) (hC : isC.map (fun i => ws[i]?) = wsc.map some) (hRr : isR.map (fun i => ws[i]?) = wr.map some) (hnd : va_nd isR = true) (hdis : ∀ i ∈ isR, i ∉ isC) (hndC : va_nd isC = true) (hmap : wsc1.map (fun q => q.1) = wsc.map (fun q => q.1)) (isO : List Nat) (hO : isO.map (fun i => (wr ++ wsc1)[i]?) = ws2.map some) (hndO : va_nd isO = true) (hr : va_Run p l e R s m args below meth c H locs cells slots 0 0 (F0 m pc ls st0) rest (QW g wsc wsc1 H.size r av) (va_A wsc H.size)) (kk : ∀ (H1 : Heap) (locs1 : List Loc), HW g A H0 ws2 H1 locs1 → W p l e R s m args below meth c H1 locs1 cells slots Q (F0 m (pc + 3) ls (r.toList ++ rest))) : W p l e R s m args below meth c H locs cells slots Q (F0 m pc ls st0) := by
  have hF := va_free (wc := wsc) hW.2.1 hW.2.2 hA isC hC
  intro T hT X
  obtain ⟨v, st₀, t, T', L, h0, X', hL, e1, e2, ⟨hv, hp, hz, hk⟩, st⟩ := hr T hT X
  cases hv
  rw [h0] at hz hk
  have hD1 : va_D (va_A wsc H.size) wsc1 := va_D_same hmap (va_D.self (A := A) (hW.2.1.sub isC hndC hC))
  obtain ⟨jP, jD⟩ := va_join (wr := wr) (w1 := wsc1) hW.1 hW.2.1 isC isR hC hRr hnd hdis hk hF hp hD1
  have hS1 : va_S A H0 T'.heap (locs ++ L) := ⟨Nat.le_trans hW.2.2.1 (by rw [e1]; exact hz), fun q h1 h2 => by rw [e1, hk q (Nat.lt_of_lt_of_le h1 hW.2.2.1) (fun z => h2 (hF q z))]; exact hW.2.2.2.1 q h1 h2, fun q hq => by
      rcases List.mem_append.mp hq with h | h
      · exact hW.2.2.2.2 q h
      · exact hF _ (hL q h)⟩
  obtain ⟨t2, a1, b1⟩ := kk T'.heap (locs ++ L) ⟨by rw [e1]; exact jP.sub isO (pick_fm hO), jD.sub isO hndO hO, hS1⟩ T' rfl X'
  exact ⟨t2, st t2 a1, b1⟩
theorem r_callW {cy : ByteArray} {nL1 idx n b ci : Nat} {As : List Value} {wsc wsc1 wr ws2 : va_W} {r : Option Value} {q : vw_C} {fs : List Value} (C : Cx g p m c cc nL s args own) (hls : ls.size = nL) (hW : HW g A H0 ws H locs) (hA : ∀ q, H0.size ≤ q → A q) (hM : MW l g y cy nL1 ret fr lo (.ref b :: As) wsc wsc1 r) (hV : VL own idx y cy nL1 ret n) (hn : As.length = n) (isC isR isO : List Nat) (hC : isC.map (fun i => ws[i]?) = wsc.map some) (hRr : isR.map (fun i => ws[i]?) = wr.map some) (hnd : va_nd isR = true ∧ va_nd isC = true ∧ va_nd isO = true) (hdis : ∀ i ∈ isR, i ∉ isC) (hmap : wsc1.map (fun q => q.1) = wsc.map (fun q => q.1)) (hO : isO.map (fun i => (wr ++ wsc1)[i]?) = ws2.map some) (q0 : Nat) (he : wsc[q0]? = some (b, .inr (ci, fs))) (hc : vwCl[ci]? = some q) (hq : q.1 = y.cls) (hR : fr + 1 ≤ R.frames ∧ 8 + (nL1 + 11) + lo ≤ R.locals) (hf : cells ≤ R.cells ∧ slots ≤ R.slots) (hrest : (rest.map fun v => v.category).sum ≤ 8) (hd : decode cc pc = .ok (.invokevirtual idx, 3)) {st0 : List Value} (hst : st0 = As.reverse ++ .ref b :: rest) {st1 : List Value} (hst1 : r.toList ++ rest = st1)
    (kk : ∀ (H1 : Heap) (locs1 : List Loc), HW g A H0 ws2 H1 locs1 → W p l e R s m args below meth c H1 locs1 cells slots Q (F0 m (pc + 3) ls st1)) : W p l e R s m args below meth c H locs cells slots Q (F0 m pc ls st0) := by
  subst hst1
  obtain ⟨v1, v2, v3, v4, v5, v6, v7, v8⟩ := hV
  have hin : GoodIn TT (wsV own idx y.cls y (.code y cy nL1 ret :: TT)) := goodIn_app (fun w hw => by
    simp only [List.mem_cons, List.not_mem_nil, or_false] at hw
    rcases hw with rfl | rfl | rfl | rfl
    · exact ⟨v1, GoodIn_TT v1⟩
    · exact ⟨v2, GoodIn_TT v2⟩
    · exact ⟨v3, GoodIn_TT v3⟩
    · exact ⟨v4, GoodIn_TT v4⟩) (GoodIn_c v5)
  have hPc : va_P g.1 vwCl wsc H := hW.1.sub isC (pick_fm hC)
  have hDc : va_D A wsc := hW.2.1.sub isC hnd.2.1 hC
  refine runW hW hA isC isR hC hRr hnd.1 hdis hnd.2.1 hmap isO hO hnd.2.2 (va_runV (As := As) (rest := rest) C.1 (hM H.size) (cwV n C.1.2.2.2.2 hin rfl rfl rfl ⟨rfl, v6, v7, v8⟩ ⟨hR.1, hR.2⟩) ⟨blindW, ?_, fun U hU hX => ⟨rfl, by rw [hU], KK.moved hX C.2, by rw [hU]; exact hPc, hDc.weaken (fun _ _ _ _ => trivial)⟩⟩ rfl hn hls hst (lv_room hrest) hd ⟨hf.1, hf.2⟩) kk
  have := va_recv C.2.1 hPc hc he
  rw [hq] at this
  exact this
theorem r_tableD (C : Cx g p m c cc nL s args own) {dflt lo hi : Int} {offs : Array Int} {len : Nat} {x : Int} (tgt : Nat) (hd : decode cc pc = .ok (.tableswitch dflt lo hi offs, len)) (hx : rg x) (ht : (pc : Int) + dflt = (tgt : Int)) (ho : lo ≤ x → x ≤ hi → offs[(x - lo).toNat]? = some dflt) (k : W p l e R s m args below meth c H locs cells slots Q (F0 m tgt ls rest)) : W p l e R s m args below meth c H locs cells slots Q (F0 m pc ls (.int (iI x) :: rest)) := by
  by_cases h : x < lo ∨ hi < x
  · exact r_tableOut C tgt hd hx h ht k
  · exact r_tableIn C tgt hd hx (by omega) (ho (by omega) (by omega)) ht k
end CA
theorem iv {a b : Int} (h : a = b) : Value.int (iI a) = Value.int (iI b) := by rw [h]
theorem iw {a b : Int} (h : a = b) : some (Value.int (iI a)) = some (Value.int (iI b)) := by rw [h]
theorem lvv {a b : Int} (h : a = b) : Value.long (lI a) = Value.long (lI b) := by rw [h]
theorem lww {a b : Int} (h : a = b) : some (Value.long (lI a)) = some (Value.long (lI b)) := by rw [h]

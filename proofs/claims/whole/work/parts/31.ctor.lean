/-! constructors: a blank object comes, its world goes out -/
abbrev rmc (fr lo mc ms : Nat) : Room := { frames := fr, cells := mc, slots := ms, locals := lo }
def QC {S : Type} (g : GG) (w0 : va_W) (sz : Nat) (F : S → va_W) : Array Value → State → Outcome → State → Prop := fun _ st o t => o = .returned none ∧ (∃ a : S, va_P g.1 vwCl (F a) t.heap ∧ va_D (va_A w0 sz) (F a)) ∧ va_F (va_A w0 sz) st t
def MC {S : Type} (l : Launch) (g : GG) (y : MethodName) (cc : ByteArray) (nL fr lo mc ms : Nat) (o : Nat) (w0 : va_W) (F : S → va_W) : Prop :=
  ∀ sz : Nat, Met l y (.code y cc nL none :: TT) (rmc fr lo mc ms) (va_Pc [.ref o] (fun U => U.heap.size = sz ∧ KK g U ∧ va_P g.1 vwCl w0 U.heap ∧ va_D (fun _ => True) w0)) (QC g w0 sz F) mc ms (va_A w0 sz)
theorem KK_int {g : GG} {s : State} (h : KK g s) {cA : ClassId} (hK : va_K g.1 vwCl ([(g.2.1, .int), (g.2.2.1, .long), (g.2.2.2, .object "MatchedFlows$Program")] ++ [(cA, .int)]) s) : cA = g.2.1 := by
  have h1 : va_RA s cA .int := (hK.2 3 (cA, .int) rfl).2
  have h2 : va_RA s g.2.1 .int := (h.1.2 0 (g.2.1, .int) rfl).2
  have h1 : s.vm.findClass ("[" ++ FieldType.int.toString) = some cA := h1
  have h2 : s.vm.findClass ("[" ++ FieldType.int.toString) = some g.2.1 := h2
  rw [h1] at h2; exact Option.some.inj h2
theorem KK_long {g : GG} {s : State} (h : KK g s) {cA : ClassId} (hK : va_K g.1 vwCl ([(g.2.1, .int), (g.2.2.1, .long), (g.2.2.2, .object "MatchedFlows$Program")] ++ [(cA, .long)]) s) : cA = g.2.2.1 := by
  have h1 : va_RA s cA .long := (hK.2 3 (cA, .long) rfl).2
  have h2 : va_RA s g.2.2.1 .long := (h.1.2 1 (g.2.2.1, .long) rfl).2
  have h1 : s.vm.findClass ("[" ++ FieldType.long.toString) = some cA := h1
  have h2 : s.vm.findClass ("[" ++ FieldType.long.toString) = some g.2.2.1 := h2
  rw [h1] at h2; exact Option.some.inj h2
theorem KK_obj {g : GG} {s : State} (h : KK g s) {cA : ClassId} (hK : va_K g.1 vwCl ([(g.2.1, .int), (g.2.2.1, .long), (g.2.2.2, .object "MatchedFlows$Program")] ++ [(cA, .object "MatchedFlows$Program")]) s) : cA = g.2.2.2 := by
  have h1 : va_RA s cA (.object "MatchedFlows$Program") := (hK.2 3 (cA, .object "MatchedFlows$Program") rfl).2
  have h2 : va_RA s g.2.2.2 (.object "MatchedFlows$Program") := (h.1.2 2 (g.2.2.2, .object "MatchedFlows$Program") rfl).2
  obtain ⟨_, _, _, _, _, h1⟩ := h1
  obtain ⟨_, _, _, _, _, h2⟩ := h2
  rw [h1] at h2; exact Option.some.inj h2
/-- a final field of its own class -/
def FF (own : String) (ci k : Nat) (ty : FieldType) : Prop := ∀ (C : String) (T : u_T) (N : Nat), vwCl[ci]? = some (C, T, N) → (T k).2.2.2 = true ∧ (T k).1 = own ∧ parseFieldDescriptor (T k).2.2.1 = some ty
section CT
variable {g : GG} {p : Program} {l : Launch} {e : Env} {R : Room} {s : State} {m : MethodId} {args : Array Value} {below : List Frame} {meth : Method} {c : Code} {H H0 : Heap} {locs : List Loc} {cells slots : Nat} {Q : State → Prop} {cc : ByteArray} {nL pc : Nat} {own : String} {ls : Array Slot} {rest : List Value} {A : Nat → Prop} {ws : va_W} {a : Nat} {y : MethodName} {fr lo mc ms o : Nat}
theorem MC_start {S : Type} {w0 : va_W} {F : S → va_W} (hy : plainName y.cls = true) (hlen : (lg_sl [Value.ref o]).length ≤ nL)
    (k : ∀ (p : Program) (e : Env) (s : State) (m : MethodId) (below : List Frame) (meth : Method) (c : Code) (A : Nat → Prop), A = va_A w0 s.heap.size → Cx g p m c cc nL s [Value.ref o].toArray y.cls → meth.sig.returnType = none → meth.locks = false → meth.name = y.name → HW g A s.heap w0 s.heap [] → ∀ ls : Array Slot, lv_has ls nL (lv_args 0 [Value.ref o]) → W p l e (rmc fr lo mc ms) s m [Value.ref o].toArray below meth c s.heap [] 0 0 (MQ below (QC g w0 s.heap.size F) [Value.ref o].toArray s mc ms A) (F0 m 0 ls [])) : MC l g y cc nL fr lo mc ms o w0 F := by
  intro sz
  refine Met.ofW (cc := cc) (maxL := nL) (ret := none) hy rfl ?_
  intro p e s m args below meth c s₁ B hml hv
  obtain ⟨rfl, hsz, hK, hP, hD⟩ := hv
  subst hsz
  have hts := atoms_spec (ws := .code y cc nL none :: TT) B.pre
  have hown : s.vm.findClass y.cls = some m.cls := findClass_of_methodNamed B.named
  have hl := lv_entry [Value.ref o] (n := nL) hlen
  rw [lg_entry_eq]
  exact k p e s m below meth c _ rfl ⟨⟨B.exec, B.bytes, hml, hown, fun w hw => hts w (List.mem_cons_of_mem _ hw)⟩, hK⟩ B.returns B.notSynchronized (name_of_methodNamed B.named B.method).1 ⟨hP, hD.self, va_S.rf⟩ _ hl
theorem MC_vret {S : Type} {w0 ws2 : va_W} {F : S → va_W} (x : S) (C : Cx g p m c cc nL s args own) (hA : A = va_A w0 s.heap.size) (hr : meth.sig.returnType = none) (hk : meth.locks = false) (hW : HW g A s.heap ws2 H locs) (hd : decode cc pc = .ok (.return_, 1)) (hs : ws2 = F x) (hc : cells ≤ mc ∧ slots ≤ ms) : W p l e R s m args below meth c H locs cells slots (MQ below (QC g w0 s.heap.size F) args s mc ms A) (F0 m pc ls []) := by
  subst hs; subst hA
  refine W.widen (k := mc) (n := ms) hc.1 hc.2 ?_
  exact W.vret (Qc := QC _ _ _ _) C.1.1 C.1.2.1 hr (fun t ht _ => ⟨rfl, ⟨x, by rw [ht]; exact hW.1, hW.2.1⟩, hW.2.2.F ht⟩) hW.2.2.2.2 hd hk
theorem r_objInit {idx : Nat} (C : Cx g p m c cc nL s args own) (hls : ls.size = nL) (h1 : Cond.methodLink own idx objectInit ∈ TT) (h2 : Cond.instanceMethod objectInit ∈ TT) (hfr : 1 ≤ R.frames) (hlo : (rest.map fun v => v.category).sum + 12 ≤ R.locals) (hd : decode cc pc = .ok (.invokespecial idx, 3)) (kk : W p l e R s m args below meth c H locs cells slots Q (F0 m (pc + 3) ls rest)) : W p l e R s m args below meth c H locs cells slots Q (F0 m pc ls (.ref a :: rest)) :=
  W.objInit C.1.1 C.1.2.1 C.1.2.2.2.1 (C.1.2.2.2.2 _ h1) (C.1.2.2.2.2 _ h2) (C.1.2.2.2.2 _ k_16) rfl (hls.trans C.1.2.2.1.symm) rfl hd hfr (by show 2 * 0 + _ + 12 ≤ _; omega) kk
theorem r_newai (C : Cx g p m c cc nL s args own) (hk : Cond.arrayClass .int ∈ TT) (hW : HW g A H0 ws H locs) (hA : ∀ q, H0.size ≤ q → A q) {n : Int} (N : Nat) (hn : n = (N : Int)) (hb : N * 4 ≤ 536870912) (hc : cells + 1 ≤ R.cells) (hs : slots + N ≤ R.slots) (hd : decode cc pc = .ok (.newarray .int, 2)) (kk : ∀ (q : Nat) (H1 : Heap), HW g A H0 (ws ++ [(q, .inl (g.2.1, N, .inl (iA (fun _ => 0))))]) H1 locs → W p l e R s m args below meth c H1 locs (cells + 1) (slots + N) Q (F0 m (pc + 2) ls (.ref q :: rest))) : W p l e R s m args below meth c H locs cells slots Q (F0 m pc ls (.int (iI n) :: rest)) := by
  subst hn
  have hlt : (N : Int) < 2147483648 := by omega
  refine va_newa (atype := .int) (ty := .int) (a0 := (N, .inl (iA (fun _ => 0)))) (N' := N) C.1.1 C.1.2.1 (C.1.2.2.2.2 _ hk) rfl C.2.1 hW.1 hW.2.1 hW.2.2 hA (fun cA => rfl) (iI_nn0 (by omega) hlt) (by rw [iI_clamp (by omega) hlt]; rfl) hb hc hs hd (fun q cA H1 hK hP hD hS => ?_)
  have := KK_int C.2 hK
  subst this
  exact kk q H1 ⟨hP, hD, hS⟩
theorem r_newal (C : Cx g p m c cc nL s args own) (hk : Cond.arrayClass .long ∈ TT) (hW : HW g A H0 ws H locs) (hA : ∀ q, H0.size ≤ q → A q) {n : Int} (N : Nat) (hn : n = (N : Int)) (hb : N * 8 ≤ 536870912) (hc : cells + 1 ≤ R.cells) (hs : slots + N ≤ R.slots) (hd : decode cc pc = .ok (.newarray .long, 2)) (kk : ∀ (q : Nat) (H1 : Heap), HW g A H0 (ws ++ [(q, .inl (g.2.2.1, N, .inr (.inl (lA (fun _ => 0)))))]) H1 locs → W p l e R s m args below meth c H1 locs (cells + 1) (slots + N) Q (F0 m (pc + 2) ls (.ref q :: rest))) : W p l e R s m args below meth c H locs cells slots Q (F0 m pc ls (.int (iI n) :: rest)) := by
  subst hn
  have hlt : (N : Int) < 2147483648 := by omega
  refine va_newa (atype := .long) (ty := .long) (a0 := (N, .inr (.inl (lA (fun _ => 0))))) (N' := N) C.1.1 C.1.2.1 (C.1.2.2.2.2 _ hk) rfl C.2.1 hW.1 hW.2.1 hW.2.2 hA (fun cA => rfl) (iI_nn0 (by omega) hlt) (by rw [iI_clamp (by omega) hlt]; rfl) hb hc hs hd (fun q cA H1 hK hP hD hS => ?_)
  have := KK_long C.2 hK
  subst this
  exact kk q H1 ⟨hP, hD, hS⟩
theorem r_newq {idx : Nat} (C : Cx g p m c cc nL s args own) (hcl : Cond.classLink own idx "MatchedFlows$Program" ∈ TT) (ho : va_AO "MatchedFlows$Program" s) (hW : HW g A H0 ws H locs) (hA : ∀ q, H0.size ≤ q → A q) {n : Int} (N : Nat) (hn : n = (N : Int)) (hb : N * 4 ≤ 536870912) (hc : cells + 1 ≤ R.cells) (hs : slots + N ≤ R.slots) (hd : decode cc pc = .ok (.anewarray idx, 3)) (kk : ∀ (q : Nat) (H1 : Heap), HW g A H0 (ws ++ [(q, .inl (g.2.2.2, N, .inr (.inr (.inr (.inr (fun _ => none))))))]) H1 locs → W p l e R s m args below meth c H1 locs (cells + 1) (slots + N) Q (F0 m (pc + 3) ls (.ref q :: rest))) : W p l e R s m args below meth c H locs cells slots Q (F0 m pc ls (.int (iI n) :: rest)) := by
  subst hn
  have hlt : (N : Int) < 2147483648 := by omega
  refine va_newq (N' := N) C.1.1 C.1.2.1 C.1.2.2.2.1 (C.1.2.2.2.2 _ hcl) ho C.2.1 hW.1 hW.2.1 hW.2.2 hA (iI_nn0 (by omega) hlt) (by rw [iI_clamp (by omega) hlt]; rfl) hb hc hs hd (fun q cA H1 hK hP hD hS => ?_)
  have := KK_obj C.2 hK
  subst this
  exact kk q H1 ⟨hP, hD, hS⟩
theorem r_putF {idx ci f : Nat} {ty : FieldType} (C : Cx g p m c cc nL s args own) (F : FL own idx ci f) (G : FF own ci f ty) (hin : meth.name = "<init>") (hW : HW g A H0 ws H locs) (ws1 : va_W) (q0 : Nat) {fs : List Value} (he : ws[q0]? = some (a, .inr (ci, fs))) {v : Value} (hn : narrow ty v = v) (hf : fits ty v = true) (hl : f < fs.length) (hs : ws.set q0 (a, .inr (ci, fs.set f v)) = ws1) (hd : decode cc pc = .ok (.putfield idx, 3)) (kk : ∀ (H1 : Heap) (locs1 : List Loc), HW g A H0 ws1 H1 locs1 → W p l e R s m args below meth c H1 locs1 cells slots Q (F0 m (pc + 3) ls rest)) : W p l e R s m args below meth c H locs cells slots Q (F0 m pc ls (v :: .ref a :: rest)) := by
  obtain ⟨Cn, T, N, ty0, h1, h2, h3, h4, h5, h6⟩ := F
  subst hs
  exact va_putF C.1.1 C.1.2.1 C.1.2.2.2.2 h3 ty0 h5 h6 C.1.2.2.2.1 C.2.1 hW.1 hW.2.1 hW.2.2 q0 he h1 f h2 (C.1.2.2.2.2 _ h4) (fun _ h9 => h9) (G _ _ _ h1).1 hin (G _ _ _ h1).2.1 (G _ _ _ h1).2.2 hn hf hl hd (fun H1 locs1 x y z => kk H1 locs1 ⟨x, y, z⟩)
theorem r_new {idx ci N : Nat} {Cn : String} {T : u_T} (C : Cx g p m c cc nL s args own) (ty : Nat → FieldType) (hty : ∀ k, k < N → parseFieldDescriptor (T k).2.2.1 = some (ty k)) (hin : ∀ w ∈ u_ws Cn T N, w ∈ TT) (h1 : Cond.classLink own idx Cn ∈ TT) (h2 : Cond.instantiable Cn N ∈ TT) (h3 : Cond.initialized Cn ∈ TT) (hcl : vwCl[ci]? = some (Cn, T, N)) (hW : HW g A H0 ws H locs) (hA : ∀ q, H0.size ≤ q → A q) (fs : List Value) (hfs : ∀ j, j < N → defaultValue (ty j) = vp_V fs j) (hc : cells + 1 ≤ R.cells) (hs : slots + N ≤ R.slots) (hd : decode cc pc = .ok (.new idx, 3)) (kk : ∀ (q : Nat) (H1 : Heap), HW g A H0 (ws ++ [(q, .inr (ci, fs))]) H1 locs → W p l e R s m args below meth c H1 locs (cells + 1) (slots + N) Q (F0 m (pc + 3) ls (.ref q :: rest))) : W p l e R s m args below meth c H locs cells slots Q (F0 m pc ls rest) :=
  va_new C.1.1 C.1.2.1 C.1.2.2.2.2 hin ty hty C.1.2.2.2.1 (C.1.2.2.2.2 _ h1) (C.1.2.2.2.2 _ h2) (C.1.2.2.2.2 _ h3) C.2.1 hW.1 hW.2.1 hW.2.2 hA hcl hfs hc hs hd (fun q H1 hP hD hS => kk q H1 ⟨hP, hD, hS⟩)
/-- a constructor's call: its blank cell is the places isC of the caller's world -/
theorem runC {S : Type} {st0 : List Value} {av : Array Value} {w0 wr : va_W} {F : S → va_W} (hW : HW g A H0 ws H locs) (hA : ∀ q, H0.size ≤ q → A q) (isC isR : List Nat) (hC : isC.map (fun i => ws[i]?) = w0.map some) (hRr : isR.map (fun i => ws[i]?) = wr.map some) (hnd : va_nd isR = true) (hdis : ∀ i ∈ isR, i ∉ isC) (hr : va_Run p l e R s m args below meth c H locs cells slots mc ms (F0 m pc ls st0) rest (QC g w0 H.size F av) (va_A w0 H.size)) (kk : ∀ (x : S) (H1 : Heap) (locs1 : List Loc), HW g A H0 (wr ++ F x) H1 locs1 → W p l e R s m args below meth c H1 locs1 (cells + mc) (slots + ms) Q (F0 m (pc + 3) ls rest)) : W p l e R s m args below meth c H locs cells slots Q (F0 m pc ls st0) := by
  have hF := va_free (wc := w0) hW.2.1 hW.2.2 hA isC hC
  intro T hT X
  obtain ⟨v, st₀, t, T', L, h0, X', hL, e1, e2, ⟨hv, ⟨x, hp, hD1⟩, hz, hk⟩, st⟩ := hr T hT X
  cases hv
  rw [h0] at hz hk
  obtain ⟨jP, jD⟩ := va_join (wr := wr) (w1 := F x) hW.1 hW.2.1 isC isR hC hRr hnd hdis hk hF hp hD1
  have hS1 : va_S A H0 T'.heap (locs ++ L) := ⟨Nat.le_trans hW.2.2.1 (by rw [e1]; exact hz), fun q h1 h2 => by rw [e1, hk q (Nat.lt_of_lt_of_le h1 hW.2.2.1) (fun z => h2 (hF q z))]; exact hW.2.2.2.1 q h1 h2, fun q hq => by
      rcases List.mem_append.mp hq with h | h
      · exact hW.2.2.2.2 q h
      · exact hF _ (hL q h)⟩
  obtain ⟨t2, a1, b1⟩ := kk x T'.heap (locs ++ L) ⟨by rw [e1]; exact jP, jD, hS1⟩ T' rfl X'
  exact ⟨t2, st t2 a1, b1⟩
/-- a constructor by its entry in the caller's pool: of a nest mate (private), or public -/
def CN (own : String) (idx : Nat) (y : MethodName) (cc : ByteArray) (nL : Nat) : Prop := (∃ host, Cond.methodLinkNest own idx y host ∈ nestW) ∧ Cond.instanceMethod y ∈ TT ∧ Cond.initialized y.cls ∈ TT ∧ Cond.code y cc nL none ∈ TT ∧ y.name = "<init>" ∧ y.cls ≠ "java/lang/invoke/MethodHandle" ∧ y.cls ≠ "java/lang/invoke/VarHandle" ∧ (parseMethodDescriptor y.desc).map (fun d => d.parameters.length) = some 0
def CL (own : String) (idx : Nat) (y : MethodName) (cc : ByteArray) (nL : Nat) : Prop := Cond.methodLink own idx y ∈ TT ∧ Cond.instanceMethod y ∈ TT ∧ Cond.initialized y.cls ∈ TT ∧ Cond.code y cc nL none ∈ TT ∧ y.name = "<init>" ∧ y.cls ≠ "java/lang/invoke/MethodHandle" ∧ y.cls ≠ "java/lang/invoke/VarHandle" ∧ (parseMethodDescriptor y.desc).map (fun d => d.parameters.length) = some 0
theorem blindC {as : List Value} {ws : va_W} {sz : Nat} : FrameBlind (va_Pc as (fun U => U.heap.size = sz ∧ KK g U ∧ va_P g.1 vwCl ws U.heap ∧ va_D (fun _ => True) ws)) := fun a U f mk q => ⟨q.1, q.2.1, KK.blind f mk a q.2.2.1, q.2.2.2.1, q.2.2.2.2⟩
theorem r_callCN {S : Type} {cy : ByteArray} {nL1 idx b : Nat} {w0 wr : va_W} {F : S → va_W} (C : Cx g p m c cc nL s args own) (hls : ls.size = nL) (hW : HW g A H0 ws H locs) (hA : ∀ q, H0.size ≤ q → A q) (hM : MC l g y cy nL1 fr lo mc ms b w0 F) (hV : CN own idx y cy nL1) (isC isR : List Nat) (hC : isC.map (fun i => ws[i]?) = w0.map some) (hRr : isR.map (fun i => ws[i]?) = wr.map some) (hnd : va_nd isR = true ∧ va_nd isC = true) (hdis : ∀ i ∈ isR, i ∉ isC) (hR : fr + 1 ≤ R.frames ∧ 8 + (nL1 + 11) + lo ≤ R.locals) (hf : cells + mc ≤ R.cells ∧ slots + ms ≤ R.slots) (hrest : (rest.map fun v => v.category).sum ≤ 8) (hd : decode cc pc = .ok (.invokespecial idx, 3)) (kk : ∀ (x : S) (H1 : Heap) (locs1 : List Loc), HW g A H0 (wr ++ F x) H1 locs1 → W p l e R s m args below meth c H1 locs1 (cells + mc) (slots + ms) Q (F0 m (pc + 3) ls rest)) : W p l e R s m args below meth c H locs cells slots Q (F0 m pc ls (.ref b :: rest)) := by
  obtain ⟨⟨host, v1⟩, v2, v3, v4, v5, v6, v7, v8⟩ := hV
  have hPc : va_P g.1 vwCl w0 H := hW.1.sub isC (pick_fm hC)
  have hDc : va_D A w0 := hW.2.1.sub isC hnd.2 hC
  exact runC hW hA isC isR hC hRr hnd.1 hdis (va_runIN (As := []) (rest := rest) C.1 (hM H.size) ⟨va_cnB 0 C.1.2.2.2.2 (GoodIn_c v4) rfl rfl rfl (C.2.2.1 _ v1) (C.1.2.2.2.2 _ v3) ⟨v6, v7, v8⟩ ⟨hR.1, hR.2⟩, v5, C.1.2.2.2.2 _ v2⟩ ⟨blindC, fun U hU hX => ⟨rfl, by rw [hU], KK.moved hX C.2, by rw [hU]; exact hPc, hDc.weaken (fun _ _ _ _ => trivial)⟩⟩ rfl rfl hls rfl (lv_room hrest) hd hf) kk
theorem r_callCL {S : Type} {cy : ByteArray} {nL1 idx b : Nat} {w0 wr : va_W} {F : S → va_W} (C : Cx g p m c cc nL s args own) (hls : ls.size = nL) (hW : HW g A H0 ws H locs) (hA : ∀ q, H0.size ≤ q → A q) (hM : MC l g y cy nL1 fr lo mc ms b w0 F) (hV : CL own idx y cy nL1) (isC isR : List Nat) (hC : isC.map (fun i => ws[i]?) = w0.map some) (hRr : isR.map (fun i => ws[i]?) = wr.map some) (hnd : va_nd isR = true ∧ va_nd isC = true) (hdis : ∀ i ∈ isR, i ∉ isC) (hR : fr + 1 ≤ R.frames ∧ 8 + (nL1 + 11) + lo ≤ R.locals) (hf : cells + mc ≤ R.cells ∧ slots + ms ≤ R.slots) (hrest : (rest.map fun v => v.category).sum ≤ 8) (hd : decode cc pc = .ok (.invokespecial idx, 3)) (kk : ∀ (x : S) (H1 : Heap) (locs1 : List Loc), HW g A H0 (wr ++ F x) H1 locs1 → W p l e R s m args below meth c H1 locs1 (cells + mc) (slots + ms) Q (F0 m (pc + 3) ls rest)) : W p l e R s m args below meth c H locs cells slots Q (F0 m pc ls (.ref b :: rest)) := by
  obtain ⟨v1, v2, v3, v4, v5, v6, v7, v8⟩ := hV
  have hPc : va_P g.1 vwCl w0 H := hW.1.sub isC (pick_fm hC)
  have hDc : va_D A w0 := hW.2.1.sub isC hnd.2 hC
  exact runC hW hA isC isR hC hRr hnd.1 hdis (va_runI (As := []) (rest := rest) C.1 (hM H.size) (cwI 0 C.1.2.2.2.2 (GoodIn_c v4) rfl rfl rfl (C.1.2.2.2.2 _ v3) (C.1.2.2.2.2 _ v1) (C.1.2.2.2.2 _ v2) v5 ⟨v6, v7, v8⟩ ⟨hR.1, hR.2⟩) ⟨blindC, fun U hU hX => ⟨rfl, by rw [hU], KK.moved hX C.2, by rw [hU]; exact hPc, hDc.weaken (fun _ _ _ _ => trivial)⟩⟩ rfl rfl hls rfl (lv_room hrest) hd hf) kk
/-- a reference into a row of programs -/
theorem r_aast (C : Cx g p m c cc nL s args own) (hW : HW g A H0 ws H locs) (ws1 : va_W) (q0 qk : Nat) {n v : Nat} {vs : List Value} {f : Nat → Option Nat} (ha : ws[q0]? = some (a, .inl (g.2.2.2, n, .inr (.inr (.inr (.inr f)))))) (hv : ws[qk]? = some (v, .inr (0, vs))) (hn : n < 2147483648) {i : Int} (hi : 0 ≤ i ∧ i < n) (hs : ws.set q0 (a, .inl (g.2.2.2, n, .inr (.inr (.inr (.inr (va_up f i.toNat (some v))))))) = ws1) (hd : decode cc pc = .ok (.aastore, 1)) (kk : ∀ (H1 : Heap) (locs1 : List Loc), HW g A H0 ws1 H1 locs1 → W p l e R s m args below meth c H1 locs1 cells slots Q (F0 m (pc + 1) ls rest)) : W p l e R s m args below meth c H locs cells slots Q (F0 m pc ls (.ref v :: .int (iI i) :: .ref a :: rest)) :=
  va_astq (r := (RX0, TX0, 12)) C.1.1 C.1.2.1 C.2.1 hW.1 hW.2.1 hW.2.2 q0 2 qk 0 ha rfl hv rfl (iI_in hi.1 hi.2 hn) hd (fun H1 locs1 x y z => kk H1 locs1 (by subst hs; rw [iI_clamp hi.1 (by omega)] at x y; exact ⟨x, y, z⟩))
end CT

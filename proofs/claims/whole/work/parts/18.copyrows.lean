def cpI {α : Type} (f h : Int → α) (n : Int) : Int → α := fun j => if 0 ≤ j ∧ j < n then f j else h j
theorem cpI_iA (f h : Int → Int) {n : Int} (h0 : 0 ≤ n) (hn : n < 2147483648) : va_cpy (iA f) (iA h) (iI 0).toNatClampNeg (iI 0).toNatClampNeg (iI n).toNatClampNeg = iA (cpI f h n) := by
  funext j
  rw [iI_clamp h0 hn, iI_clamp (by decide) (by decide)]
  unfold va_cpy iA cpI
  by_cases hj : (j : Int) < n
  · have e1 : (0 : Int).toNat ≤ j ∧ j < (0 : Int).toNat + n.toNat := by omega
    have e2 : (0 : Int) ≤ (j : Int) ∧ (j : Int) < n := by omega
    simp only [if_pos e1, if_pos e2]
    congr 2; simp
  · have e1 : ¬ ((0 : Int).toNat ≤ j ∧ j < (0 : Int).toNat + n.toNat) := by omega
    have e2 : ¬ ((0 : Int) ≤ (j : Int) ∧ (j : Int) < n) := by omega
    simp only [if_neg e1, if_neg e2]
theorem cpI_lA (f h : Int → Int64) {n : Int} (h0 : 0 ≤ n) (hn : n < 2147483648) : va_cpy (lA f) (lA h) (iI 0).toNatClampNeg (iI 0).toNatClampNeg (iI n).toNatClampNeg = lA (cpI f h n) := by
  funext j
  rw [iI_clamp h0 hn, iI_clamp (by decide) (by decide)]
  unfold va_cpy lA cpI
  by_cases hj : (j : Int) < n
  · have e1 : (0 : Int).toNat ≤ j ∧ j < (0 : Int).toNat + n.toNat := by omega
    have e2 : (0 : Int) ≤ (j : Int) ∧ (j : Int) < n := by omega
    simp only [if_pos e1, if_pos e2]
    congr 1; simp
  · have e1 : ¬ ((0 : Int).toNat ≤ j ∧ j < (0 : Int).toNat + n.toNat) := by omega
    have e2 : ¬ ((0 : Int) ≤ (j : Int) ∧ (j : Int) < n) := by omega
    simp only [if_neg e1, if_neg e2]
theorem iI_n0 : ¬ iI 0 < 0 := by decide
theorem iI_nn0 {n : Int} (h0 : 0 ≤ n) (hn : n < 2147483648) : ¬ iI n < 0 := by
  rw [← iI_0, iI_lt (by omega) (by decide)]; omega
section RQ
variable {g : GG} {p : Program} {l : Launch} {e : Env} {R : Room} {s : State} {m : MethodId} {args : Array Value} {below : List Frame} {meth : Method} {c : Code} {H H0 : Heap} {locs : List Loc} {cells slots : Nat} {Q : State → Prop} {cc : ByteArray} {nL pc : Nat} {own : String} {ls : Array Slot} {rest : List Value} {A : Nat → Prop} {ws : va_W}
theorem r_copyi (C : Cx g p m c cc nL s args own) (hls : ls.size = nL) {idx : Nat} (h1 : Cond.methodLink own idx arraycopyName ∈ TT) (hW : HW g A H0 ws H locs) (ws1 : va_W) (q0 q1 : Nat) {a a0 n0 n1 : Nat} {f h : Int → Int} (ha0 : ws[q0]? = some (a0, .inl (g.2.1, n0, .inl (iA f)))) (ha1 : ws[q1]? = some (a, .inl (g.2.1, n1, .inl (iA h)))) {n : Int} (hn : 0 ≤ n ∧ n ≤ n0 ∧ n ≤ n1) (hn1 : n0 < 2147483648) (hfr : 1 ≤ R.frames) (hlo : (rest.map fun v => v.category).sum + (nativeFrameWords "java/lang/System" "arraycopy" 5 + 11) ≤ R.locals) (hs : ws.set q1 (a, .inl (g.2.1, n1, .inl (iA (cpI f h n)))) = ws1) (hd : decode cc pc = .ok (.invokestatic idx, 3)) (kk : ∀ (H1 : Heap) (locs1 : List Loc), HW g A H0 ws1 H1 locs1 → W p l e R s m args below meth c H1 locs1 cells slots Q (F0 m (pc + 3) ls rest)) : W p l e R s m args below meth c H locs cells slots Q (F0 m pc ls (.int (iI n) :: .int (iI 0) :: .ref a :: .int (iI 0) :: .ref a0 :: rest)) := by
  have hb : n < 2147483648 := by omega
  refine va_copyi (ty := .int) C.1.1 C.1.2.1 (C.1.2.2.1.trans hls.symm) C.1.2.2.2.1 (C.1.2.2.2.2 _ h1) (C.1.2.2.2.2 _ k_227) (C.1.2.2.2.2 _ k_226) (C.1.2.2.2.2 _ k_7) C.2.1 hW.1 hW.2.1 hW.2.2 q0 q1 0 0 ha0 ha1 rfl rfl rfl iI_n0 iI_n0 (iI_nn0 hn.1 hb) ?_ ?_ (fun _ _ => rfl) hfr hlo hd (fun H1 locs1 x y z => kk H1 locs1 ?_)
  · rw [iI_clamp hn.1 hb, iI_clamp (by decide) (by decide)]; simp; omega
  · rw [iI_clamp hn.1 hb, iI_clamp (by decide) (by decide)]; simp; omega
  · subst hs; rw [cpI_iA f h hn.1 hb] at x y; exact ⟨x, y, z⟩
theorem r_copyl (C : Cx g p m c cc nL s args own) (hls : ls.size = nL) {idx : Nat} (h1 : Cond.methodLink own idx arraycopyName ∈ TT) (hW : HW g A H0 ws H locs) (ws1 : va_W) (q0 q1 : Nat) {a a0 n0 n1 : Nat} {f h : Int → Int64} (ha0 : ws[q0]? = some (a0, .inl (g.2.2.1, n0, .inr (.inl (lA f))))) (ha1 : ws[q1]? = some (a, .inl (g.2.2.1, n1, .inr (.inl (lA h))))) {n : Int} (hn : 0 ≤ n ∧ n ≤ n0 ∧ n ≤ n1) (hn1 : n0 < 2147483648) (hfr : 1 ≤ R.frames) (hlo : (rest.map fun v => v.category).sum + (nativeFrameWords "java/lang/System" "arraycopy" 5 + 11) ≤ R.locals) (hs : ws.set q1 (a, .inl (g.2.2.1, n1, .inr (.inl (lA (cpI f h n))))) = ws1) (hd : decode cc pc = .ok (.invokestatic idx, 3)) (kk : ∀ (H1 : Heap) (locs1 : List Loc), HW g A H0 ws1 H1 locs1 → W p l e R s m args below meth c H1 locs1 cells slots Q (F0 m (pc + 3) ls rest)) : W p l e R s m args below meth c H locs cells slots Q (F0 m pc ls (.int (iI n) :: .int (iI 0) :: .ref a :: .int (iI 0) :: .ref a0 :: rest)) := by
  have hb : n < 2147483648 := by omega
  refine va_copyl (ty := .long) C.1.1 C.1.2.1 (C.1.2.2.1.trans hls.symm) C.1.2.2.2.1 (C.1.2.2.2.2 _ h1) (C.1.2.2.2.2 _ k_227) (C.1.2.2.2.2 _ k_226) (C.1.2.2.2.2 _ k_7) C.2.1 hW.1 hW.2.1 hW.2.2 q0 q1 1 1 ha0 ha1 rfl rfl rfl iI_n0 iI_n0 (iI_nn0 hn.1 hb) ?_ ?_ (fun _ _ => rfl) hfr hlo hd (fun H1 locs1 x y z => kk H1 locs1 ?_)
  · rw [iI_clamp hn.1 hb, iI_clamp (by decide) (by decide)]; simp; omega
  · rw [iI_clamp hn.1 hb, iI_clamp (by decide) (by decide)]; simp; omega
  · subst hs; rw [cpI_lA f h hn.1 hb] at x y; exact ⟨x, y, z⟩
end RQ

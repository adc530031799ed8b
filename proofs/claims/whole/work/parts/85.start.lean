/-! the start: both new objects stand alike -/
theorem t0_ok : tOk t0 := by
  refine ⟨by decide, by decide, by decide, by decide, fun _ _ _ => ?_, fun _ _ _ => ?_, fun _ _ _ => ?_, fun _ _ _ => ?_, fun _ _ _ => ?_, fun _ _ _ => ?_, fun _ _ _ => ?_, fun _ _ _ => ?_, by decide⟩ <;> (show _ ≤ (0 : Int) ∧ (0 : Int) ≤ _; decide)
theorem u0_ok : uOk u0 := ⟨by decide, fun _ _ _ => by show (0 : Int) ≤ 0 ∧ (0 : Int) ≤ 255; decide⟩
theorem x0_ok : xOk x0 := ⟨by decide, by decide, fun _ _ _ => by show (0 : Int) ≤ 0 ∧ (0 : Int) ≤ 127; decide, fun _ _ _ => by show (0 : Int) ≤ 0 ∧ (0 : Int) ≤ 999; decide, by decide⟩
theorem m0_ok : mOk m0 := by
  unfold mOk m0
  dsimp only [m_refused, m_states, m_place, m_startFact, m_node, m_fact, m_ahead, m_inside, m_entries, m_caller, m_following, m_firstCaller, m_lastCaller, m_callers, m_known, m_loose, m_stack, m_high, m_pairs, m_told, m_text, m_typed, m_orders, m_written, m_look]
  refine ⟨fun _ _ _ => ?_, ?_, fun _ _ _ => ?_, fun _ _ _ => ?_, fun _ _ _ => ?_, fun _ _ _ => ?_, fun _ _ _ => ?_, fun _ _ _ => ?_, ?_, fun _ _ _ => ?_, fun _ _ _ => ?_, fun _ _ _ => ?_, fun _ _ _ => ?_, ?_, ?_, fun _ _ _ => ?_, fun _ _ _ => ?_, ?_, fun _ _ _ => ?_, ?_, fun _ _ _ => ?_, ?_, fun _ _ _ => ?_, ?_, ?_⟩ <;> omega
theorem n0_pR : pR p0 n0 := by
  refine ⟨rfl, rfl, rfl, rfl, fun q q0 q1 => ?_, fun n m0 m1 => ?_, fun e m0 m1 => ?_⟩
  · exact absurd (show q < 0 from q1) (by omega)
  · exact absurd (show n < 0 from m1) (by omega)
  · exact absurd (show e < 0 from m1) (by omega)
theorem n0_wf : nWf (nAddProc n0).2 := by
  have e0 : n0 0 = 0 := rfl
  have e1 : n0 1 = 0 := rfl
  have e2 : n0 2 = 0 := rfl
  rcases nWf_addProc n0_ok (fun h => absurd h (by omega)) (fun _ => ⟨e2, e1⟩) with h | ⟨h, _⟩
  · exact h
  · have : (nAddProc n0).1 = n0 0 := by
      unfold nAddProc
      rw [if_neg (by omega)]
    omega
theorem gS_0 (q : Nat → Nat) : gS 0 (f0 q) t0 u0 x0 P0s m0 := by
  have mn : m_now m0 = (nAddProc n0).2 := rfl
  have ms : m_states m0 = 0 := rfl
  have hp : pR (P0s 0) (m_now m0) := (pR_addProc n0_ok n0_pR).2
  refine ⟨⟨⟨by show (0 : Int) ≤ 0; omega, by show (0 : Int) ≤ 6; omega⟩, rfl, ⟨rfl, rfl, rfl⟩, fun i _ _ => ⟨by show (0 : Int) ≤ 0; omega, by show (0 : Int) ≤ 0; omega⟩, rfl, rfl⟩, ⟨hp, fun i hi => ?_⟩, ⟨t0_ok, u0_ok, x0_ok, fun j _ => ?_, m0_ok, by rw [mn]; exact nAddProc_ok n0_ok, by rw [mn]; exact n0_wf⟩, fun hh => absurd rfl hh, fun hh => absurd rfl hh, fun hh => absurd rfl hh⟩
  · rw [ms] at hi; omega
  · unfold P0s
    split
    · exact pAddProc_ok p0_ok
    · exact p0_ok
/-! rows of the programs -/
theorem fRef_rn (w : Int) (M : Mf) : f_rows (fRef w M) = f_rows M ∧ f_now (fRef w M) = f_now M := by
  unfold fRef
  (repeat' split) <;> exact ⟨rfl, rfl⟩
abbrev rR (M : Mf) (q : Nat → Nat) : Prop := ∀ j : Nat, j < 7 → f_rows M ((f_now M + (j : Int)) % 7).toNat = some (q j)
theorem rR_same {M M' : Mf} {q : Nat → Nat} (h : rR M q) (e : f_rows M' = f_rows M ∧ f_now M' = f_now M) : rR M' q := fun j hj => by rw [e.1, e.2]; exact h j hj
theorem rR_next {M M' : Mf} {q : Nat → Nat} (h : rR M q) (hn : 0 ≤ f_now M ∧ f_now M ≤ 6) (e : f_rows M' = f_rows M) (e2 : f_now M' = (f_now M + 1) % 7) : rR M' (fun j => q ((j + 1) % 7)) := fun j hj => by
  have := h ((j + 1) % 7) (by omega)
  rw [e, e2]
  rw [← this]
  congr 2
  omega
theorem rR_back {M M' : Mf} {q : Nat → Nat} (h : rR M q) (hn : 0 ≤ f_now M ∧ f_now M ≤ 6) (e : f_rows M' = f_rows M) (e2 : f_now M' = (f_now M + 7 - 1) % 7) : rR M' (fun j => q ((j + 6) % 7)) := fun j hj => by
  have := h ((j + 6) % 7) (by omega)
  rw [e, e2]
  rw [← this]
  congr 2
  omega
theorem rR_0 {M : Mf} {q : Nat → Nat} (h : rR M q) (hn : 0 ≤ f_now M ∧ f_now M ≤ 6) : f_rows M (f_now M).toNat = some (q 0) := by
  have := h 0 (by omega)
  rw [show (f_now M + ((0 : Nat) : Int)) % 7 = f_now M by omega] at this
  exact this
theorem rR_1 {M : Mf} {q : Nat → Nat} (h : rR M q) : f_rows M ((f_now M + 1) % 7).toNat = some (q 1) := h 1 (by omega)
theorem rR_init (q : Nat → Nat) : rR (f0 q) q := by
  intro j hj
  have : j = 0 ∨ j = 1 ∨ j = 2 ∨ j = 3 ∨ j = 4 ∨ j = 5 ∨ j = 6 := by omega
  rcases this with rfl | rfl | rfl | rfl | rfl | rfl | rfl <;> rfl

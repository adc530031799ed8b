/-! Program: what its methods do, as functions -/
def pReach (P : Pg) (e w a : Int) : Int := byL (p_flow P (e * 3 + w)) a
def pCarry (P : Pg) (e w x : Int) : Int := it (fun a r => if tb x a = true then bO r (pReach P e w a) else r) 8 0 0
def pPlace (P : Pg) (n k : Int) : Pg := ps_nodes (ps_kindOf (ps_procOf P (up (p_procOf P) (p_nodes P) n)) (up (p_kindOf P) (p_nodes P) k)) (p_nodes P + 1)
def pAddProc (P : Pg) : Int × Pg := if 5 ≤ p_procs P ∨ 24 < p_nodes P + 2 then (-4, P) else
  (p_procs P, ps_procs (pPlace (ps_exitOf (pPlace (ps_entryOf P (up (p_entryOf P) (p_procs P) (p_nodes P))) (p_procs P) 0) (up (p_exitOf P) (p_procs P) (p_nodes P + 1))) (p_procs P) 1) (p_procs P + 1))
def pAddNode (P : Pg) (n : Int) : Int × Pg := if ¬ (0 ≤ n ∧ n < p_procs P) then (-2, P) else if 24 ≤ p_nodes P then (-4, P) else (p_nodes P, pPlace P n 2)
def pJoins (P : Pg) (n k : Int) : Prop := (0 ≤ n ∧ n < p_nodes P) ∧ (0 ≤ k ∧ k < p_nodes P) ∧ p_procOf P n = p_procOf P k ∧ p_kindOf P n ≠ 1 ∧ p_kindOf P k ≠ 0
def pPlainF (P : Pg) (f : Int → Int64) : Int → Int64 := it (fun w f => up f (p_edges P * 3 + w) plL) 3 0 f
def pAddEdge (P : Pg) (n q k : Int) : Int × Pg := if 32 ≤ p_edges P then (-4, P) else
  (p_edges P, ps_edges (ps_flow (ps_callee (ps_to (ps_from P (up (p_from P) (p_edges P) n)) (up (p_to P) (p_edges P) k)) (up (p_callee P) (p_edges P) q)) (pPlainF P (p_flow P))) (p_edges P + 1))
def pHasFlow (P : Pg) (e w : Int) : Prop := (0 ≤ e ∧ e < p_edges P) ∧ 0 ≤ w ∧ w < (if p_callee P e = -1 then 1 else 3)
def pSetFlow (P : Pg) (e w a v : Int) : Int × Pg := if ((0 ≤ e ∧ e < p_edges P) ∧ 0 ≤ w ∧ w < (if p_callee P e = -1 then 1 else 3)) ∧ (0 ≤ a ∧ a < 8) ∧ (0 ≤ v ∧ v ≤ 255) ∧ (tb v 0 = true ↔ a = 0) then
  (pReach P e w a, ps_flow P (up (p_flow P) (e * 3 + w) (setL (p_flow P (e * 3 + w)) a v))) else (-2, P)
def pSetStart (P : Pg) (v : Int) : Int × Pg := if (0 ≤ v ∧ v ≤ 255) ∧ tb v 0 = true then (p_start P, ps_start P v) else (-2, P)
def pCutF (i : Int) (f : Int → Int64) : Int → Int64 := it (fun w f => up f (i * 3 + w) (f ((i + 1) * 3 + w))) 3 0 f
def pCut1 (i : Int) (P : Pg) : Pg := ps_flow (ps_callee (ps_to (ps_from P (up (p_from P) i (p_from P (i + 1)))) (up (p_to P) i (p_to P (i + 1)))) (up (p_callee P) i (p_callee P (i + 1)))) (pCutF i (p_flow P))
def pCut (P : Pg) (e : Int) : Int × Pg := if 0 ≤ e ∧ e < p_edges P then (p_edges P - 1, it pCut1 (p_edges P - 1 - e).toNat e (ps_edges P (p_edges P - 1))) else (-2, P)
def pAddPlain (P : Pg) (n k : Int) : Int × Pg := if (0 ≤ n ∧ n < p_nodes P) ∧ (0 ≤ k ∧ k < p_nodes P) ∧ p_procOf P n = p_procOf P k ∧ p_kindOf P n ≠ 1 ∧ p_kindOf P k ≠ 0 then pAddEdge P n (-1) k else (-2, P)
def pAddCall (P : Pg) (n q k : Int) : Int × Pg := if (0 ≤ q ∧ q < p_procs P) ∧ ((0 ≤ n ∧ n < p_nodes P) ∧ (0 ≤ k ∧ k < p_nodes P) ∧ p_procOf P n = p_procOf P k ∧ p_kindOf P n ≠ 1 ∧ p_kindOf P k ≠ 0) then pAddEdge P n q k else (-2, P)

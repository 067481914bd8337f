/-! the first ring -/
def z0 : pf_M := fun _ _ _ => 0
def yT : pf_M := pf_upf (pf_up z0 40 0 0 41) 41 0 (fun j => ps_b.getD j 0)
def yq (o : Option (Int32 × pf_M)) : List Int32 := match o with
  | none => []
  | some q => [q.1, q.2 40 0 3, q.2 40 0 8, q.2 40 0 9, q.2 43 0 8, q.2 42 0 0, q.2 42 0 1, q.2 42 0 2, q.2 42 0 3, q.2 43 0 0, q.2 43 0 1, q.2 43 0 2, q.2 43 0 3, q.2 44 0 0, q.2 44 0 1, q.2 44 0 2, q.2 44 0 3, q.2 45 0 0, q.2 45 0 1, q.2 45 0 2, q.2 45 0 3]
set_option maxHeartbeats 200000 in
theorem yT_read : yq (fX12_readAll yT) = [-4, 4, 3, 2, 4, 11, 22, 33, 7, 3, 5, 4, 2, 0, 20, 100, 50, 5, 4, 3, 4] := by decide +kernel

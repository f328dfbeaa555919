set_option maxRecDepth 100000 in
set_option maxHeartbeats 2000000 in
theorem e_L_cell (a0 : Nat) (x1 : Int32) (h : am_H) : am_cl m_L_cell [.ref a0, .int x1] h = Option.bind (am_len h a0) (fun n1 => (bif decide (n1 ≤ x1) then some (some (.int (((nI 8050009) * x1) + (nI 6101))), h) else Option.bind (am_al h 0 a0 x1) (fun v2 => some (some (.int v2), h)))) := (am_cl_st rfl).trans (am_blk [] 19 rfl)

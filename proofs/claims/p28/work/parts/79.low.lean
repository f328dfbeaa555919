set_option maxRecDepth 100000 in
set_option maxHeartbeats 2000000 in
theorem e_L_low (x0 : Int32) (x1 : Int32) (h : am_H) : am_cl m_L_low [.int x0, .int x1] h = Option.bind (am_rm (x0 &&& (nI 2147483647)) x1) (fun z1 => some (some (.int z1), h)) := (am_cl_st rfl).trans (am_blk [] 11 rfl)

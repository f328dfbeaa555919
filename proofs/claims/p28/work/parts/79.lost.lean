set_option maxRecDepth 100000 in
set_option maxHeartbeats 2000000 in
theorem e_L_lost (l0 : Int64) (h : am_H) : am_cl m_L_lost [.long l0] h = (bif decide ((nI 0) ≤ (lg_cmp l0 (-9000000000000000000))) then some (some (.int (nI 0)), h) else some (some (.int (nI 1)), h)) := (am_cl_st rfl).trans (am_blk [] 13 rfl)

theorem am_cl_of {j c a : Nat} {As fs : List Value} {h : am_H} (hk : am_rk j = some c) (hr : h[a]? = some (.inr (c, fs))) : am_cl j (.ref a :: As) h = am_ev j (0, am_l0 j (.ref a :: As), [], h) := by
  unfold am_cl am_rc
  rw [hk]
  simp only [hr, Nat.beq_refl, cond_true]
theorem am_cl_st {j : Nat} {As : List Value} {h : am_H} (hk : am_rk j = none) : am_cl j As h = am_ev j (0, am_l0 j As, [], h) := by
  unfold am_cl am_rc
  rw [hk]
  rfl

/-! THE LAW ANSWERS 1 -/
set_option maxHeartbeats 400000 in
set_option maxRecDepth 20000 in
theorem law_sl {A : Nat → List Int32} {F : Nat → Int32} {P : Nat → Nat} (hI : Inv A F P) (h0 : (A 0).length ≤ 3072) : am_sl (heap A F P) ≤ 7302250 := by
  obtain ⟨nB, nl, nb, nx, q, t, hS, ⟨l1, l2, l3⟩, -⟩ := hI
  have m1 : (A 193).length = 472 := hS.1.1
  have l36 := l2 36 (Or.inl rfl)
  have l68 := l2 68 (Or.inr (Or.inl rfl))
  have l100 := l2 100 (Or.inr (Or.inr (Or.inl rfl)))
  have l132 := l2 132 (Or.inr (Or.inr (Or.inr rfl)))
  clear l2 hS
  simp only [LenS, Nat.reduceAdd] at l1 l36 l68 l100 l132
  simp only [LenO, SaL] at l3
  simp only [am_sl, heap, List.map_cons, List.map_nil, List.sum_cons, List.sum_nil, am_sz, List.length_cons, List.length_nil, m1, l1, l36, l68, l100, l132, l3, Nat.reduceAdd]
  omega
theorem law_run (xl : List Int32) (hL : xl.length ≤ 3072) : ∃ n h', am_run n m_law (0, am_l0 m_law [.ref 0], [], [.inl (7, xl)]) = some (some (.int 1), h') ∧ h'.length ≤ 600000 ∧ am_sl h' ≤ 7302250 := by
  obtain ⟨A', F', P', hI, hA, hz⟩ := law_loop hL xl.length 0 (cI_A xl) (cI_F xl) cI_P rfl ⟨1, 0, 0, 0, 0, 0, i_inv xl⟩ (by omega) (by omega)
  have e : am_ev m_law (0, am_l0 m_law [.ref 0], [], [.inl (7, xl)]) = some (some (.int 1), heap A' F' P') := by
    rw [i_law, i_heap]
    exact hz
  obtain ⟨n, hn⟩ := am_ev_iff.mp e
  have e2 : (heap A' F' P').length = 206 := rfl
  exact ⟨n, _, hn, by omega, law_sl hI (by rw [hA]; exact hL)⟩
theorem whole_start {p : Program} {e : Env} {s : State} {m : MethodId} {below : List Frame} {meth : Method} {c : Code} (l : Launch) (_hflags : l.flags = flags0) {b L : Nat} {xs : Nat → Int32} (hL : L ≤ 3072) (C0 : lw_At p s m meth c b L xs) : W p l e room_1 s m #[Value.ref b] below meth c s.heap [] 0 0 (lw_Z below #[Value.ref b] s) (entryFrame m ([Value.ref b] : List Value).toArray 4) :=
  am_start am_tab_ok l C0 (fun xl hx => law_run xl (by omega))

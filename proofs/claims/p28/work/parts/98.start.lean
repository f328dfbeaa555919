/-! THE START -/
def cI_mr : List Int32 := ((((((List.replicate 472 0).set 0 1).set 9 5).set 468 50000).set 469 150).set 470 100).set 471 2
def cI_D : Nat → List Int32 := fun _ => List.replicate 64 0
def cI_all (xl : List Int32) : am_H := ((((([.inl (7, xl)] ++ cI_pa 1) ++ [.inl (0, List.replicate 64 0)]) ++ [.inl (0, List.replicate 64 0)]) ++ [.inl (0, List.replicate 64 0)]) ++ [.inl (0, List.replicate 64 0)]) ++ [.inl (0, List.replicate 64 0)]
theorem i_len_all (xl : List Int32) : List.length ([.inl (7, xl)] ++ cI_pa 1) = 192 := by simp only [cI_pa, cI_letter, List.length_append, List.length_cons, List.length_nil, cI_len_row, cI_len_state, cI_len_hist, cI_len_sale, cI_len_money]
def cI_A (xl : List Int32) (j : Nat) : List Int32 := if j = 193 then cI_mr else if j = 194 then List.replicate 1888 0 else if j = 195 then List.replicate 80 0 else if j = 196 ∨ j = 197 ∨ j = 198 then List.replicate 40 0 else if j = 199 then List.replicate 168 0 else if j = 200 then List.replicate 160 0 else if 200 < j then List.replicate 20 0 else match (cI_all xl)[j]? with
  | some (.inl (_, l)) => l
  | _ => []
def cI_F (xl : List Int32) (k : Nat) : Int32 := match (cI_all xl)[k / 100]? with
  | some (.inr (_, fs)) => (match fs[k % 100]? with
    | some (.int v) => v
    | _ => 0)
  | _ => 0
def cI_P (k : Nat) : Nat := 36 + 32 * k
set_option maxHeartbeats 4000000 in
set_option maxRecDepth 20000 in
theorem i_heap (xl : List Int32) : cI_all xl = heap (ad (cI_A xl) cI_D) (cI_F xl) cI_P := rfl
theorem i_mr_len : cI_mr.length = 472 := by simp only [cI_mr, List.length_set, List.length_replicate]
theorem i_193 (xl : List Int32) : cI_A xl 193 = cI_mr := rfl
theorem i_mok : Mok cI_mr 1 0 0 0 := ⟨i_mr_len, by decide +kernel, by decide +kernel, by decide +kernel, by decide +kernel, by omega, by omega, by omega, by omega, by omega⟩
theorem i_simB (xl : List Int32) : SimB (st (cI_A xl) 2) cI_mr 1 := by
  have e3 : st (cI_A xl) 2 3 = List.replicate 8 0 := rfl
  have e5 : st (cI_A xl) 2 5 = (List.replicate 8 0).set 0 5 := rfl
  have q : g (st (cI_A xl) 2 3) 0 = g cI_mr (1 + 0) ∧ g (st (cI_A xl) 2 5) 0 = g cI_mr (9 + 0) := by rw [e3, e5]; decide +kernel
  refine ⟨fun k hk => ?_, fun j hj => ?_, by rw [e3]; decide +kernel, by decide +kernel, fun j hj => ?_, fun i j h1 h2 => by omega, fun i j h1 h2 => by omega⟩
  · obtain rfl : k = 0 := by omega
    exact ⟨0, by omega, q⟩
  · obtain rfl : j = 0 := by omega
    exact ⟨0, by omega, q⟩
  · obtain rfl : j = 0 := by omega
    exact ⟨⟨0, by omega, by omega, by decide +kernel⟩, ⟨5, by omega, by omega, by decide +kernel⟩⟩
theorem i_simS (xl : List Int32) : SimS (st (cI_A xl) 2) cI_mr := by
  have e : st (cI_A xl) 2 31 = ((((List.replicate 4 0).set 0 50000).set 1 150).set 2 100).set 3 2 := rfl
  refine ⟨?_, ⟨50000, by omega, by omega, by decide +kernel⟩, ⟨150, by omega, by omega, by decide +kernel⟩, ⟨100, by omega, by omega, by decide +kernel⟩, ⟨2, by omega, by omega, by decide +kernel⟩⟩
  rw [e]
  decide +kernel
theorem i_lenS (xl : List Int32) (b : Nat) (hb : b = 2 ∨ hsP b) : LenS (cI_A xl) b := by
  rcases hb with rfl | rfl | rfl | rfl | rfl <;> exact ⟨rfl, rfl, rfl, rfl, rfl, rfl, rfl, rfl, rfl, rfl, rfl, rfl, rfl, rfl⟩
set_option maxRecDepth 20000 in
theorem i_lenO (xl : List Int32) : LenO (cI_A xl) := by
  refine ⟨?_, rfl, rfl, ⟨rfl, rfl, rfl⟩, ⟨rfl, rfl, rfl⟩, ⟨rfl, rfl, rfl, rfl, rfl, rfl, rfl⟩, rfl, rfl, rfl, rfl, rfl, rfl, rfl, rfl, rfl⟩
  rw [show cI_A xl 194 = List.replicate 1888 0 from rfl, List.length_replicate]
theorem i_inv (xl : List Int32) : InvN (cI_A xl) (cI_F xl) cI_P 1 0 0 0 0 0 := by
  refine ⟨⟨i_mok, ⟨rfl, rfl, rfl, rfl⟩, i_simB xl, fun l h => by omega, fun l h => by omega, fun l h => by omega, i_simS xl⟩, ⟨i_lenS xl 2 (Or.inl rfl), fun b hb => i_lenS xl b (Or.inr hb), i_lenO xl⟩, ⟨by omega, rfl, rfl, fun i hi => ?_, fun i j h1 h2 => ?_, fun s hs => by omega⟩, ⟨by omega, rfl, rfl, fun j hj => by omega⟩, Or.inl rfl⟩
  · have : i = 0 ∨ i = 1 ∨ i = 2 ∨ i = 3 := by omega
    rcases this with rfl | rfl | rfl | rfl
    · exact Or.inl rfl
    · exact Or.inr (Or.inl rfl)
    · exact Or.inr (Or.inr (Or.inl rfl))
    · exact Or.inr (Or.inr (Or.inr rfl))
  · unfold cI_P
    omega
theorem i_Rs (xl : List Int32) : Rs xl cI_D cI_mr [] none 1 0 0 0 (cI_all xl) := ⟨cI_A xl, cI_F xl, cI_P, 0, 0, i_heap xl, i_inv xl, i_193 xl, rfl, rfl, fun j hj => absurd hj (Nat.not_lt_zero _), fun r0 h0 => by cases h0⟩
theorem i_DL : DL cI_D := ⟨rfl, rfl, rfl, rfl, rfl⟩
/-- nothing is sold where nobody bids -/
theorem mSt_none {xl : List Int32} {D : Nat → List Int32} {r tx : List Int32} {u : Option (List Int32)} {nB nl nb : Nat} {h : am_H} {L Bs Fi Se Mn Bu Pr : List Int32} (hR : Rs xl D r tx u nB nl nb 0 h) (hS : Sv r nB nl nb 0 L Bs Fi Se Mn Bu Pr) {k : Nat} (hk : k < nl) (h0 : g r (78 + k) = nI 0) : mSt r Mn Bu k = nI 1 := by
  obtain ⟨A, F, hC⟩ := Rs_cx hR
  obtain ⟨O, hO⟩ := ord_ex hC hS.2 hk
  have hl : O.length = 0 := by
    rw [List.length_eq_zero_iff]
    exact List.eq_nil_iff_forall_not_mem.mpr (fun y hy => absurd ((hO.2.2.2 y).mp hy).1 (Nat.not_lt_zero _))
  have hb := (ord_sold hC hS.2 hk hO).mpr (Or.inl hl)
  have hm := (ord_mn hC hS.2 hk hO).1
  rw [hl] at hm
  unfold mSt
  rw [cif_f (by rw [h0]; decide), cif_f (fun z => z hb), cif_t hm]
theorem i_law (xl : List Int32) : ∃ h, LawI xl cI_D h ∧ am_ev m_law (0, am_l0 m_law [.ref 0], [], [.inl (7, xl)]) = am_ev m_law (95, [.ref 0, .ref 1, .ref 192, .ref 193, .ref 194, .ref 195, .ref 196, .int (nI 0), .float 0, .float 0, .float 0, .float 0, .float 0, .float 0, .float 0, .float 0, .float 0], [], h) := by
  have R0 := i_Rs xl
  have n1 : (List.length [(.inl (7, xl) : am_C)]) = 1 := rfl
  have e0 : am_cl m_Pa_init [.ref 1] ([.inl (7, xl)] ++ [.inr (9, am_new 9)]) = some (none, [.inl (7, xl)] ++ cI_pa 1) := i_pa [.inl (7, xl)]
  obtain ⟨h1, e1, R1⟩ := R_act R0 (m := m_Pa_addLot) (xs := [.int (nI 0), .int (nI 10), .int (nI 0)]) (fun A F P q t hI hr => by
    have := k_addLot hI (nI 0) (nI 10) (nI 0) (by decide) (by decide) (by decide) (by omega)
    rw [hr] at this
    exact this)
  obtain ⟨h2, e2, R2⟩ := R_act R1 (m := m_Pa_addLot) (xs := [.int (nI 1), .int (nI 0), .int (nI 40)]) (fun A F P q t hI hr => by
    have := k_addLot hI (nI 1) (nI 0) (nI 40) (by decide) (by decide) (by decide) (by omega)
    rw [hr] at this
    exact this)
  obtain ⟨h3, e3, R3⟩ := R_act R2 (m := m_Pa_addBidder) (xs := [.int (nI 1000)]) (fun A F P q t hI hr => by
    have := k_addBidder hI (nI 1000) (by decide) (by omega)
    rw [hr] at this
    exact this)
  obtain ⟨h4, e4, R4⟩ := R_act R3 (m := m_Pa_addBidder) (xs := [.int (nI 200)]) (fun A F P q t hI hr => by
    have := k_addBidder hI (nI 200) (by decide) (by omega)
    rw [hr] at this
    exact this)
  obtain ⟨r, hr⟩ : ∃ r, r = (((((((((((((cI_mr.set (18 + 0) (nI 0)).set (38 + 0) (nI 10)).set (58 + 0) (nI 0)).set (78 + 0) (nI 0)).set 17 (nI (0 + 1))).set (18 + (0 + 1)) (nI 1)).set (38 + (0 + 1)) (nI 0)).set (58 + (0 + 1)) (nI 40)).set (78 + (0 + 1)) (nI 0)).set 17 (nI (0 + 1 + 1))).set (99 + 0) (nI 1000)).set 98 (nI (0 + 1))).set (99 + (0 + 1)) (nI 200)).set 98 (nI (0 + 1 + 1)) := ⟨_, rfl⟩
  rw [← hr] at R4
  have g78 : g r (78 + 0) = nI 0 := by rw [hr]; decide +kernel
  have g18 : g r (18 + 0) = nI 0 := by rw [hr]; decide +kernel
  have g19 : g r (18 + 1) = nI 1 := by rw [hr]; decide +kernel
  have g1 : g r (1 + 0) = nI 0 := by rw [hr]; decide +kernel
  clear hr
  obtain ⟨L, Bs, Fi, Se, Mn, Bu, Pr, hS⟩ := Rs_sv R4
  obtain ⟨h5, e5, R5⟩ := R_qr R4 hS (m := m_Pa_sale) (xs := [.int (nI 0), .int (nI 2)]) (fun A F P A' F' hq => k_sale2 hq (by omega))
  rw [mSt_none R4 hS (by omega) g78] at e5
  refine ⟨h5, ⟨r, [], _, 1, 2, 2, 0, R5, by omega, fun l hl => ?_, fun m hm => ?_⟩, ?_⟩
  · have : l = 0 ∨ l = 1 := by omega
    rcases this with w | w <;> subst w
    · exact ⟨0, by omega, g18⟩
    · exact ⟨1, by omega, g19⟩
  · obtain rfl : m = 0 := by omega
    exact ⟨0, by omega, g1⟩
  · rw [b_law_0, n1, e0, am_bv_s]
    rw [i_na 64 rfl (by decide), i_na 64 rfl (by decide), i_na 64 rfl (by decide), i_na 64 rfl (by decide), i_na 64 rfl (by decide)]
    have l1 := i_len_all xl
    have hc : ((((([.inl (7, xl)] ++ cI_pa 1) ++ [.inl (0, List.replicate 64 0)]) ++ [.inl (0, List.replicate 64 0)]) ++ [.inl (0, List.replicate 64 0)]) ++ [.inl (0, List.replicate 64 0)]) ++ [(.inl (0, List.replicate 64 0) : am_C)] = cI_all xl := rfl
    rw [hc]
    clear hc
    generalize ([.inl (7, xl)] ++ cI_pa 1 : am_H) = H at l1 ⊢
    have l2 : List.length (H ++ [(.inl (0, List.replicate 64 0) : am_C)]) = 193 := by rw [List.length_append, l1]; rfl
    generalize (H ++ [(.inl (0, List.replicate 64 0) : am_C)]) = H2 at l2 ⊢
    have l3 : List.length (H2 ++ [(.inl (0, List.replicate 64 0) : am_C)]) = 194 := by rw [List.length_append, l2]; rfl
    generalize (H2 ++ [(.inl (0, List.replicate 64 0) : am_C)]) = H3 at l3 ⊢
    have l4 : List.length (H3 ++ [(.inl (0, List.replicate 64 0) : am_C)]) = 195 := by rw [List.length_append, l3]; rfl
    generalize (H3 ++ [(.inl (0, List.replicate 64 0) : am_C)]) = H4 at l4 ⊢
    have l5 : List.length (H4 ++ [(.inl (0, List.replicate 64 0) : am_C)]) = 196 := by rw [List.length_append, l4]; rfl
    rw [l1, l2, l3, l4, l5]
    have e2 : am_cl m_Pa_addLot [.ref 1, .int (nI 1), .int (nI 0), .int (nI 40)] h1 = some (some (.int (nI 1)), h2) := e2
    have e4 : am_cl m_Pa_addBidder [.ref 1, .int (nI 200)] h3 = some (some (.int (nI 1)), h4) := e4
    simp (maxSteps := 1000000) (disch := (first | omega | (simp (disch := omega) only [up_eq, up_ne, List.length_set] <;> omega) | fail)) only [↓bif_d, nI_addS, nI_mulS, nI_subS, nI_lt', nI_le', nI_eq', up_eq, up_ne, up_up, up_sw, List.set_set, g_seq, g_sne, Nat.reduceEqDiff, ↓reduceIte, List.length_set, Nat.add_sub_cancel_left, Nat.add_sub_cancel, Nat.reduceLT, Nat.reduceLeDiff, ite_true, ite_false, if_true, if_false, not_true_eq_false, not_false_eq_true, Bool.and_true, Bool.true_and, true_or, or_true, false_or, or_false, and_true, true_and, and_false, false_and, Nat.not_lt_zero, ↓(am_bi_of e1), ↓(am_bi_of e2), ↓(am_bi_of e3), ↓(am_bi_of e4), ↓(am_bi_of e5)]
/-! THE LAW ANSWERS 1 -/
set_option maxHeartbeats 400000 in
set_option maxRecDepth 20000 in
theorem law_sl {xl : List Int32} {D : Nat → List Int32} {h : am_H} (hI : LawI xl D h) (hD : DL D) (h0 : xl.length ≤ 260) : am_sl h ≤ 7302250 ∧ h.length ≤ 600000 := by
  obtain ⟨r, tx, u, nB, nl, nb, nx, ⟨A, F, P, q, t, rfl, hI, -, hx, -⟩, -⟩ := hI
  obtain ⟨hS, ⟨l1, l2, l3⟩, -⟩ := InvN_ad hI D
  obtain ⟨d0, d1, d2, d3, d4⟩ := hD
  have e0 : (ad A D 300).length = 64 := d0
  have e1 : (ad A D 301).length = 64 := d1
  have e2 : (ad A D 302).length = 64 := d2
  have e3 : (ad A D 303).length = 64 := d3
  have e4 : (ad A D 304).length = 64 := d4
  have ex : (ad A D 0).length ≤ 260 := by rw [ad_lo (by omega), hx]; exact h0
  have l36 := l2 36 (Or.inl rfl)
  have l68 := l2 68 (Or.inr (Or.inl rfl))
  have l100 := l2 100 (Or.inr (Or.inr (Or.inl rfl)))
  have l132 := l2 132 (Or.inr (Or.inr (Or.inr rfl)))
  clear l2 hS
  generalize ad A D = B at *
  simp only [LenS, Nat.reduceAdd] at l1 l36 l68 l100 l132
  simp only [LenO, SaL] at l3
  constructor
  · simp only [am_sl, heap, List.map_cons, List.map_nil, List.sum_cons, List.sum_nil, am_sz, List.length_cons, List.length_nil, l1, l36, l68, l100, l132, l3, e0, e1, e2, e3, e4, Nat.reduceAdd]
    omega
  · have : (heap B F P).length = 197 := rfl
    omega
theorem law_run (xl : List Int32) (hL : xl.length ≤ 260) : ∃ n h', am_run n m_law (0, am_l0 m_law [.ref 0], [], [.inl (7, xl)]) = some (some (.int 1), h') ∧ h'.length ≤ 600000 ∧ am_sl h' ≤ 7302250 := by
  obtain ⟨h, hI, e⟩ := i_law xl
  obtain ⟨D', h', hI', hD', e'⟩ := law_loop hL 26 0 cI_D h (.float 0) (.float 0) (.float 0) (.float 0) (.float 0) (.float 0) (.float 0) (.float 0) (.float 0) (Nat.zero_add _) hI i_DL
  rw [e'] at e
  obtain ⟨n, hn⟩ := am_ev_iff.mp e
  obtain ⟨s1, s2⟩ := law_sl hI' hD' hL
  exact ⟨n, _, hn, s2, s1⟩
theorem whole_start {p : Program} {e : Env} {s : State} {m : MethodId} {below : List Frame} {meth : Method} {c : Code} (l : Launch) (_hflags : l.flags = flags0) {b L : Nat} {xs : Nat → Int32} (hL : L ≤ 260) (C0 : lw_At p s m meth c b L xs) : W p l e room_1 s m #[Value.ref b] below meth c s.heap [] 0 0 (lw_Z below #[Value.ref b] s) (entryFrame m ([Value.ref b] : List Value).toArray 17) :=
  am_start am_tab_ok l C0 (fun xl hx => law_run xl (by omega))

/-! THE LAW'S errors -/
section R
variable {xl : List Int32} {D : Nat → List Int32} {r tx : List Int32} {u : Option (List Int32)} {nB nl nb nx : Nat} {h : am_H}
theorem nix {n : Nat} (hn : n ≤ 60) : ¬ ix (nI n) n := by
  rintro ⟨k, k1, k2⟩
  rw [nI_eq' (by omega) (by omega)] at k2
  omega
theorem l_errors (hR : Rs xl D r tx u nB nl nb nx h) (h0l : 0 < nl) (h0b : 0 < nb) (hband : ∀ m, m < nB → ∃ i, i < 3 ∧ g r (1 + m) = nI (50 * i)) : am_cl m_L_errors [.ref 1] h = some (some (.int (nI 1)), h) := by
  classical
  have hok := R_ok hR
  have hnl : nl ≤ 20 := hok.2.2.2.2.2.2.2.1
  have hnb : nb ≤ 8 := hok.2.2.2.2.2.2.2.2.1
  have hnx : nx ≤ 60 := hok.2.2.2.2.2.2.2.2.2
  have iL : ¬ ix (nI nl) nl := nix (by omega)
  have iB : ¬ ix (nI nb) nb := nix (by omega)
  have iX : ¬ ix (nI nx) nx := nix (by omega)
  have jL : ix (nI 0) nl := ⟨0, h0l, rfl⟩
  have jB : ix (nI 0) nb := ⟨0, h0b, rfl⟩
  have c0 := R_cx hR (m := m_Pa_count) (xs := [.int (nI 0)]) (fun A F P hC => k_count0 hC)
  have c1 := R_cx hR (m := m_Pa_count) (xs := [.int (nI 1)]) (fun A F P hC => k_count1 hC)
  have c2 := R_count2 hR
  have a1 := R_same hR (m := m_Pa_setBand) (xs := [.int (-nI 1), .int (nI 1)]) (fun A F P q t hI hr => k_setBand_e0 hI _ _ (by decide))
  have a2 := R_same hR (m := m_Pa_setBand) (xs := [.int (nI 0), .int (nI 0)]) (fun A F P q t hI hr => k_setBand_e1 hI _ _ (by decide) (by decide))
  have a3 := R_same hR (m := m_Pa_setBand) (xs := [.int (nI 1000001), .int (nI 1)]) (fun A F P q t hI hr => k_setBand_e0 hI _ _ (by decide))
  have a4 := R_same hR (m := m_Pa_removeBand) (xs := [.int (nI 0)]) (fun A F P q t hI hr => k_removeBand0 hI)
  have a5 := R_same hR (m := m_Pa_removeBand) (xs := [.int (-nI 7)]) (fun A F P q t hI hr => (k_removeBand hI (-nI 7) (by decide)).resolve_left (by
    rintro ⟨p, p1, p2, p3, -⟩
    rw [hr] at p3
    obtain ⟨i, i1, i2⟩ := hband p p2
    rw [i2] at p3
    have : i = 0 ∨ i = 1 ∨ i = 2 := by omega
    rcases this with w | w | w <;> subst w <;> revert p3 <;> decide))
  have a6 := R_same hR (m := m_Pa_addLot) (xs := [.int (nI 5), .int (nI 0), .int (nI 0)]) (fun A F P q t hI hr => k_addLot_e0 hI _ _ _ (by decide))
  have a7 := R_same hR (m := m_Pa_addLot) (xs := [.int (nI 0), .int (nI 1000001), .int (nI 0)]) (fun A F P q t hI hr => k_addLot_e1 hI _ _ _ (by decide) (by decide))
  have a8 := R_same hR (m := m_Pa_addLot) (xs := [.int (nI 0), .int (nI 0), .int (-nI 1)]) (fun A F P q t hI hr => k_addLot_e2 hI _ _ _ (by decide) (by decide) (by decide))
  have a9 := R_same hR (m := m_Pa_setReserve) (xs := [.int (nI nl), .int (nI 0)]) (fun A F P q t hI hr => k_setReserve_e0 hI _ _ iL)
  have b1 := R_same hR (m := m_Pa_withdrawLot) (xs := [.int (nI nl), .int (nI 1)]) (fun A F P q t hI hr => k_withdrawLot1_e0 hI _ iL)
  have b2 := R_same hR (m := m_Pa_addBidder) (xs := [.int (nI 10000001)]) (fun A F P q t hI hr => k_addBidder_e0 hI _ (by decide))
  have b3 := R_same hR (m := m_Pa_setLimit) (xs := [.int (nI nb), .int (nI 0)]) (fun A F P q t hI hr => k_setLimit_e0 hI _ _ iB)
  have b4 := R_same hR (m := m_Pa_set) (xs := [.int (nI 4), .int (nI 0)]) (fun A F P q t hI hr => k_setE hI _ _ (by decide))
  have b5 := R_same hR (m := m_Pa_set) (xs := [.int (nI 0), .int (nI 100001)]) (fun A F P q t hI hr => k_set0_e0 hI _ (by decide))
  have b6 := R_same hR (m := m_Pa_set) (xs := [.int (nI 1), .int (nI 501)]) (fun A F P q t hI hr => k_set1_e0 hI _ (by decide))
  have b7 := R_same hR (m := m_Pa_set) (xs := [.int (nI 3), .int (nI 1001)]) (fun A F P q t hI hr => k_set3_e0 hI _ (by decide))
  have b8 := R_same hR (m := m_Pa_bid) (xs := [.int (nI nb), .int (nI 0), .int (nI 1), .int (nI 0), .int (nI 0)]) (fun A F P q t hI hr => k_bid_e0 hI _ _ _ _ _ iB)
  have d1 := R_same hR (m := m_Pa_bid) (xs := [.int (nI 0), .int (nI nl), .int (nI 1), .int (nI 0), .int (nI 0)]) (fun A F P q t hI hr => k_bid_e1 hI _ _ _ _ _ jB iL)
  have d2 := R_same hR (m := m_Pa_bid) (xs := [.int (nI 0), .int (nI 0), .int (nI 0), .int (nI 0), .int (nI 0)]) (fun A F P q t hI hr => k_bid_e2 hI _ _ _ _ _ jB jL (by decide))
  have d3 := R_same hR (m := m_Pa_bid) (xs := [.int (nI 0), .int (nI 0), .int (nI 1), .int (nI 100001), .int (nI 0)]) (fun A F P q t hI hr => k_bid_e3 hI _ _ _ _ _ jB jL (by decide) (by decide))
  have d4 := R_same hR (m := m_Pa_bid) (xs := [.int (nI 0), .int (nI 0), .int (nI 1), .int (nI 0), .int (-nI 1)]) (fun A F P q t hI hr => k_bid_e4 hI _ _ _ _ _ jB jL (by decide) (by decide) (by decide))
  have d5 := R_same hR (m := m_Pa_withdrawBid) (xs := [.int (nI nx)]) (fun A F P q t hI hr => k_withdrawBid_e0 hI _ iX)
  have d6 := R_cx hR (m := m_Pa_sale) (xs := [.int (nI nl), .int (nI 0)]) (fun A F P hC => k_sale_e hC _ _ iL)
  have d7 := R_cx hR (m := m_Pa_ranked) (xs := [.int (nI nl), .int (nI 0)]) (fun A F P hC => k_ranked_e0 hC _ _ iL)
  have f1 := R_cx hR (m := m_Pa_fate) (xs := [.int (nI nx)]) (fun A F P hC => k_fate_e hC _ iX)
  have f2 := R_cx hR (m := m_Pa_needed) (xs := [.int (nI nb), .int (nI 0), .int (nI 0)]) (fun A F P hC => k_needed_e hC _ _ _ (Or.inl iB))
  have f3 := R_cx hR (m := m_Pa_needed) (xs := [.int (nI 0), .int (nI nl), .int (nI 0)]) (fun A F P hC => k_needed_e hC _ _ _ (Or.inr ⟨jB, iL⟩))
  have f4 := R_cx hR (m := m_Pa_needed) (xs := [.int (nI 0), .int (nI 0), .int (-nI 1)]) (fun A F P hC => k_needed_v hC _ _ _ jB jL (by decide))
  have f5 := R_cx hR (m := m_Pa_lot) (xs := [.int (nI nl), .int (nI 0)]) (fun A F P hC => k_lot_e hC _ _ iL)
  have f6 := R_cx hR (m := m_Pa_bidOf) (xs := [.int (nI nx), .int (nI 0)]) (fun A F P hC => k_bidOf_e hC _ _ iX)
  have f7 := R_cx hR (m := m_Pa_bidder) (xs := [.int (nI nb), .int (nI 0)]) (fun A F P hC => k_bidder_e hC _ _ iB)
  have f8 := R_cx hR (m := m_Pa_count) (xs := [.int (nI 14)]) (fun A F P hC => k_count14 hC)
  rw [e_L_errors]
  simp (maxSteps := 1000000) (disch := (first | omega | (simp (disch := omega) only [up_eq, up_ne, List.length_set] <;> omega) | fail)) only [↓bif_d, nI_addS, nI_mulS, nI_subS, nI_lt', nI_le', nI_eq', up_eq, up_ne, up_up, up_sw, List.set_set, g_seq, g_sne, Nat.reduceEqDiff, ↓reduceIte, List.length_set, Nat.add_sub_cancel_left, Nat.add_sub_cancel, Nat.reduceLT, Nat.reduceLeDiff, ite_true, ite_false, if_true, if_false, not_true_eq_false, not_false_eq_true, Bool.and_true, Bool.true_and, true_or, or_true, false_or, or_false, and_true, true_and, and_false, false_and, Nat.not_lt_zero, ↓(am_bi_of c0), ↓(am_bi_of c1)]
  rw [b_L_errors_12]
  simp (maxSteps := 1000000) (disch := (first | omega | (simp (disch := omega) only [up_eq, up_ne, List.length_set] <;> omega) | fail)) only [↓bif_d, nI_addS, nI_mulS, nI_subS, nI_lt', nI_le', nI_eq', up_eq, up_ne, up_up, up_sw, List.set_set, g_seq, g_sne, Nat.reduceEqDiff, ↓reduceIte, List.length_set, Nat.add_sub_cancel_left, Nat.add_sub_cancel, Nat.reduceLT, Nat.reduceLeDiff, ite_true, ite_false, if_true, if_false, not_true_eq_false, not_false_eq_true, Bool.and_true, Bool.true_and, true_or, or_true, false_or, or_false, and_true, true_and, and_false, false_and, Nat.not_lt_zero, ↓(am_bi_of c2), ↓(am_bi_of a1), ↓(am_bi_of a2), ↓(am_bi_of a3), ↓(am_bi_of a4), ↓(am_bi_of a5), ↓(am_bi_of a6), ↓(am_bi_of a7), ↓(am_bi_of a8), ↓(am_bi_of a9)]
  rw [b_L_errors_119]
  simp (maxSteps := 1000000) (disch := (first | omega | (simp (disch := omega) only [up_eq, up_ne, List.length_set] <;> omega) | fail)) only [↓bif_d, nI_addS, nI_mulS, nI_subS, nI_lt', nI_le', nI_eq', up_eq, up_ne, up_up, up_sw, List.set_set, g_seq, g_sne, Nat.reduceEqDiff, ↓reduceIte, List.length_set, Nat.add_sub_cancel_left, Nat.add_sub_cancel, Nat.reduceLT, Nat.reduceLeDiff, ite_true, ite_false, if_true, if_false, not_true_eq_false, not_false_eq_true, Bool.and_true, Bool.true_and, true_or, or_true, false_or, or_false, and_true, true_and, and_false, false_and, Nat.not_lt_zero, ↓(am_bi_of b1), ↓(am_bi_of b2), ↓(am_bi_of b3), ↓(am_bi_of b4), ↓(am_bi_of b5), ↓(am_bi_of b6), ↓(am_bi_of b7), ↓(am_bi_of b8)]
  rw [b_L_errors_223]
  simp (maxSteps := 1000000) (disch := (first | omega | (simp (disch := omega) only [up_eq, up_ne, List.length_set] <;> omega) | fail)) only [↓bif_d, nI_addS, nI_mulS, nI_subS, nI_lt', nI_le', nI_eq', up_eq, up_ne, up_up, up_sw, List.set_set, g_seq, g_sne, Nat.reduceEqDiff, ↓reduceIte, List.length_set, Nat.add_sub_cancel_left, Nat.add_sub_cancel, Nat.reduceLT, Nat.reduceLeDiff, ite_true, ite_false, if_true, if_false, not_true_eq_false, not_false_eq_true, Bool.and_true, Bool.true_and, true_or, or_true, false_or, or_false, and_true, true_and, and_false, false_and, Nat.not_lt_zero, ↓(am_bi_of d1), ↓(am_bi_of d2), ↓(am_bi_of d3), ↓(am_bi_of d4), ↓(am_bi_of d5), ↓(am_bi_of d6), ↓(am_bi_of d7)]
  rw [b_L_errors_308]
  simp (maxSteps := 1000000) (disch := (first | omega | (simp (disch := omega) only [up_eq, up_ne, List.length_set] <;> omega) | fail)) only [↓bif_d, nI_addS, nI_mulS, nI_subS, nI_lt', nI_le', nI_eq', up_eq, up_ne, up_up, up_sw, List.set_set, g_seq, g_sne, Nat.reduceEqDiff, ↓reduceIte, List.length_set, Nat.add_sub_cancel_left, Nat.add_sub_cancel, Nat.reduceLT, Nat.reduceLeDiff, ite_true, ite_false, if_true, if_false, not_true_eq_false, not_false_eq_true, Bool.and_true, Bool.true_and, true_or, or_true, false_or, or_false, and_true, true_and, and_false, false_and, Nat.not_lt_zero, ↓(am_bi_of f1), ↓(am_bi_of f2), ↓(am_bi_of f3), ↓(am_bi_of f4), ↓(am_bi_of f5), ↓(am_bi_of f6), ↓(am_bi_of f7), ↓(am_bi_of f8)]
end R

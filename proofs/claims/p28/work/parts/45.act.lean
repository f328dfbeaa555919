/-! THE ACTS -/
section X
variable {A : Nat → List Int32} {F : Nat → Int32} {P : Nat → Nat} {nB nl nb nx q t : Nat}
theorem s_out (v least most : Int32) (h : am_H) : am_cl m_Pa_isOutside [.int v, .int least, .int most] h = some (some (.int (b01 (v < least ∨ most < v))), h) := by
  rw [e_Pa_isOutside]
  simp only [bif_d, lits]
  by_cases h1 : v < least
  · rw [if_pos h1, b01_t (Or.inl h1)]
  · rw [if_neg h1]
    by_cases h2 : most < v
    · rw [if_neg (Int32.not_le.mpr h2), b01_t (Or.inr h2)]
    · rw [if_pos (Int32.not_lt.mp h2), b01_f (fun z => z.elim h1 h2)]
theorem s_is (x : Int32) {n : Nat} (hn : n < 2 ^ 31) (h : am_H) : (if x < nI 0 then some (some (Value.int (nI 0)), h) else if nI n ≤ x then some (some (Value.int (nI 0)), h) else some (some (Value.int (nI 1)), h)) = some (some (.int (b01 (ix x n))), h) := by
  by_cases h0 : x < nI 0
  · rw [if_pos h0, b01_f (fun z => by obtain ⟨k, hk, rfl⟩ := z; rw [nI_lt' (by omega) (by omega)] at h0; omega)]
  · obtain ⟨k, hk, rfl⟩ := nI_of h0
    rw [if_neg h0]
    by_cases h1 : nI n ≤ nI k
    · rw [if_pos h1, b01_f]
      rintro ⟨j, hj, e⟩
      rw [nI_eq' hk (by omega)] at e
      rw [nI_le' hn hk] at h1
      omega
    · rw [if_neg h1, b01_t]
      rw [nI_le' hn hk] at h1
      exact ⟨k, by omega, rfl⟩
theorem s_isLot (hF : F 804 = nI nl) (hn : nl < 2 ^ 31) (x : Int32) : am_cl m_Pa_isLot [.ref 1, .int x] (heap A F P) = some (some (.int (b01 (ix x nl))), heap A F P) := by
  rw [e_Pa_isLot 1 x _ rfl]
  simp (maxSteps := 2000000) (disch := (first | omega | (simp (disch := omega) only [up_eq, up_ne, cpA_o, List.length_set] <;> omega) | fail)) only [ob_s, am_bi_s, am_bv_s, am_bl_s, ↓bif_d, lits, nI_addS, nI_mulS, nI_subS, nI_lt', nI_le', nI_eq', ↓rd_nI, ↓wrH, up_eq, up_ne, up_up, up_sw, List.set_set, g_seq, g_sne, Nat.reduceEqDiff, ↓reduceIte, List.length_set, Nat.add_sub_cancel_left, Nat.add_sub_cancel, ite_true, ite_false, if_true, if_false, not_true_eq_false, not_false_eq_true, Bool.and_true, Bool.true_and, true_or, or_true, false_or, or_false, and_true, true_and, and_false, false_and, Nat.not_lt_zero, hpRX, hpIX, hpFX, hpLX, hpSX, hF]
  exact s_is x hn _
theorem s_isBidder (hF : F 203 = nI nb) (hn : nb < 2 ^ 31) (x : Int32) : am_cl m_Pa_isBidder [.ref 1, .int x] (heap A F P) = some (some (.int (b01 (ix x nb))), heap A F P) := by
  rw [e_Pa_isBidder 1 x _ rfl]
  simp (maxSteps := 2000000) (disch := (first | omega | (simp (disch := omega) only [up_eq, up_ne, cpA_o, List.length_set] <;> omega) | fail)) only [ob_s, am_bi_s, am_bv_s, am_bl_s, ↓bif_d, lits, nI_addS, nI_mulS, nI_subS, nI_lt', nI_le', nI_eq', ↓rd_nI, ↓wrH, up_eq, up_ne, up_up, up_sw, List.set_set, g_seq, g_sne, Nat.reduceEqDiff, ↓reduceIte, List.length_set, Nat.add_sub_cancel_left, Nat.add_sub_cancel, ite_true, ite_false, if_true, if_false, not_true_eq_false, not_false_eq_true, Bool.and_true, Bool.true_and, true_or, or_true, false_or, or_false, and_true, true_and, and_false, false_and, Nat.not_lt_zero, hpRX, hpIX, hpFX, hpLX, hpSX, hF]
  exact s_is x hn _
theorem s_isBid (hF : F 1906 = nI nx) (hn : nx < 2 ^ 31) (x : Int32) : am_cl m_Pa_isBid [.ref 1, .int x] (heap A F P) = some (some (.int (b01 (ix x nx))), heap A F P) := by
  rw [e_Pa_isBid 1 x _ rfl]
  simp (maxSteps := 2000000) (disch := (first | omega | (simp (disch := omega) only [up_eq, up_ne, cpA_o, List.length_set] <;> omega) | fail)) only [ob_s, am_bi_s, am_bv_s, am_bl_s, ↓bif_d, lits, nI_addS, nI_mulS, nI_subS, nI_lt', nI_le', nI_eq', ↓rd_nI, ↓wrH, up_eq, up_ne, up_up, up_sw, List.set_set, g_seq, g_sne, Nat.reduceEqDiff, ↓reduceIte, List.length_set, Nat.add_sub_cancel_left, Nat.add_sub_cancel, ite_true, ite_false, if_true, if_false, not_true_eq_false, not_false_eq_true, Bool.and_true, Bool.true_and, true_or, or_true, false_or, or_false, and_true, true_and, and_false, false_and, Nat.not_lt_zero, hpRX, hpIX, hpFX, hpLX, hpSX, hF]
  exact s_is x hn _
end X

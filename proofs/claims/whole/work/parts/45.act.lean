/-! THE ACTS -/
section X
variable {A : Nat → List Int32} {F : Nat → Int32} {P : Nat → Nat} {nB nl nb nx q t : Nat}
theorem s_out (v least most : Int32) (h : am_H) : am_cl m_Pa_isOutside [.int v, .int least, .int most] h = some (some (.int (b01 (v < least ∨ most < v))), h) := by
  rw [e_Pa_isOutside]
  simp only [bif_d, lits]
  by_cases h1 : v < least
  · rw [if_pos h1, b01_t (Or.inl h1)]
  · rw [if_neg h1]
    by_cases h2 : most < v
    · rw [if_neg (Int32.not_le.mpr h2), b01_t (Or.inr h2)]
    · rw [if_pos (Int32.not_lt.mp h2), b01_f (fun z => z.elim h1 h2)]
theorem s_is (x : Int32) {n : Nat} (hn : n < 2 ^ 31) (h : am_H) : (if x < nI 0 then some (some (Value.int (nI 0)), h) else if nI n ≤ x then some (some (Value.int (nI 0)), h) else some (some (Value.int (nI 1)), h)) = some (some (.int (b01 (ix x n))), h) := by
  by_cases h0 : x < nI 0
  · rw [if_pos h0, b01_f (fun z => by obtain ⟨k, hk, rfl⟩ := z; rw [nI_lt' (by omega) (by omega)] at h0; omega)]
  · obtain ⟨k, hk, rfl⟩ := nI_of h0
    rw [if_neg h0]
    by_cases h1 : nI n ≤ nI k
    · rw [if_pos h1, b01_f]
      rintro ⟨j, hj, e⟩
      rw [nI_eq' hk (by omega)] at e
      rw [nI_le' hn hk] at h1
      omega
    · rw [if_neg h1, b01_t]
      rw [nI_le' hn hk] at h1
      exact ⟨k, by omega, rfl⟩
theorem s_isLot (hF : F 804 = nI nl) (hn : nl < 2 ^ 31) (x : Int32) : am_cl m_Pa_isLot [.ref 1, .int x] (heap A F P) = some (some (.int (b01 (ix x nl))), heap A F P) := by
  rw [e_Pa_isLot 1 x _ rfl]
  simp (maxSteps := 2000000) (disch := (first | omega | (simp (disch := omega) only [up_eq, up_ne, cpA_o, List.length_set] <;> omega) | fail)) only [ob_s, am_bi_s, am_bv_s, am_bl_s, ↓bif_d, lits, nI_addS, nI_mulS, nI_subS, nI_lt', nI_le', nI_eq', ↓rd_nI, ↓wrH, up_eq, up_ne, up_up, up_sw, List.set_set, g_seq, g_sne, Nat.reduceEqDiff, ↓reduceIte, List.length_set, Nat.add_sub_cancel_left, Nat.add_sub_cancel, ite_true, ite_false, if_true, if_false, not_true_eq_false, not_false_eq_true, Bool.and_true, Bool.true_and, true_or, or_true, false_or, or_false, and_true, true_and, and_false, false_and, Nat.not_lt_zero, hpRX, hpIX, hpFX, hpLX, hpSX, hF]
  exact s_is x hn _
theorem s_isBidder (hF : F 203 = nI nb) (hn : nb < 2 ^ 31) (x : Int32) : am_cl m_Pa_isBidder [.ref 1, .int x] (heap A F P) = some (some (.int (b01 (ix x nb))), heap A F P) := by
  rw [e_Pa_isBidder 1 x _ rfl]
  simp (maxSteps := 2000000) (disch := (first | omega | (simp (disch := omega) only [up_eq, up_ne, cpA_o, List.length_set] <;> omega) | fail)) only [ob_s, am_bi_s, am_bv_s, am_bl_s, ↓bif_d, lits, nI_addS, nI_mulS, nI_subS, nI_lt', nI_le', nI_eq', ↓rd_nI, ↓wrH, up_eq, up_ne, up_up, up_sw, List.set_set, g_seq, g_sne, Nat.reduceEqDiff, ↓reduceIte, List.length_set, Nat.add_sub_cancel_left, Nat.add_sub_cancel, ite_true, ite_false, if_true, if_false, not_true_eq_false, not_false_eq_true, Bool.and_true, Bool.true_and, true_or, or_true, false_or, or_false, and_true, true_and, and_false, false_and, Nat.not_lt_zero, hpRX, hpIX, hpFX, hpLX, hpSX, hF]
  exact s_is x hn _
theorem s_isBid (hF : F 1906 = nI nx) (hn : nx < 2 ^ 31) (x : Int32) : am_cl m_Pa_isBid [.ref 1, .int x] (heap A F P) = some (some (.int (b01 (ix x nx))), heap A F P) := by
  rw [e_Pa_isBid 1 x _ rfl]
  simp (maxSteps := 2000000) (disch := (first | omega | (simp (disch := omega) only [up_eq, up_ne, cpA_o, List.length_set] <;> omega) | fail)) only [ob_s, am_bi_s, am_bv_s, am_bl_s, ↓bif_d, lits, nI_addS, nI_mulS, nI_subS, nI_lt', nI_le', nI_eq', ↓rd_nI, ↓wrH, up_eq, up_ne, up_up, up_sw, List.set_set, g_seq, g_sne, Nat.reduceEqDiff, ↓reduceIte, List.length_set, Nat.add_sub_cancel_left, Nat.add_sub_cancel, ite_true, ite_false, if_true, if_false, not_true_eq_false, not_false_eq_true, Bool.and_true, Bool.true_and, true_or, or_true, false_or, or_false, and_true, true_and, and_false, false_and, Nat.not_lt_zero, hpRX, hpIX, hpFX, hpLX, hpSX, hF]
  exact s_is x hn _
/-- one call of both: the same answer, and the relation is kept -/
def Step (jp jm : Nat) (xs : List Value) (A : Nat → List Int32) (F : Nat → Int32) (P : Nat → Nat) : Prop := ∃ v : Value, ∃ A1 F1 P1 A2 F2 P2, am_cl jp (.ref 1 :: xs) (heap A F P) = some (some v, heap A1 F1 P1) ∧ am_cl jm (.ref 192 :: xs) (heap A1 F1 P1) = some (some v, heap A2 F2 P2) ∧ Inv A2 F2 P2
theorem act_pre (hI : InvN A F P nB nl nb nx q t) : ∃ b, b = Pk q P (kp q) ∧ 36 ≤ b ∧ b ≤ 132 ∧ am_cl m_Pa_beginAct [.ref 1] (heap A F P) = some (none, heap (cpA A 2 b) (up (up (cpF F 2 b) 3401 (nI (kp q + 1))) 16410 (nI 0)) (Pk q P)) ∧ ∀ A'' F'' P'', A'' 193 = A 193 → A'' 194 = A 194 → F'' 19202 = F 19202 → ∃ H' : List Int32, H'.length = 1888 ∧ sl H' (kp q) = A 193 ∧ (∀ s, s < kp q → sl H' s = sl (A 194) (of4 q s)) ∧ am_cl m_Mod_record [.ref 192] (heap A'' F'' P'') = some (none, heap (up A'' 194 H') (up F'' 19202 (nI (kp q + 1))) P'') := by
  obtain ⟨hs, ⟨l1, l2, l3⟩, ⟨q1, q2, q3, q4, q5, q6⟩, ht, -⟩ := hI
  have hb := Pk_hs (q := q) q4 _ (kp_lt q1)
  obtain ⟨b1, b2⟩ := hsP_b hb
  refine ⟨_, rfl, b1, b2, s_beginAct q1 q2 q4 l1 l2, fun A'' F'' P'' g1 g2 g3 => ?_⟩
  have := s_Mod_record (A := A'') (F := F'') (P := P'') (q := q) (by rw [g1]; exact hs.1.1) (by rw [g2]; exact l3.1) q1 (by rw [g3]; exact q3)
  rw [g1, g2] at this
  exact this
end X

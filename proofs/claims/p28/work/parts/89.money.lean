/-! THE LAW'S money -/
section A
variable {xl r tx L B Fi Se Mn Bu Pr : List Int32} {u : Option (List Int32)} {nB nl nb nx : Nat} {A D : Nat → List Int32} {F : Nat → Int32} {P : Nat → Nat}
theorem l_lost : ∀ h, am_cl m_L_lost [.long (-9223372036854775808)] h = some (some (.int (nI 1)), h) := by
  intro h
  rw [e_L_lost, show decide (nI 0 ≤ lg_cmp (-9223372036854775808) (-9000000000000000000)) = false from by decide]
  rfl
theorem l_money19 (hH : Hd xl r tx u nB nl nb nx A F P) (hS : Sv r nB nl nb nx L B Fi Se Mn Bu Pr) : ∀ n l (s1 s3 s5 s7 : Int64) (c : Nat) (z : Int32) (u12 : Value), l + n = nl → am_ev m_L_money (19, [.ref 1, .long s1, .float 0, .long s3, .float 0, .long s5, .float 0, .long s7, .float 0, .int (nI c), .int z, .int (nI l), u12, .float 0, .float 0, .float 0, .float 0, .float 0, .float 0, .float 0], [], heap (ad A D) F P) = am_ev m_L_money (167, [.ref 1, .long (fL (fun _ => True) (mPart r Bu Pr 0) n l s1), .float 0, .long (fL (fun _ => True) (mPart r Bu Pr 1) n l s3), .float 0, .long (fL (fun _ => True) (mPart r Bu Pr 2) n l s5), .float 0, .long (fL (fun _ => True) (mPart r Bu Pr 3) n l s7), .float 0, .int (nI (c + cN (fun l => ¬ g Bu l < nI 0) n l)), .int (sF (fun j => g r (78 + j)) n l z), .long 0, .float 0, .int (nI 0), .int (nI 0), .float 0, .float 0, .float 0, .float 0, .float 0], [], heap (ad A D) F P) := by
  classical
  have hQ := hH.Q hS D
  have hC := hQ.2.2.2.1
  have hM := hC.1
  have hnl : nl ≤ 20 := hM.1.2.2.2.2.2.2.2.1
  have hnb : nb ≤ 8 := hM.1.2.2.2.2.2.2.2.2.1
  have c0 := k_count0 (P := P) hC
  have c9 := k_count9 (P := P) hC
  have c10 := k_count10 (P := P) hC
  have c11 := k_count11 (P := P) hC
  obtain ⟨-, r1, r2, r3⟩ := hC.2.2.2.2.2.2.2.2
  intro n
  induction n with
  | zero =>
    intro l s1 s3 s5 s7 c z u12 hl
    have hle : nl ≤ l := by omega
    show _ = am_ev m_L_money (167, [.ref 1, .long s1, .float 0, .long s3, .float 0, .long s5, .float 0, .long s7, .float 0, .int (nI (c + 0)), .int z, .long 0, .float 0, .int (nI 0), .int (nI 0), .float 0, .float 0, .float 0, .float 0, .float 0], [], heap (ad A D) F P)
    rw [b_L_money_19]
    simp (maxSteps := 1000000) (disch := (first | omega | (simp (disch := omega) only [up_eq, up_ne, List.length_set] <;> omega) | fail)) only [↓bif_d, nI_addS, nI_mulS, nI_subS, nI_lt', nI_le', nI_eq', up_eq, up_ne, up_up, up_sw, List.set_set, g_seq, g_sne, Nat.reduceEqDiff, ↓reduceIte, List.length_set, Nat.add_sub_cancel_left, Nat.add_sub_cancel, Nat.reduceLT, Nat.reduceLeDiff, ite_true, ite_false, if_true, if_false, not_true_eq_false, not_false_eq_true, Bool.and_true, Bool.true_and, true_or, or_true, false_or, or_false, and_true, true_and, and_false, false_and, Nat.not_lt_zero, ↓(am_bi_of c0), hle, Nat.add_zero]
  | succ n ih =>
    intro l s1 s3 s5 s7 c z u12 hl
    have hlt : l < nl := by omega
    have hle : ¬ nl ≤ l := by omega
    have p1 := k_sale1 hQ hlt
    have p2 := k_sale2 hQ hlt
    have l3 := k_lot3 (P := P) hC hlt
    have hpr := SaI_pr hC hS.2 hlt
    have m1 := mPt_64 hpr r1
    have m2 := mPt_64 hpr r2
    have b29 := fun l1 l3 l5 l7 x1 x2 x3 u4 h => b_L_money_29 1 l1 l3 l5 l7 x1 x2 x3 u4 h
    have b120 := fun l1 l3 l5 l7 x1 x2 x3 x4 h => b_L_money_120 1 l1 l3 l5 l7 x1 x2 x3 x4 h
    have eP : ∀ k, mPart r Bu Pr k l = mPart r Bu Pr k l := fun _ => rfl
    have e0 : mPart r Bu Pr 0 l = g Pr l := rfl
    have e1 : mPart r Bu Pr 1 l = mPt (g Pr l) (g r 469) := rfl
    have e2 : mPart r Bu Pr 2 l = mPt (g Pr l) (g r 470) := rfl
    have e3 : mPart r Bu Pr 3 l = mFe r Bu l := rfl
    have h64 : (Int32.toInt64 (nI 0) : Int64) = 0 := rfl
    rw [fL_s, fL_s, fL_s, fL_s, cif_t (p := True) trivial, cif_t (p := True) trivial, cif_t (p := True) trivial, cif_t (p := True) trivial, e0, e1, e2, e3, cN_s]
    show _ = am_ev m_L_money (167, [.ref 1, .long (fL (fun _ => True) (mPart r Bu Pr 0) n (l + 1) (s1 + (g Pr l).toInt64)), .float 0, .long (fL (fun _ => True) (mPart r Bu Pr 1) n (l + 1) (s3 + (mPt (g Pr l) (g r 469)).toInt64)), .float 0, .long (fL (fun _ => True) (mPart r Bu Pr 2) n (l + 1) (s5 + (mPt (g Pr l) (g r 470)).toInt64)), .float 0, .long (fL (fun _ => True) (mPart r Bu Pr 3) n (l + 1) (s7 + (mFe r Bu l).toInt64)), .float 0, .int (nI (c + (cif (¬ g Bu l < nI 0) 1 0 + cN (fun l => ¬ g Bu l < nI 0) n (l + 1)))), .int (sF (fun j => g r (78 + j)) n (l + 1) (z + g r (78 + l))), .long 0, .float 0, .int (nI 0), .int (nI 0), .float 0, .float 0, .float 0, .float 0, .float 0], [], heap (ad A D) F P)
    have n30 : ¬ nI 3 = nI 0 := by decide
    have n10 : ¬ nI 1 = nI 0 := by decide
    have n20 : ¬ nI 2 = nI 0 := by decide
    have n31 : ¬ nI 3 = nI 1 := by decide
    have n32 : ¬ nI 3 = nI 2 := by decide
    have n01 : ¬ nI 0 = nI 1 := by decide
    have n02 : ¬ nI 0 = nI 2 := by decide
    have n21 : ¬ nI 2 = nI 1 := by decide
    unfold mFe
    by_cases g1 : g r (78 + l) = nI 1
    · have hb := SaI_aw hM hS.2 hlt g1
      have hst : mSt r Mn Bu l = nI 3 := by unfold mSt; rw [cif_t g1]
      rw [hst] at p2
      rw [cif_f (p := ¬ g Bu l < nI 0) (fun w => w (by rw [hb]; decide)), cif_f (fun w => w.2 g1), Nat.zero_add, h64]
      have ih := fun u12 => ih (l + 1) (s1 + (g Pr l).toInt64) (s3 + (mPt (g Pr l) (g r 469)).toInt64) (s5 + (mPt (g Pr l) (g r 470)).toInt64) (s7 + 0) c (z + g r (78 + l)) u12 (by omega)
      rw [← ih (.int (g Pr l)), b_L_money_19]
      simp (maxSteps := 1000000) (disch := (first | omega | (simp (disch := omega) only [up_eq, up_ne, List.length_set] <;> omega) | fail)) only [↓bif_d, nI_addS, nI_mulS, nI_subS, nI_lt', nI_le', nI_eq', up_eq, up_ne, up_up, up_sw, List.set_set, g_seq, g_sne, Nat.reduceEqDiff, ↓reduceIte, List.length_set, Nat.add_sub_cancel_left, Nat.add_sub_cancel, Nat.reduceLT, Nat.reduceLeDiff, ite_true, ite_false, if_true, if_false, not_true_eq_false, not_false_eq_true, Bool.and_true, Bool.true_and, true_or, or_true, false_or, or_false, and_true, true_and, and_false, false_and, Nat.not_lt_zero, ↓(am_bi_of c0), ↓(am_bi_of p1), ↓(am_bi_of c9), ↓(am_bi_of c10), ↓(am_bi_of p2), ↓(am_bi_of l3), hle, ↓b29, n31, n32, m1, m2, ↓b120, n30, Nat.add_zero]
    · by_cases g2 : g Bu l < nI 0
      · rw [cif_f (p := ¬ g Bu l < nI 0) (fun w => w g2), cif_t ⟨g2, g1⟩, Nat.zero_add]
        have ih := fun u12 => ih (l + 1) (s1 + (g Pr l).toInt64) (s3 + (mPt (g Pr l) (g r 469)).toInt64) (s5 + (mPt (g Pr l) (g r 470)).toInt64) (s7 + (g r 471).toInt64) c (z + g r (78 + l)) u12 (by omega)
        rw [← ih (.int (g Pr l)), b_L_money_19]
        by_cases g3 : g Mn l = nI 0
        · have hst : mSt r Mn Bu l = nI 1 := by unfold mSt; rw [cif_f g1, cif_f (fun w => w g2), cif_t g3]
          rw [hst] at p2
          simp (maxSteps := 1000000) (disch := (first | omega | (simp (disch := omega) only [up_eq, up_ne, List.length_set] <;> omega) | fail)) only [↓bif_d, nI_addS, nI_mulS, nI_subS, nI_lt', nI_le', nI_eq', up_eq, up_ne, up_up, up_sw, List.set_set, g_seq, g_sne, Nat.reduceEqDiff, ↓reduceIte, List.length_set, Nat.add_sub_cancel_left, Nat.add_sub_cancel, Nat.reduceLT, Nat.reduceLeDiff, ite_true, ite_false, if_true, if_false, not_true_eq_false, not_false_eq_true, Bool.and_true, Bool.true_and, true_or, or_true, false_or, or_false, and_true, true_and, and_false, false_and, Nat.not_lt_zero, ↓(am_bi_of c0), ↓(am_bi_of p1), ↓(am_bi_of c9), ↓(am_bi_of c10), ↓(am_bi_of p2), ↓(am_bi_of c11), ↓(am_bi_of l3), hle, ↓b29, m1, m2, ↓b120, n10, Nat.add_zero]
        · have hst : mSt r Mn Bu l = nI 2 := by unfold mSt; rw [cif_f g1, cif_f (fun w => w g2), cif_f g3]
          rw [hst] at p2
          simp (maxSteps := 1000000) (disch := (first | omega | (simp (disch := omega) only [up_eq, up_ne, List.length_set] <;> omega) | fail)) only [↓bif_d, nI_addS, nI_mulS, nI_subS, nI_lt', nI_le', nI_eq', up_eq, up_ne, up_up, up_sw, List.set_set, g_seq, g_sne, Nat.reduceEqDiff, ↓reduceIte, List.length_set, Nat.add_sub_cancel_left, Nat.add_sub_cancel, Nat.reduceLT, Nat.reduceLeDiff, ite_true, ite_false, if_true, if_false, not_true_eq_false, not_false_eq_true, Bool.and_true, Bool.true_and, true_or, or_true, false_or, or_false, and_true, true_and, and_false, false_and, Nat.not_lt_zero, ↓(am_bi_of c0), ↓(am_bi_of p1), ↓(am_bi_of c9), ↓(am_bi_of c10), ↓(am_bi_of p2), ↓(am_bi_of c11), ↓(am_bi_of l3), hle, ↓b29, n21, m1, m2, ↓b120, n20, Nat.add_zero]
      · have hst : mSt r Mn Bu l = nI 0 := by unfold mSt; rw [cif_f g1, cif_t g2]
        rw [hst] at p2
        rw [cif_t (p := ¬ g Bu l < nI 0) g2, cif_f (fun w => g2 w.1), ← Nat.add_assoc, h64]
        have ih := fun u12 => ih (l + 1) (s1 + (g Pr l).toInt64) (s3 + (mPt (g Pr l) (g r 469)).toInt64) (s5 + (mPt (g Pr l) (g r 470)).toInt64) (s7 + 0) (c + 1) (z + g r (78 + l)) u12 (by omega)
        rw [← ih (.int (g Pr l)), b_L_money_19]
        simp (maxSteps := 1000000) (disch := (first | omega | (simp (disch := omega) only [up_eq, up_ne, List.length_set] <;> omega) | fail)) only [↓bif_d, nI_addS, nI_mulS, nI_subS, nI_lt', nI_le', nI_eq', up_eq, up_ne, up_up, up_sw, List.set_set, g_seq, g_sne, Nat.reduceEqDiff, ↓reduceIte, List.length_set, Nat.add_sub_cancel_left, Nat.add_sub_cancel, Nat.reduceLT, Nat.reduceLeDiff, ite_true, ite_false, if_true, if_false, not_true_eq_false, not_false_eq_true, Bool.and_true, Bool.true_and, true_or, or_true, false_or, or_false, and_true, true_and, and_false, false_and, Nat.not_lt_zero, ↓(am_bi_of c0), ↓(am_bi_of p1), ↓(am_bi_of c9), ↓(am_bi_of c10), ↓(am_bi_of p2), ↓(am_bi_of l3), hle, ↓b29, n01, n02, m1, m2, ↓b120]
theorem l_money214 (hH : Hd xl r tx u nB nl nb nx A F P) (hS : Sv r nB nl nb nx L B Fi Se Mn Bu Pr) {b : Nat} (hb : b < nb) (s1 s3 s5 s7 s11 : Int64) (x9 x10 x13 : Int32) : ∀ n l, l + n = nl → am_ev m_L_money (214, [.ref 1, .long s1, .float 0, .long s3, .float 0, .long s5, .float 0, .long s7, .float 0, .int x9, .int x10, .long s11, .float 0, .int x13, .int (nI b), .int (g L (8 * l + b)), .int (nI l), .float 0, .float 0, .float 0], [], heap (ad A D) F P) = am_ev m_L_money (167, [.ref 1, .long s1, .float 0, .long s3, .float 0, .long s5, .float 0, .long s7, .float 0, .int x9, .int x10, .long s11, .float 0, .int x13, .int (nI (b + 1)), .int (g L (8 * nl + b)), .int (nI nl), .float 0, .float 0, .float 0], [], heap (ad A D) F P) := by
  classical
  have hQ := hH.Q hS D
  have hC := hQ.2.2.2.1
  have hM := hC.1
  have hnl : nl ≤ 20 := hM.1.2.2.2.2.2.2.2.1
  have hnb : nb ≤ 8 := hM.1.2.2.2.2.2.2.2.2.1
  have c0 := k_count0 (P := P) hC
  have d1 := k_bidder1 hQ hb
  have d4 := k_bidder4 hQ hb
  intro n
  induction n with
  | zero =>
    intro l hl
    have e : l = nl := by omega
    rw [e]
    obtain ⟨q, q1, q2, q3⟩ := SaI_left hC hS.2 nl (Nat.le_refl _) b hb
    rw [q3] at d1 ⊢
    have hle : nl ≤ nl := Nat.le_refl _
    have hq : ¬ q < 0 := Nat.not_lt_zero _
    rw [b_L_money_214]
    simp (maxSteps := 1000000) (disch := (first | omega | (simp (disch := omega) only [up_eq, up_ne, List.length_set] <;> omega) | fail)) only [↓bif_d, nI_addS, nI_mulS, nI_subS, nI_lt', nI_le', nI_eq', up_eq, up_ne, up_up, up_sw, List.set_set, g_seq, g_sne, Nat.reduceEqDiff, ↓reduceIte, List.length_set, Nat.add_sub_cancel_left, Nat.add_sub_cancel, Nat.reduceLT, Nat.reduceLeDiff, ite_true, ite_false, if_true, if_false, not_true_eq_false, not_false_eq_true, Bool.and_true, Bool.true_and, true_or, or_true, false_or, or_false, and_true, true_and, and_false, false_and, Nat.not_lt_zero, ↓(am_bi_of c0), ↓(am_bi_of d1), ↓(am_bi_of d4), hle, hq]
  | succ n ih =>
    intro l hl
    have hlt : l < nl := by omega
    have hle : ¬ nl ≤ l := by omega
    have s0 := k_sale0 hQ hlt
    have s1 := k_sale1 hQ hlt
    have ih := ih (l + 1) (by omega)
    rw [hS.2.2.1 l hlt b hb] at ih
    rw [← ih, b_L_money_214]
    by_cases c : g Bu l = nI b
    · rw [cif_t c]
      rw [c] at s0
      simp (maxSteps := 1000000) (disch := (first | omega | (simp (disch := omega) only [up_eq, up_ne, List.length_set] <;> omega) | fail)) only [↓bif_d, nI_addS, nI_mulS, nI_subS, nI_lt', nI_le', nI_eq', up_eq, up_ne, up_up, up_sw, List.set_set, g_seq, g_sne, Nat.reduceEqDiff, ↓reduceIte, List.length_set, Nat.add_sub_cancel_left, Nat.add_sub_cancel, Nat.reduceLT, Nat.reduceLeDiff, ite_true, ite_false, if_true, if_false, not_true_eq_false, not_false_eq_true, Bool.and_true, Bool.true_and, true_or, or_true, false_or, or_false, and_true, true_and, and_false, false_and, Nat.not_lt_zero, ↓(am_bi_of c0), ↓(am_bi_of s0), ↓(am_bi_of s1), hle]
    · rw [cif_f c]
      simp (maxSteps := 1000000) (disch := (first | omega | (simp (disch := omega) only [up_eq, up_ne, List.length_set] <;> omega) | fail)) only [↓bif_d, nI_addS, nI_mulS, nI_subS, nI_lt', nI_le', nI_eq', up_eq, up_ne, up_up, up_sw, List.set_set, g_seq, g_sne, Nat.reduceEqDiff, ↓reduceIte, List.length_set, Nat.add_sub_cancel_left, Nat.add_sub_cancel, Nat.reduceLT, Nat.reduceLeDiff, ite_true, ite_false, if_true, if_false, not_true_eq_false, not_false_eq_true, Bool.and_true, Bool.true_and, true_or, or_true, false_or, or_false, and_true, true_and, and_false, false_and, Nat.not_lt_zero, ↓(am_bi_of c0), ↓(am_bi_of s0), hle, c]
noncomputable def pS (r Bu Pr : List Int32) (nl : Nat) : Nat → Nat → Int64 → Int64
  | 0, _, s => s
  | n + 1, b, s => pS r Bu Pr nl n (b + 1) (s + (pF r Bu Pr b nl 0 (nI 0)).toInt64)
theorem l_money167 (hH : Hd xl r tx u nB nl nb nx A F P) (hS : Sv r nB nl nb nx L B Fi Se Mn Bu Pr) (s1 s3 s5 s7 : Int64) (x9 x10 : Int32) : ∀ n b (s11 : Int64) (c : Nat) (u15 u16 : Value), b + n = nb → am_ev m_L_money (167, [.ref 1, .long s1, .float 0, .long s3, .float 0, .long s5, .float 0, .long s7, .float 0, .int x9, .int x10, .long s11, .float 0, .int (nI c), .int (nI b), u15, u16, .float 0, .float 0, .float 0], [], heap (ad A D) F P) = am_ev m_L_money (307, [.ref 1, .long s1, .float 0, .long s3, .float 0, .long s5, .float 0, .long s7, .float 0, .int x9, .int x10, .long (pS r Bu Pr nl n b s11), .float 0, .int (nI (c + sN2 (fun b => cN (fun l => g Bu l = nI b) nl 0) n b)), .long 0, .float 0, .long 0, .float 0, .int (nI 0), .int (nI 0)], [], heap (ad A D) F P) := by
  classical
  have hQ := hH.Q hS D
  have hC := hQ.2.2.2.1
  have hM := hC.1
  have hnl : nl ≤ 20 := hM.1.2.2.2.2.2.2.2.1
  have hnb : nb ≤ 8 := hM.1.2.2.2.2.2.2.2.2.1
  have c1 := k_count1 (P := P) hC
  intro n
  induction n with
  | zero =>
    intro b s11 c u15 u16 hb
    have hle : nb ≤ b := by omega
    show _ = am_ev m_L_money (307, [.ref 1, .long s1, .float 0, .long s3, .float 0, .long s5, .float 0, .long s7, .float 0, .int x9, .int x10, .long s11, .float 0, .int (nI (c + 0)), .long 0, .float 0, .long 0, .float 0, .int (nI 0), .int (nI 0)], [], heap (ad A D) F P)
    rw [b_L_money_167]
    simp (maxSteps := 1000000) (disch := (first | omega | (simp (disch := omega) only [up_eq, up_ne, List.length_set] <;> omega) | fail)) only [↓bif_d, nI_addS, nI_mulS, nI_subS, nI_lt', nI_le', nI_eq', up_eq, up_ne, up_up, up_sw, List.set_set, g_seq, g_sne, Nat.reduceEqDiff, ↓reduceIte, List.length_set, Nat.add_sub_cancel_left, Nat.add_sub_cancel, Nat.reduceLT, Nat.reduceLeDiff, ite_true, ite_false, if_true, if_false, not_true_eq_false, not_false_eq_true, Bool.and_true, Bool.true_and, true_or, or_true, false_or, or_false, and_true, true_and, and_false, false_and, Nat.not_lt_zero, ↓(am_bi_of c1), hle, Nat.add_zero]
  | succ n ih =>
    intro b s11 c u15 u16 hbn
    have hb : b < nb := by omega
    have hle : ¬ nb ≤ b := by omega
    have d0 := k_bidder0 hQ hb
    have d2 := k_bidder2 hQ hb
    have d3 := k_bidder3 hQ hb
    have ih := ih (b + 1) (s11 + (pF r Bu Pr b nl 0 (nI 0)).toInt64) (c + cN (fun l => g Bu l = nI b) nl 0) (.int (g L (8 * nl + b))) (.int (nI nl)) (by omega)
    show _ = am_ev m_L_money (307, [.ref 1, .long s1, .float 0, .long s3, .float 0, .long s5, .float 0, .long s7, .float 0, .int x9, .int x10, .long (pS r Bu Pr nl n (b + 1) (s11 + (pF r Bu Pr b nl 0 (nI 0)).toInt64)), .float 0, .int (nI (c + (cN (fun l => g Bu l = nI b) nl 0 + sN2 (fun b => cN (fun l => g Bu l = nI b) nl 0) n (b + 1)))), .long 0, .float 0, .long 0, .float 0, .int (nI 0), .int (nI 0)], [], heap (ad A D) F P)
    rw [← Nat.add_assoc, ← ih]
    have hl := l_money214 (D := D) hH hS hb s1 s3 s5 s7 (s11 + (pF r Bu Pr b nl 0 (nI 0)).toInt64) x9 x10 (nI (c + cN (fun l => g Bu l = nI b) nl 0)) nl 0 (by omega)
    rw [Nat.mul_zero, Nat.zero_add, hS.2.1 b hb] at hl
    rw [← hl, b_L_money_167]
    simp (maxSteps := 1000000) (disch := (first | omega | (simp (disch := omega) only [up_eq, up_ne, List.length_set] <;> omega) | fail)) only [↓bif_d, nI_addS, nI_mulS, nI_subS, nI_lt', nI_le', nI_eq', up_eq, up_ne, up_up, up_sw, List.set_set, g_seq, g_sne, Nat.reduceEqDiff, ↓reduceIte, List.length_set, Nat.add_sub_cancel_left, Nat.add_sub_cancel, Nat.reduceLT, Nat.reduceLeDiff, ite_true, ite_false, if_true, if_false, not_true_eq_false, not_false_eq_true, Bool.and_true, Bool.true_and, true_or, or_true, false_or, or_false, and_true, true_and, and_false, false_and, Nat.not_lt_zero, ↓(am_bi_of c1), ↓(am_bi_of d3), ↓(am_bi_of d2), ↓(am_bi_of d0), hle]
end A

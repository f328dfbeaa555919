/-! money: it balances -/
section A
variable {xl r tx L B Fi Se Mn Bu Pr : List Int32} {u : Option (List Int32)} {nB nl nb nx : Nat} {A D : Nat → List Int32} {F : Nat → Int32} {P : Nat → Nat} {h : am_H}
def pN (Pr : List Int32) (l : Nat) : Nat := (g Pr l).toNatClampNeg
def qN (r Pr : List Int32) (l : Nat) : Nat := (mPt (g Pr l) (g r 469)).toNatClampNeg
theorem pq_N (hC : Cx A F r nB nl nb nx) (hS : SaI r nB nl nb nx L B Fi Se Mn Bu Pr nl) {l : Nat} (hl : l < nl) : g Pr l = nI (pN Pr l) ∧ pN Pr l ≤ 1000000 ∧ mPt (g Pr l) (g r 469) = nI (qN r Pr l) ∧ qN r Pr l ≤ 500000 ∧ ((∀ b, b < nb → ¬ g Bu l = nI b) → pN Pr l = 0 ∧ qN r Pr l = 0) := by
  obtain ⟨p, p1, p2, p3⟩ := SaI_pr hC hS hl
  obtain ⟨s, s1, s2, s3⟩ := hC.2.2.2.2.2.2.2.2.2.1
  obtain ⟨m1, m2⟩ := mPt_N p2 s2
  have hd : p * s / 1000 ≤ 500000 := by
    have : p * s ≤ 1000000 * 500 := Nat.mul_le_mul p2 s2
    omega
  unfold pN qN
  rw [p3, s3, m2, nI_clamp (by omega), nI_clamp (by omega)]
  refine ⟨rfl, p2, rfl, hd, fun hb => ?_⟩
  have : p = 0 := by
    rcases SaI_bu hC.1 hS hl with ⟨-, z⟩ | ⟨b, b1, b2⟩
    · rw [p3, nI_eq' (by omega) (by omega)] at z; exact z
    · exact absurd b2 (hb b b1)
  subst this
  exact ⟨rfl, by rw [Nat.zero_mul]⟩
theorem pF_N (hC : Cx A F r nB nl nb nx) (hS : SaI r nB nl nb nx L B Fi Se Mn Bu Pr nl) (b : Nat) : ∀ n k s, k + n ≤ nl → s + n * 1500000 < 2 ^ 31 → pF r Bu Pr b n k (nI s) = nI (s + sm (fun l => g Bu l = nI b) (fun l => pN Pr l + qN r Pr l) n k) := by
  intro n
  induction n with
  | zero => intro k s _ _; rfl
  | succ n ih =>
    intro k s hk hs
    obtain ⟨h1, h2, h3, h4, -⟩ := pq_N hC hS (show k < nl by omega)
    have hk' : k + 1 + n ≤ nl := by omega
    have hs' : s + n * 1500000 < 2 ^ 31 := Nat.lt_of_le_of_lt (Nat.add_le_add_left (Nat.mul_le_mul_right _ (Nat.le_succ n)) s) hs
    rw [pF_s, sm_s, h3]
    by_cases c : g Bu k = nI b
    · rw [cif_t c, cif_t c, h1, nI_addS, nI_addS, ih (k + 1) _ (by omega) (by omega), Nat.add_assoc]
    · rw [cif_f c, cif_f c]
      exact (ih (k + 1) s hk' hs').trans (congrArg nI (by rw [Nat.zero_add]))
theorem pS_N (hC : Cx A F r nB nl nb nx) (hS : SaI r nB nl nb nx L B Fi Se Mn Bu Pr nl) : ∀ n b s, pS r Bu Pr nl n b (lN s) = lN (s + sN2 (fun b => sm (fun l => g Bu l = nI b) (fun l => pN Pr l + qN r Pr l) nl 0) n b) := by
  have hnl : nl ≤ 20 := hC.1.1.2.2.2.2.2.2.2.1
  intro n
  induction n with
  | zero => intro b s; rfl
  | succ n ih =>
    intro b s
    have hle := sm_le (p := fun l => g Bu l = nI b) (f := fun l => pN Pr l + qN r Pr l) (M := 1500000) nl 0 (fun j _ hj => by
      obtain ⟨-, h2, -, h4, -⟩ := pq_N hC hS (show j < nl by omega)
      show pN Pr j + qN r Pr j ≤ 1500000
      omega)
    show pS r Bu Pr nl n (b + 1) (lN s + (pF r Bu Pr b nl 0 (nI 0)).toInt64) = lN (s + (sm (fun l => g Bu l = nI b) (fun l => pN Pr l + qN r Pr l) nl 0 + sN2 (fun b => sm (fun l => g Bu l = nI b) (fun l => pN Pr l + qN r Pr l) nl 0) n (b + 1)))
    rw [pF_N hC hS b nl 0 0 (by omega) (by omega), Nat.zero_add, nI_l (by omega), lN_add, ih, Nat.add_assoc]
theorem bal_paid (hC : Cx A F r nB nl nb nx) (hS : SaI r nB nl nb nx L B Fi Se Mn Bu Pr nl) : pS r Bu Pr nl nb 0 0 = fL (fun _ => True) (mPart r Bu Pr 0) nl 0 0 + fL (fun _ => True) (mPart r Bu Pr 1) nl 0 0 := by
  have hnl : nl ≤ 20 := hC.1.1.2.2.2.2.2.2.2.1
  have hnb : nb ≤ 8 := hC.1.1.2.2.2.2.2.2.2.2.1
  have z : (0 : Int64) = lN 0 := rfl
  rw [z, pS_N hC hS nb 0 0, fL_N (f' := pN Pr) nl 0 0 (fun j _ hj => ?_), fL_N (f' := qN r Pr) nl 0 0 (fun j _ hj => ?_), lN_add]
  · rw [Nat.zero_add, Nat.zero_add, Nat.zero_add, ← sm_add, sm_by nl 0 (fun j _ hj i i' hi hi' h1 h2 => ?_)]
    · refine congrArg lN (sm_c nl 0 (fun j _ hj => ?_))
      obtain ⟨-, -, -, -, h5⟩ := pq_N hC hS (show j < nl by omega)
      rw [cif_t (p := True) trivial]
      by_cases c : ∃ b, b < nb ∧ g Bu j = nI b
      · rw [cif_t c]
      · rw [cif_f c]
        obtain ⟨e1, e2⟩ := h5 (fun b hb hh => c ⟨b, hb, hh⟩)
        show 0 = pN Pr j + qN r Pr j
        omega
    · rw [h1, nI_eq' (by omega) (by omega)] at h2
      exact h2
  · obtain ⟨h1, h2, h3, h4, -⟩ := pq_N hC hS (show j < nl by omega)
    exact ⟨h3, by omega⟩
  · obtain ⟨h1, h2, h3, h4, -⟩ := pq_N hC hS (show j < nl by omega)
    exact ⟨h1, by omega⟩
theorem bal_bought (hC : Cx A F r nB nl nb nx) (hS : SaI r nB nl nb nx L B Fi Se Mn Bu Pr nl) : sN2 (fun b => cN (fun l => g Bu l = nI b) nl 0) nb 0 = cN (fun l => ¬ g Bu l < nI 0) nl 0 := by
  have hnb : nb ≤ 8 := hC.1.1.2.2.2.2.2.2.2.2.1
  rw [sN2_c (g' := fun b => sm (fun l => g Bu l = nI b) (fun _ => 1) nl 0) nb 0 (fun j _ _ => cN_sm _ _ _), sm_by nl 0 (fun j _ hj i i' hi hi' h1 h2 => by rw [h1, nI_eq' (by omega) (by omega)] at h2; exact h2), cN_sm]
  refine sm_c nl 0 (fun j _ hj => ?_)
  rcases SaI_bu hC.1 hS (show j < nl by omega) with ⟨z, -⟩ | ⟨b, b1, b2⟩
  · rw [cif_f (p := ∃ b, b < nb ∧ g Bu j = nI b) (by rintro ⟨b, b1, b2⟩; rw [z] at b2; exact nI_nm5 (by omega) b2.symm), cif_f (p := ¬ g Bu j < nI 0) (fun w => w (by rw [z]; decide))]
  · rw [cif_t (p := ∃ b, b < nb ∧ g Bu j = nI b) ⟨b, b1, b2⟩, cif_t (p := ¬ g Bu j < nI 0) (by rw [b2]; exact nI_pos (by omega))]
theorem lg_h1 (a0 a1 a2 a3 a4 b0 b1 b2 b3 b4 c0 c1 c2 c3 c4 : Int64) : (((((0 + (a0 - b0 - c0)) + (a1 - b1 - c1)) + (a2 - b2 - c2)) + (a3 - b3 - c3)) + (a4 - b4 - c4)) = (a0 + a1 + a2 + a3 + a4) - (b0 + b1 + b2 + b3 + b4) - (c0 + c1 + c2 + c3 + c4) := by grind
theorem lg_h2 (a0 a1 a2 a3 a4 : Int64) : (((((0 + a0) + a1) + a2) + a3) + a4) = a0 + a1 + a2 + a3 + a4 := by grind
theorem lg_h3 (p q c f : Int64) : (p + q) - (p - c - f) = (q + c) + f := by grind
theorem l_money (hR : Rs xl D r tx u nB nl nb nx h) (hsel : ∀ l, l < nl → ∃ i, i < 5 ∧ g r (18 + l) = nI i) (hpos : 0 < nl) : ∃ A F P, am_cl m_L_money [.ref 1] h = some (some (.int (nI 1)), heap (ad A D) F P) ∧ Hd xl r tx u nB nl nb nx A F P := by
  classical
  obtain ⟨L, B, Fi, Se, Mn, Bu, Pr, hS⟩ := Rs_sv hR
  obtain ⟨A, F, P, e0, hH⟩ := R_q hR hS (m := m_Pa_sale) (xs := [.int (nI 0), .int (nI 1)]) (v := .int (g Pr 0)) (fun A F P A' F' hq => k_sale1 hq hpos)
  refine ⟨A, F, P, ?_, hH⟩
  have hQ := hH.Q hS D
  have hC := hQ.2.2.2.1
  have hM := hC.1
  have hnl : nl ≤ 20 := hM.1.2.2.2.2.2.2.2.1
  have hnb : nb ≤ 8 := hM.1.2.2.2.2.2.2.2.2.1
  have c0h := R_cx hR (m := m_Pa_count) (xs := [.int (nI 0)]) (fun A F P hC => k_count0 (P := P) hC)
  have c0 := k_count0 (P := P) hC
  have s1 := k_sale1 hQ hpos
  have hn0 : ¬ nl ≤ 0 := by omega
  have b29 := fun l1 l3 l5 l7 x1 x2 x3 u4 h => b_L_money_29 1 l1 l3 l5 l7 x1 x2 x3 u4 h
  have same : am_cl m_L_money [.ref 1] h = am_cl m_L_money [.ref 1] (heap (ad A D) F P) := by
    rw [e_L_money, e_L_money, b_L_money_19, b_L_money_19]
    simp (maxSteps := 1000000) (disch := (first | omega | (simp (disch := omega) only [up_eq, up_ne, List.length_set] <;> omega) | fail)) only [↓bif_d, nI_addS, nI_mulS, nI_subS, nI_lt', nI_le', nI_eq', up_eq, up_ne, up_up, up_sw, List.set_set, g_seq, g_sne, Nat.reduceEqDiff, ↓reduceIte, List.length_set, Nat.add_sub_cancel_left, Nat.add_sub_cancel, Nat.reduceLT, Nat.reduceLeDiff, ite_true, ite_false, if_true, if_false, not_true_eq_false, not_false_eq_true, Bool.and_true, Bool.true_and, true_or, or_true, false_or, or_false, and_true, true_and, and_false, false_and, Nat.not_lt_zero, ↓(am_bi_of c0h), ↓(am_bi_of c0), hn0]
    rw [b_L_money_29, b_L_money_29]
    simp (maxSteps := 1000000) (disch := (first | omega | (simp (disch := omega) only [up_eq, up_ne, List.length_set] <;> omega) | fail)) only [↓bif_d, nI_addS, nI_mulS, nI_subS, nI_lt', nI_le', nI_eq', up_eq, up_ne, up_up, up_sw, List.set_set, g_seq, g_sne, Nat.reduceEqDiff, ↓reduceIte, List.length_set, Nat.add_sub_cancel_left, Nat.add_sub_cancel, Nat.reduceLT, Nat.reduceLeDiff, ite_true, ite_false, if_true, if_false, not_true_eq_false, not_false_eq_true, Bool.and_true, Bool.true_and, true_or, or_true, false_or, or_false, and_true, true_and, and_false, false_and, Nat.not_lt_zero, ↓(am_bi_of e0), ↓(am_bi_of s1)]
  rw [same, e_L_money]
  have h19 := l_money19 (D := D) hH hS nl 0 0 0 0 0 0 (nI 0) (.float 0) (by omega)
  have h167 := l_money167 (D := D) hH hS (fL (fun _ => True) (mPart r Bu Pr 0) nl 0 0) (fL (fun _ => True) (mPart r Bu Pr 1) nl 0 0) (fL (fun _ => True) (mPart r Bu Pr 2) nl 0 0) (fL (fun _ => True) (mPart r Bu Pr 3) nl 0 0) (nI (0 + cN (fun l => ¬ g Bu l < nI 0) nl 0)) (sF (fun j => g r (78 + j)) nl 0 (nI 0)) nb 0 0 0 (.float 0) (.float 0) (by omega)
  rw [h19, h167, bal_paid hC hS.2, bal_bought hC hS.2, Nat.zero_add]
  -- the sellers
  have sA := fun s (hs : s < 5) => k_seller3 hQ hs
  have sB := fun s (hs : s < 5) => k_seller2 hQ hs
  have sC := fun s (hs : s < 5) => k_seller0 hQ hs
  have t3 : ∀ n : Nat, (Int64.toInt32 (Int32.toInt64 (nI n))) = nI n := fun n => Int32.toInt32_toInt64 (nI n)
  have A0 := sA 0 (by omega)
  have A1 := sA 1 (by omega)
  have A2 := sA 2 (by omega)
  have A3 := sA 3 (by omega)
  have A4 := sA 4 (by omega)
  have B0 := sB 0 (by omega)
  have B1 := sB 1 (by omega)
  have B2 := sB 2 (by omega)
  have B3 := sB 3 (by omega)
  have B4 := sB 4 (by omega)
  have C0 := sC 0 (by omega)
  have C1 := sC 1 (by omega)
  have C2 := sC 2 (by omega)
  have C3 := sC 3 (by omega)
  have C4 := sC 4 (by omega)
  have z5 : (0 + 0 + 0 + 0 + 0 : Int64) = 0 := rfl
  have five : ∀ c, fL (fun l => g r (18 + l) = nI 0) (mPart r Bu Pr c) nl 0 0 + fL (fun l => g r (18 + l) = nI 1) (mPart r Bu Pr c) nl 0 0 + fL (fun l => g r (18 + l) = nI 2) (mPart r Bu Pr c) nl 0 0 + fL (fun l => g r (18 + l) = nI 3) (mPart r Bu Pr c) nl 0 0 + fL (fun l => g r (18 + l) = nI 4) (mPart r Bu Pr c) nl 0 0 = fL (fun _ => True) (mPart r Bu Pr c) nl 0 0 := fun c => by
    have w := fL_five (s := fun l => g r (18 + l)) (f := mPart r Bu Pr c) nl 0 0 0 0 0 0 (fun j _ hj => hsel j (by omega))
    rw [z5] at w
    exact w
  have cfive : cN (fun l => g r (18 + l) = nI 0) nl 0 + cN (fun l => g r (18 + l) = nI 1) nl 0 + cN (fun l => g r (18 + l) = nI 2) nl 0 + cN (fun l => g r (18 + l) = nI 3) nl 0 + cN (fun l => g r (18 + l) = nI 4) nl 0 = nl := cN_five (s := fun l => g r (18 + l)) nl 0 (fun j _ hj => hsel j (by omega))
  have step : ∀ s, s < 5 → ∀ (l1 l3 l5 l7 l11 l14 l16 : Int64) (x9 x10 x13 x18 : Int32), am_ev m_L_money (307, [.ref 1, .long l1, .float 0, .long l3, .float 0, .long l5, .float 0, .long l7, .float 0, .int x9, .int x10, .long l11, .float 0, .int x13, .long l14, .float 0, .long l16, .float 0, .int x18, .int (nI s)], [], heap (ad A D) F P) = am_ev m_L_money (307, [.ref 1, .long l1, .float 0, .long l3, .float 0, .long l5, .float 0, .long l7, .float 0, .int x9, .int x10, .long l11, .float 0, .int x13, .long (l14 + (fL (fun l => g r (18 + l) = nI s) (mPart r Bu Pr 0) nl 0 0 - fL (fun l => g r (18 + l) = nI s) (mPart r Bu Pr 2) nl 0 0 - fL (fun l => g r (18 + l) = nI s) (mPart r Bu Pr 3) nl 0 0)), .float 0, .long (l16 + fL (fun l => g r (18 + l) = nI s) (mPart r Bu Pr 0) nl 0 0), .float 0, .int (x18 + nI (cN (fun l => g r (18 + l) = nI s) nl 0)), .int (nI (s + 1))], [], heap (ad A D) F P) := by
    intro s hs l1 l3 l5 l7 l11 l14 l16 x9 x10 x13 x18
    have a1 := sA s hs
    have a2 := sB s hs
    have a3 := sC s hs
    have hle : ¬ 5 ≤ s := by omega
    have h3 := t3 (cN (fun l => g r (18 + l) = nI s) nl 0)
    rw [b_L_money_307]
    simp (maxSteps := 1000000) (disch := (first | omega | (simp (disch := omega) only [up_eq, up_ne, List.length_set] <;> omega) | fail)) only [↓bif_d, nI_addS, nI_mulS, nI_subS, nI_lt', nI_le', nI_eq', up_eq, up_ne, up_up, up_sw, List.set_set, g_seq, g_sne, Nat.reduceEqDiff, ↓reduceIte, List.length_set, Nat.add_sub_cancel_left, Nat.add_sub_cancel, Nat.reduceLT, Nat.reduceLeDiff, ite_true, ite_false, if_true, if_false, not_true_eq_false, not_false_eq_true, Bool.and_true, Bool.true_and, true_or, or_true, false_or, or_false, and_true, true_and, and_false, false_and, Nat.not_lt_zero, ↓(am_bl_of a1), ↓(am_bl_of a2), ↓(am_bl_of a3), hle, h3]
  rw [step 0 (by omega), step 1 (by omega), step 2 (by omega), step 3 (by omega), step 4 (by omega), lg_h1, lg_h2]
  rw [five 0, five 2, five 3, nI_addS, nI_addS, nI_addS, nI_addS, nI_addS, show 0 + cN (fun l => g r (18 + l) = nI 0) nl 0 + cN (fun l => g r (18 + l) = nI 1) nl 0 + cN (fun l => g r (18 + l) = nI 2) nl 0 + cN (fun l => g r (18 + l) = nI 3) nl 0 + cN (fun l => g r (18 + l) = nI 4) nl 0 = nl by omega]
  -- the account
  have a0 := k_account0 hQ
  have a1 := k_account1 hQ
  have a2 := k_account2 hQ
  have a3 := k_account3 hQ
  have a4 := k_account4 hQ
  have a5 := k_account5 hQ
  have a6 := k_account6 hQ
  have a7 := k_account7 hQ
  have n3 := k_count3 hQ
  have n4 := k_count4 (P := P) hC
  have s5 := k_seller_e (P := P) hC (nI 5) (nI 0) (Or.inr (by decide))
  have s4 := k_seller4 hQ (show 0 < 5 by omega)
  have lo := l_lost (heap (ad A D) F P)
  have hr := lg_h3 (fL (fun _ => True) (mPart r Bu Pr 0) nl 0 0) (fL (fun _ => True) (mPart r Bu Pr 1) nl 0 0) (fL (fun _ => True) (mPart r Bu Pr 2) nl 0 0) (fL (fun _ => True) (mPart r Bu Pr 3) nl 0 0)
  have hr' := eq_true hr
  have n10 : ¬ nI 1 = nI 0 := by decide
  rw [b_L_money_307]
  simp (maxSteps := 1000000) (disch := (first | omega | (simp (disch := omega) only [up_eq, up_ne, List.length_set] <;> omega) | fail)) only [↓bif_d, ↓lgc0, nI_addS, nI_mulS, nI_subS, nI_lt', nI_le', nI_eq', up_eq, up_ne, up_up, up_sw, List.set_set, g_seq, g_sne, Nat.reduceEqDiff, ↓reduceIte, List.length_set, Nat.add_sub_cancel_left, Nat.add_sub_cancel, Nat.reduceLT, Nat.reduceLeDiff, ite_true, ite_false, if_true, if_false, not_true_eq_false, not_false_eq_true, Bool.and_true, Bool.true_and, true_or, or_true, false_or, or_false, and_true, true_and, and_false, false_and, Nat.not_lt_zero, ↓(am_bl_of a0), ↓(am_bl_of a1), ↓(am_bl_of a2), ↓(am_bl_of a3), ↓(am_bl_of a4), ↓(am_bl_of a5), ↓(am_bl_of a6), ↓(am_bl_of a7), ↓(am_bi_of n3), ↓(am_bi_of n4), ↓(am_bi_of c0), ↓(am_bl_of s5), ↓(am_bl_of s4), ↓(am_bi_of lo), hr', n10, ↓b_L_money_410, ↓b_L_money_430, ↓b_L_money_496]
end A

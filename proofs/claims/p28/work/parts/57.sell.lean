/-! THE CLASS'S SALE: a lot is sold -/
theorem min_eq (w p : Int32) : (if w ≤ p then w else p) = am_min p w := by
  unfold am_min
  by_cases h : w < p
  · rw [if_pos (Int32.le_of_lt h), if_pos h]
  · rw [if_neg h]
    by_cases h2 : w ≤ p
    · rw [if_pos h2]; exact Int32.le_antisymm h2 (Int32.not_lt.mp h)
    · rw [if_neg h2]
theorem max_eq (a n : Int32) : (if a ≤ n then n else a) = am_max a n := by
  unfold am_max
  by_cases h : a < n
  · rw [if_pos (Int32.le_of_lt h), if_pos h]
  · rw [if_neg h]
    by_cases h2 : a ≤ n
    · rw [if_pos h2]; exact Int32.le_antisymm (Int32.not_lt.mp h) h2
    · rw [if_neg h2]
theorem mPr_5 {r : List Int32} {nB : Nat} {L : List Int32} {l f : Nat} (hf : f < 2 ^ 31) : mPr r nB L l (nI f) (-nI 5) = am_min (mAs r nB l) (mWo r nB L f) := by
  have h5 : (-nI 5 : Int32) < nI 0 := by decide
  show (if mWo r nB L (nI f).toNatClampNeg ≤ (if (-nI 5 : Int32) < nI 0 then mAs r nB l else _) then mWo r nB L (nI f).toNatClampNeg else (if (-nI 5 : Int32) < nI 0 then mAs r nB l else _)) = _
  rw [if_pos h5, nI_clamp hf, min_eq]
theorem mPr_y {r : List Int32} {nB : Nat} {L : List Int32} {l f e : Nat} (hf : f < 2 ^ 31) (he : e < 2 ^ 31) : mPr r nB L l (nI f) (nI e) = am_min (am_max (mAs r nB l) (mNx r nB (mWo r nB L e))) (mWo r nB L f) := by
  have h5 : ¬ nI e < nI 0 := nI_pos he
  show (if mWo r nB L (nI f).toNatClampNeg ≤ (if nI e < nI 0 then _ else (if mAs r nB l ≤ mNx r nB (mWo r nB L (nI e).toNatClampNeg) then mNx r nB (mWo r nB L (nI e).toNatClampNeg) else mAs r nB l)) then mWo r nB L (nI f).toNatClampNeg else (if nI e < nI 0 then _ else (if mAs r nB l ≤ mNx r nB (mWo r nB L (nI e).toNatClampNeg) then mNx r nB (mWo r nB L (nI e).toNatClampNeg) else mAs r nB l))) = _
  rw [if_neg h5, nI_clamp hf, nI_clamp he, max_eq, min_eq]
theorem mMn_le8 {B : List Int32} {l : Nat} : mMn B l 8 0 ≤ 8 := by rw [mMn_bl]; exact bl_le _ 8
theorem bl_ext {f : Nat → Int32} {m : Nat} : ∀ n, (∀ j, m ≤ j → j < m + n → f j < nI 0) → bl f (m + n) = bl f m := by
  intro n
  induction n with
  | zero => intro _; rfl
  | succ n ih =>
    intro h
    show bl f (m + n + 1) = bl f m
    rw [bl_s, if_pos (h (m + n) (by omega) (by omega)), ih (fun j h1 h2 => h j h1 (by omega))]
section X
variable {A : Nat → List Int32} {F : Nat → Int32} {P : Nat → Nat} {r : List Int32} {nB nl nb nx : Nat} {L B Fi Se Mn Bu Pr : List Int32}
theorem cs_bidR {k p n : Nat} (hC : Cx A F r nB nl nb nx) (hW : LenW A) (hk : k < nl) (hn : n ≤ 8) (h1 : g (A 172) k = nI n) (hp : p < n) : am_cl m_Sale_bidAt [.ref 164, .int (nI k), .int (nI p)] (heap A F P) = some (some (.int (g (A 176) (8 * k + p))), heap A F P) := by
  obtain ⟨hM, hB, ⟨n1, n2, n3, n4⟩, l1, hCL, hCM, hCX, hCS, hS0, hS1, hS2, hS3⟩ := id hC
  obtain ⟨c5, c7, c10, c12, c14, c16, c18, c21, c23, c25, c27, c29, c31, c33⟩ := LenS2 l1
  have hnl : nl ≤ 20 := hM.1.2.2.2.2.2.2.2.1
  have hnb : nb ≤ 8 := hM.1.2.2.2.2.2.2.2.2.1
  have hnx : nx ≤ 60 := hM.1.2.2.2.2.2.2.2.2.2
  have hnB : nB ≤ 8 := hM.1.2.2.2.2.2.2.1
  obtain ⟨w166, w168, w170, w172, w174, w176, w178, w180, w182⟩ := id hW
  have hk8 : k * 8 = 8 * k := Nat.mul_comm _ _
  have hle : ¬ n ≤ p := by omega
  rw [e_Sale_bidAt 164 _ _ _ rfl]
  simp (maxSteps := 2000000) (disch := (first | omega | (simp (disch := omega) only [up_eq, up_ne, cpA_o, cpF_o, List.length_set] <;> omega) | fail)) only [ob_s, am_bi_s, am_bv_s, am_bl_s, ↓bif_d, lits, nI_addS, nI_mulS, nI_subS, nI_lt', nI_le', nI_eq', ↓rd_nI, ↓wrH, up_eq, up_ne, up_up, up_sw, List.set_set, g_seq, g_sne, Nat.reduceEqDiff, ↓reduceIte, List.length_set, Nat.add_sub_cancel_left, Nat.add_sub_cancel, ite_true, ite_false, if_true, if_false, not_true_eq_false, not_false_eq_true, Bool.and_true, Bool.true_and, true_or, or_true, false_or, or_false, and_true, true_and, and_false, false_and, Nat.not_lt_zero, hpRX, hpIX, hpFX, hpLX, hpSX, ↓rgX, ↓rpX, Nat.reduceLeDiff, Nat.reduceLT, Nat.reduceAdd, Nat.reduceMul, Nat.reduceSub, h1, hle, hk8]
theorem cs_bidAt {k p : Nat} (hC : Cx A F r nB nl nb nx) (hW : LenW A) (hk : k < nl) (hB8 : ∀ b, b < 8 → isB (g B (8 * k + b)) nx) (h1 : g (A 172) k = nI (mMn B k 8 0)) (h2 : ∀ p, p < mMn B k 8 0 → g (A 176) (8 * k + p) = mRk r nB L B k (nI p) 8 0) (hp : p < 2 ^ 31) : am_cl m_Sale_bidAt [.ref 164, .int (nI k), .int (nI p)] (heap A F P) = some (some (.int (mRk r nB L B k (nI p) 8 0)), heap A F P) := by
  have hm8 := mMn_le8 (B := B) (l := k)
  by_cases c : p < mMn B k 8 0
  · rw [cs_bidR hC hW hk hm8 h1 c, h2 p c]
  · have hC := hC
    obtain ⟨hM, hB, ⟨n1, n2, n3, n4⟩, l1, hCL, hCM, hCX, hCS, hS0, hS1, hS2, hS3⟩ := id hC
    obtain ⟨c5, c7, c10, c12, c14, c16, c18, c21, c23, c25, c27, c29, c31, c33⟩ := LenS2 l1
    have hnl : nl ≤ 20 := hM.1.2.2.2.2.2.2.2.1
    have hnb : nb ≤ 8 := hM.1.2.2.2.2.2.2.2.2.1
    have hnx : nx ≤ 60 := hM.1.2.2.2.2.2.2.2.2.2
    have hnB : nB ≤ 8 := hM.1.2.2.2.2.2.2.1
    obtain ⟨w166, w168, w170, w172, w174, w176, w178, w180, w182⟩ := id hW
    have e := mRk_far (r := r) (nB := nB) (L := L) (p := nI p) hnx hB8 (fun j hj z => c (by rw [nI_eq' (by omega) hp] at z; omega))
    have hle : mMn B k 8 0 ≤ p := by omega
    rw [e, e_Sale_bidAt 164 _ _ _ rfl]
    simp (maxSteps := 2000000) (disch := (first | omega | (simp (disch := omega) only [up_eq, up_ne, cpA_o, cpF_o, List.length_set] <;> omega) | fail)) only [ob_s, am_bi_s, am_bv_s, am_bl_s, ↓bif_d, lits, nI_addS, nI_mulS, nI_subS, nI_lt', nI_le', nI_eq', ↓rd_nI, ↓wrH, up_eq, up_ne, up_up, up_sw, List.set_set, g_seq, g_sne, Nat.reduceEqDiff, ↓reduceIte, List.length_set, Nat.add_sub_cancel_left, Nat.add_sub_cancel, ite_true, ite_false, if_true, if_false, not_true_eq_false, not_false_eq_true, Bool.and_true, Bool.true_and, true_or, or_true, false_or, or_false, and_true, true_and, and_false, false_and, Nat.not_lt_zero, hpRX, hpIX, hpFX, hpLX, hpSX, ↓rgX, ↓rpX, Nat.reduceLeDiff, Nat.reduceLT, Nat.reduceAdd, Nat.reduceMul, Nat.reduceSub, h1, hle]
theorem cs_state {k : Nat} {v : Int32} (hC : Cx A F r nB nl nb nx) (hW : LenW A) (hk : k < nl) (hv : isL r nb nx k v) (hw : ∀ y, y < nx → lotN r y = k → g (A 178) y = mWo r nB L y) : am_cl m_Sale_stateOf [.ref 164, .int (nI k), .int v] (heap A F P) = some (some (.int (cif (g r (78 + k) = nI 1) (nI 3) (cif (v = -nI 5) (nI 1) (cif (mWo r nB L v.toNatClampNeg < g r (58 + k)) (nI 2) (nI 0))))), heap A F P) := by
  obtain ⟨hM, hB, ⟨n1, n2, n3, n4⟩, l1, hCL, hCM, hCX, hCS, hS0, hS1, hS2, hS3⟩ := id hC
  obtain ⟨c5, c7, c10, c12, c14, c16, c18, c21, c23, c25, c27, c29, c31, c33⟩ := LenS2 l1
  have hnl : nl ≤ 20 := hM.1.2.2.2.2.2.2.2.1
  have hnb : nb ≤ 8 := hM.1.2.2.2.2.2.2.2.2.1
  have hnx : nx ≤ 60 := hM.1.2.2.2.2.2.2.2.2.2
  have hnB : nB ≤ 8 := hM.1.2.2.2.2.2.2.1
  obtain ⟨w166, w168, w170, w172, w174, w176, w178, w180, w182⟩ := id hW
  have e16 := (hCL k hk).2.2.2.1
  have e14 := (hCL k hk).2.2.1
  rw [e_Sale_stateOf 164 _ _ _ rfl]
  by_cases c1 : g r (78 + k) = nI 1
  · rw [cif_t c1]
    simp (maxSteps := 2000000) (disch := (first | omega | (simp (disch := omega) only [up_eq, up_ne, cpA_o, cpF_o, List.length_set] <;> omega) | fail)) only [ob_s, am_bi_s, am_bv_s, am_bl_s, ↓bif_d, lits, nI_addS, nI_mulS, nI_subS, nI_lt', nI_le', nI_eq', ↓rd_nI, ↓wrH, up_eq, up_ne, up_up, up_sw, List.set_set, g_seq, g_sne, Nat.reduceEqDiff, ↓reduceIte, List.length_set, Nat.add_sub_cancel_left, Nat.add_sub_cancel, ite_true, ite_false, if_true, if_false, not_true_eq_false, not_false_eq_true, Bool.and_true, Bool.true_and, true_or, or_true, false_or, or_false, and_true, true_and, and_false, false_and, Nat.not_lt_zero, hpRX, hpIX, hpFX, hpLX, hpSX, ↓rgX, ↓rpX, Nat.reduceLeDiff, Nat.reduceLT, Nat.reduceAdd, Nat.reduceMul, Nat.reduceSub, e16, c1]
  · rw [cif_f c1]
    rcases hv with z | ⟨y, y1, y2, y3, y4⟩
    · subst z
      rw [cif_t rfl]
      simp (maxSteps := 2000000) (disch := (first | omega | (simp (disch := omega) only [up_eq, up_ne, cpA_o, cpF_o, List.length_set] <;> omega) | fail)) only [ob_s, am_bi_s, am_bv_s, am_bl_s, ↓bif_d, lits, nI_addS, nI_mulS, nI_subS, nI_lt', nI_le', nI_eq', ↓rd_nI, ↓wrH, up_eq, up_ne, up_up, up_sw, List.set_set, g_seq, g_sne, Nat.reduceEqDiff, ↓reduceIte, List.length_set, Nat.add_sub_cancel_left, Nat.add_sub_cancel, ite_true, ite_false, if_true, if_false, not_true_eq_false, not_false_eq_true, Bool.and_true, Bool.true_and, true_or, or_true, false_or, or_false, and_true, true_and, and_false, false_and, Nat.not_lt_zero, hpRX, hpIX, hpFX, hpLX, hpSX, ↓rgX, ↓rpX, Nat.reduceLeDiff, Nat.reduceLT, Nat.reduceAdd, Nat.reduceMul, Nat.reduceSub, e16, c1]
    · subst y2
      have h5 : ¬ nI y = -nI 5 := nI_nm5 (by omega)
      have ew := hw y y1 y3
      rw [cif_f h5, nI_clamp (by omega)]
      by_cases c2 : mWo r nB L y < g r (58 + k)
      · have c3 : ¬ g r (58 + k) ≤ mWo r nB L y := Int32.not_le.mpr c2
        rw [cif_t c2]
        simp (maxSteps := 2000000) (disch := (first | omega | (simp (disch := omega) only [up_eq, up_ne, cpA_o, cpF_o, List.length_set] <;> omega) | fail)) only [ob_s, am_bi_s, am_bv_s, am_bl_s, ↓bif_d, lits, nI_addS, nI_mulS, nI_subS, nI_lt', nI_le', nI_eq', ↓rd_nI, ↓wrH, up_eq, up_ne, up_up, up_sw, List.set_set, g_seq, g_sne, Nat.reduceEqDiff, ↓reduceIte, List.length_set, Nat.add_sub_cancel_left, Nat.add_sub_cancel, ite_true, ite_false, if_true, if_false, not_true_eq_false, not_false_eq_true, Bool.and_true, Bool.true_and, true_or, or_true, false_or, or_false, and_true, true_and, and_false, false_and, Nat.not_lt_zero, hpRX, hpIX, hpFX, hpLX, hpSX, ↓rgX, ↓rpX, Nat.reduceLeDiff, Nat.reduceLT, Nat.reduceAdd, Nat.reduceMul, Nat.reduceSub, e16, c1, h5, ew, e14, c3]
      · have c3 : g r (58 + k) ≤ mWo r nB L y := Int32.not_lt.mp c2
        rw [cif_f c2]
        simp (maxSteps := 2000000) (disch := (first | omega | (simp (disch := omega) only [up_eq, up_ne, cpA_o, cpF_o, List.length_set] <;> omega) | fail)) only [ob_s, am_bi_s, am_bv_s, am_bl_s, ↓bif_d, lits, nI_addS, nI_mulS, nI_subS, nI_lt', nI_le', nI_eq', ↓rd_nI, ↓wrH, up_eq, up_ne, up_up, up_sw, List.set_set, g_seq, g_sne, Nat.reduceEqDiff, ↓reduceIte, List.length_set, Nat.add_sub_cancel_left, Nat.add_sub_cancel, ite_true, ite_false, if_true, if_false, not_true_eq_false, not_false_eq_true, Bool.and_true, Bool.true_and, true_or, or_true, false_or, or_false, and_true, true_and, and_false, false_and, Nat.not_lt_zero, hpRX, hpIX, hpFX, hpLX, hpSX, ↓rgX, ↓rpX, Nat.reduceLeDiff, Nat.reduceLT, Nat.reduceAdd, Nat.reduceMul, Nat.reduceSub, e16, c1, h5, ew, e14, c3]
theorem cs_price {k f : Nat} (hC : Cx A F r nB nl nb nx) (hW : LenW A) (hS : SaI r nB nl nb nx L B Fi Se Mn Bu Pr nl) (hk : k < nl) (hB8 : ∀ b, b < 8 → isL r nb nx k (g B (8 * k + b))) (h1 : g (A 172) k = nI (mMn B k 8 0)) (h2 : ∀ p, p < mMn B k 8 0 → g (A 176) (8 * k + p) = mRk r nB L B k (nI p) 8 0) (hf : f < nx) (hfk : lotN r f = k) (hf0 : mRk r nB L B k (nI 0) 8 0 = nI f) (has : g (A 174) k = mAs r nB k) (hw : ∀ y, y < nx → lotN r y = k → g (A 178) y = mWo r nB L y) : am_cl m_Sale_priceOf [.ref 164, .int (nI k)] (heap A F P) = some (some (.int (mPr r nB L k (nI f) (mRk r nB L B k (nI 1) 8 0))), heap A F P) := by
  have hb0 := cs_bidAt (P := P) (r := r) (L := L) hC hW hk (fun b hb => (hB8 b hb).isB) h1 h2 (p := 0) (by omega)
  have hb1 := cs_bidAt (P := P) (r := r) (L := L) hC hW hk (fun b hb => (hB8 b hb).isB) h1 h2 (p := 1) (by omega)
  rw [hf0] at hb0
  obtain ⟨hM, hB, ⟨n1, n2, n3, n4⟩, l1, hCL, hCM, hCX, hCS, hS0, hS1, hS2, hS3⟩ := id hC
  obtain ⟨c5, c7, c10, c12, c14, c16, c18, c21, c23, c25, c27, c29, c31, c33⟩ := LenS2 l1
  have hnl : nl ≤ 20 := hM.1.2.2.2.2.2.2.2.1
  have hnb : nb ≤ 8 := hM.1.2.2.2.2.2.2.2.2.1
  have hnx : nx ≤ 60 := hM.1.2.2.2.2.2.2.2.2.2
  have hnB : nB ≤ 8 := hM.1.2.2.2.2.2.2.1
  obtain ⟨w166, w168, w170, w172, w174, w176, w178, w180, w182⟩ := id hW
  have ef := hw f hf hfk
  rw [e_Sale_priceOf 164 _ _ rfl]
  rcases mRk_isL (r := r) (nB := nB) (L := L) (p := nI 1) hB8 8 0 (by omega) with z | ⟨y, y1, y2, y3, y4⟩
  · rw [z] at hb1
    rw [z, mPr_5 (by omega)]
    simp (maxSteps := 2000000) (disch := (first | omega | (simp (disch := omega) only [up_eq, up_ne, cpA_o, cpF_o, List.length_set] <;> omega) | fail)) only [ob_s, am_bi_s, am_bv_s, am_bl_s, ↓bif_d, lits, nI_addS, nI_mulS, nI_subS, nI_lt', nI_le', nI_eq', ↓rd_nI, ↓wrH, up_eq, up_ne, up_up, up_sw, List.set_set, g_seq, g_sne, Nat.reduceEqDiff, ↓reduceIte, List.length_set, Nat.add_sub_cancel_left, Nat.add_sub_cancel, ite_true, ite_false, if_true, if_false, not_true_eq_false, not_false_eq_true, Bool.and_true, Bool.true_and, true_or, or_true, false_or, or_false, and_true, true_and, and_false, false_and, Nat.not_lt_zero, hpRX, hpIX, hpFX, hpLX, hpSX, ↓rgX, ↓rpX, Nat.reduceLeDiff, Nat.reduceLT, Nat.reduceAdd, Nat.reduceMul, Nat.reduceSub, has, hb1, hb0, ef]
  · rw [y2] at hb1
    rw [y2, mPr_y (by omega) (by omega)]
    have h5 : ¬ nI y = -nI 5 := nI_nm5 (by omega)
    have ey := hw y y1 y3
    have hLy := SaI_left hC hS k (by omega) (byN r y) y4
    obtain ⟨p, q, a, p1, p2, q1, p3, q3, ea, hwy, hwa⟩ := mWo_N (L := L) hC y1 (by rw [y3]; exact hLy)
    have ha1 : a ≤ 1000000 := by rw [ea]; split <;> omega
    have hnx' : am_cl m_Steps_next [.ref 3, .int (mWo r nB L y)] (heap A F P) = some (some (.int (mNx r nB (mWo r nB L y))), heap A F P) := by
      rw [hwy, mNx_N hB (by omega)]
      exact s_Steps_next hB c5 c7 n1 (by omega)
    simp (maxSteps := 2000000) (disch := (first | omega | (simp (disch := omega) only [up_eq, up_ne, cpA_o, cpF_o, List.length_set] <;> omega) | fail)) only [ob_s, am_bi_s, am_bv_s, am_bl_s, ↓bif_d, lits, nI_addS, nI_mulS, nI_subS, nI_lt', nI_le', nI_eq', ↓rd_nI, ↓wrH, up_eq, up_ne, up_up, up_sw, List.set_set, g_seq, g_sne, Nat.reduceEqDiff, ↓reduceIte, List.length_set, Nat.add_sub_cancel_left, Nat.add_sub_cancel, ite_true, ite_false, if_true, if_false, not_true_eq_false, not_false_eq_true, Bool.and_true, Bool.true_and, true_or, or_true, false_or, or_false, and_true, true_and, and_false, false_and, Nat.not_lt_zero, hpRX, hpIX, hpFX, hpLX, hpSX, ↓rgX, ↓rpX, Nat.reduceLeDiff, Nat.reduceLT, Nat.reduceAdd, Nat.reduceMul, Nat.reduceSub, has, hb1, hb0, ef, ey, h5, hnx']
theorem lc_sell93 {k n : Nat} {O : List Nat} (hC : Cx A F r nB nl nb nx) (hW : LenW A) (hk : k < nl) (hn : n ≤ 8) (hOn : O.length = n) (h1 : g (A 172) k = nI n) (h2 : ∀ j, j < n → g (A 176) (8 * k + j) = nI (od O j)) (hOx : ∀ y, y ∈ O → y < nx) (v s : Int32) : ∀ m p (Fa : List Int32), n ≤ p + m → p ≤ 8 → Fa.length = 60 → ∃ Fa' : List Int32, Fa'.length = 60 ∧ (∀ y, (∃ j, p ≤ j ∧ j < n ∧ od O j = y) → g Fa' y = nI 7) ∧ (∀ y, ¬ (∃ j, p ≤ j ∧ j < n ∧ od O j = y) → g Fa' y = g Fa y) ∧ am_ev m_Sale_sell (93, [.ref 164, .int (nI k), .int v, .int s, .int (nI p)], [], heap (up A 180 Fa) F P) = some (none, heap (up A 180 Fa') F P) := by
  obtain ⟨hM, hB, ⟨n1, n2, n3, n4⟩, l1, hCL, hCM, hCX, hCS, hS0, hS1, hS2, hS3⟩ := id hC
  obtain ⟨c5, c7, c10, c12, c14, c16, c18, c21, c23, c25, c27, c29, c31, c33⟩ := LenS2 l1
  have hnl : nl ≤ 20 := hM.1.2.2.2.2.2.2.2.1
  have hnb : nb ≤ 8 := hM.1.2.2.2.2.2.2.2.2.1
  have hnx : nx ≤ 60 := hM.1.2.2.2.2.2.2.2.2.2
  have hnB : nB ≤ 8 := hM.1.2.2.2.2.2.2.1
  obtain ⟨w166, w168, w170, w172, w174, w176, w178, w180, w182⟩ := id hW
  have fin : ∀ p (Fa : List Int32), n ≤ p → p ≤ 8 → Fa.length = 60 → ∃ Fa' : List Int32, Fa'.length = 60 ∧ (∀ y, (∃ j, p ≤ j ∧ j < n ∧ od O j = y) → g Fa' y = nI 7) ∧ (∀ y, ¬ (∃ j, p ≤ j ∧ j < n ∧ od O j = y) → g Fa' y = g Fa y) ∧ am_ev m_Sale_sell (93, [.ref 164, .int (nI k), .int v, .int s, .int (nI p)], [], heap (up A 180 Fa) F P) = some (none, heap (up A 180 Fa') F P) := by
    intro p Fa hp hp8 hFa
    refine ⟨Fa, hFa, fun y ⟨j, z1, z2, _⟩ => by omega, fun y _ => rfl, ?_⟩
    rw [b_Sale_sell_93]
    simp (maxSteps := 2000000) (disch := (first | omega | (simp (disch := omega) only [up_eq, up_ne, cpA_o, cpF_o, List.length_set] <;> omega) | fail)) only [ob_s, am_bi_s, am_bv_s, am_bl_s, ↓bif_d, lits, nI_addS, nI_mulS, nI_subS, nI_lt', nI_le', nI_eq', ↓rd_nI, ↓wrH, up_eq, up_ne, up_up, up_sw, List.set_set, g_seq, g_sne, Nat.reduceEqDiff, ↓reduceIte, List.length_set, Nat.add_sub_cancel_left, Nat.add_sub_cancel, ite_true, ite_false, if_true, if_false, not_true_eq_false, not_false_eq_true, Bool.and_true, Bool.true_and, true_or, or_true, false_or, or_false, and_true, true_and, and_false, false_and, Nat.not_lt_zero, hpRX, hpIX, hpFX, hpLX, hpSX, ↓rgX, ↓rpX, Nat.reduceLeDiff, Nat.reduceLT, Nat.reduceAdd, Nat.reduceMul, Nat.reduceSub, h1, hp]
  intro m
  induction m with
  | zero => intro p Fa hp hp8 hFa; exact fin p Fa (by omega) hp8 hFa
  | succ m ih =>
    intro p Fa hp hp8 hFa
    by_cases c : n ≤ p
    · exact fin p Fa c hp8 hFa
    · have ho := hOx _ (od_mem (show p < O.length by omega))
      have hb : am_cl m_Sale_bidAt [.ref 164, .int (nI k), .int (nI p)] (heap (up A 180 Fa) F P) = some (some (.int (nI (od O p))), heap (up A 180 Fa) F P) := by
        have := cs_bidR (A := up A 180 Fa) (P := P) (p := p) (Cx_c (fun j hj => up_ne _ _ (by omega)) (fun _ _ => rfl) hC) (by unfold LenW; simp (disch := (first | omega | fail)) only [st_e, sf_e, Nat.reduceAdd, Nat.reduceMul, up_eq, up_ne, cpA_o, cpF_o]; exact ⟨w166, w168, w170, w172, w174, w176, w178, hFa, w182⟩) hk hn (by simp (disch := (first | omega | fail)) only [st_e, sf_e, Nat.reduceAdd, Nat.reduceMul, up_eq, up_ne, cpA_o, cpF_o]; exact h1) (by omega)
        rw [this]
        simp (disch := (first | omega | fail)) only [st_e, sf_e, Nat.reduceAdd, Nat.reduceMul, up_eq, up_ne, cpA_o, cpF_o]
        rw [h2 p (by omega)]
      obtain ⟨Fa', q1, q2, q3, q4⟩ := ih (p + 1) (Fa.set (od O p) (nI 7)) (by omega) (by omega) (by rw [List.length_set]; exact hFa)
      refine ⟨Fa', q1, fun y ⟨j, z1, z2, z3⟩ => ?_, fun y hy => ?_, ?_⟩
      · by_cases d : ∃ j, p + 1 ≤ j ∧ j < n ∧ od O j = y
        · exact q2 y d
        · rw [q3 y d]
          have : j = p := by
            rcases Nat.eq_or_lt_of_le z1 with w | w
            · exact w.symm
            · exact absurd ⟨j, w, z2, z3⟩ d
          subst this
          rw [← z3]
          exact g_seq (by omega)
      · rw [q3 y (fun ⟨j, z1, z2, z3⟩ => hy ⟨j, by omega, z2, z3⟩)]
        exact g_sne (by omega) (fun z => hy ⟨p, Nat.le_refl _, by omega, z.symm⟩)
      · rw [b_Sale_sell_93]
        simp (maxSteps := 2000000) (disch := (first | omega | (simp (disch := omega) only [up_eq, up_ne, cpA_o, cpF_o, List.length_set] <;> omega) | fail)) only [ob_s, am_bi_s, am_bv_s, am_bl_s, ↓bif_d, lits, nI_addS, nI_mulS, nI_subS, nI_lt', nI_le', nI_eq', ↓rd_nI, ↓wrH, up_eq, up_ne, up_up, up_sw, List.set_set, g_seq, g_sne, Nat.reduceEqDiff, ↓reduceIte, List.length_set, Nat.add_sub_cancel_left, Nat.add_sub_cancel, ite_true, ite_false, if_true, if_false, not_true_eq_false, not_false_eq_true, Bool.and_true, Bool.true_and, true_or, or_true, false_or, or_false, and_true, true_and, and_false, false_and, Nat.not_lt_zero, hpRX, hpIX, hpFX, hpLX, hpSX, ↓rgX, ↓rpX, Nat.reduceLeDiff, Nat.reduceLT, Nat.reduceAdd, Nat.reduceMul, Nat.reduceSub, h1, c, hb, q4]
/-- the fate of a bid, by the reason against it -/
theorem mFa_eq (hC : Cx A F r nB nl nb nx) (hS : SaI r nB nl nb nx L B Fi Se Mn Bu Pr nl) {x : Nat} (hx : x < nx) : mFa r nB L B Fi Bu x = cif (mRe r nB L Bu Fi x = nI 0) (cif (g B (8 * lotN r x + byN r x) = nI x) (cif (g Fi (lotN r x) = nI x) (cif (g Bu (lotN r x) < nI 0) (nI 8) (nI 0)) (nI 7)) (nI 6)) (mRe r nB L Bu Fi x) := by
  obtain ⟨hM, hB, ⟨n1, n2, n3, n4⟩, l1, hCL, hCM, hCX, hCS, hS0, hS1, hS2, hS3⟩ := id hC
  obtain ⟨c5, c7, c10, c12, c14, c16, c18, c21, c23, c25, c27, c29, c31, c33⟩ := LenS2 l1
  have hnl : nl ≤ 20 := hM.1.2.2.2.2.2.2.2.1
  have hnb : nb ≤ 8 := hM.1.2.2.2.2.2.2.2.2.1
  have hnx : nx ≤ 60 := hM.1.2.2.2.2.2.2.2.2.2
  have hnB : nB ≤ 8 := hM.1.2.2.2.2.2.2.1
  obtain ⟨⟨x1, x2⟩, x3, x4⟩ := hM.2.2 x hx
  have h0 := mRe_0 (Bu := Bu) (Fi := Fi) hC hx (SaI_left hC hS (lotN r x) (by omega) (byN r x) x3)
  have n10 : ¬ nI 1 = nI 0 := by decide
  have n20 : ¬ nI 2 = nI 0 := by decide
  have n30 : ¬ nI 3 = nI 0 := by decide
  have n40 : ¬ nI 4 = nI 0 := by decide
  have n50 : ¬ nI 5 = nI 0 := by decide
  unfold mFa
  by_cases c1 : g r (408 + x) = nI 1
  · have e : mRe r nB L Bu Fi x = nI 1 := by unfold mRe; rw [cif_t c1]
    rw [cif_t c1, e, cif_f n10]
  · rw [cif_f c1]
    by_cases c2 : mLa r x
    · have e : mRe r nB L Bu Fi x = nI 2 := by unfold mRe; rw [cif_f c1, cif_t c2]
      rw [cif_t c2, e, cif_f n20]
    · rw [cif_f c2]
      by_cases c3 : g r (78 + lotN r x) = nI 1
      · have e : mRe r nB L Bu Fi x = nI 3 := by unfold mRe; rw [cif_f c1, cif_f c2, cif_t c3]
        rw [cif_t c3, e, cif_f n30]
      · rw [cif_f c3]
        by_cases c4 : mSv r Bu Fi x
        · have e : mRe r nB L Bu Fi x = nI 4 := by unfold mRe; rw [cif_f c1, cif_f c2, cif_f c3, cif_t c4]
          rw [cif_t c4, e, cif_f n40]
        · rw [cif_f c4]
          by_cases c5 : mWo r nB L x < g r (38 + lotN r x)
          · have e : mRe r nB L Bu Fi x = nI 5 := by unfold mRe; rw [cif_f c1, cif_f c2, cif_f c3, cif_f c4, cif_t c5]
            have hn : ¬ mCo r nB L Bu Fi x := by
              intro z
              obtain ⟨v, v1, v2, v3⟩ := (hCL _ x1).2.2.2.2.2.2
              have hv : g r (78 + lotN r x) = nI 0 := by
                have : v = 0 ∨ v = 1 := by omega
                rcases this with w | w
                · rw [v3, w]
                · exact absurd (by rw [v3, w]) c3
              have := h0.mpr ⟨hv, z⟩
              rw [e] at this
              exact n50 this
            rw [cif_t hn, e, cif_f n50]
          · have e : mRe r nB L Bu Fi x = nI 0 := by unfold mRe; rw [cif_f c1, cif_f c2, cif_f c3, cif_f c4, cif_f c5]
            rw [cif_f (fun z => z (h0.mp e).2), e, cif_t rfl]
            by_cases d1 : g B (8 * lotN r x + byN r x) = nI x
            · rw [cif_f (fun z => z d1), cif_t d1]
              by_cases d2 : g Fi (lotN r x) = nI x
              · rw [cif_f (fun z => z d2), cif_t d2]
              · rw [cif_t d2, cif_f d2]
            · rw [cif_t d1, cif_f d1]
theorem cs_sell {k : Nat} {O : List Nat} (hC : Cx A F r nB nl nb nx) (hW : LenW A) (hS : SaI r nB nl nb nx L B Fi Se Mn Bu Pr nl) (hk : k < nl) (hOp : O.Perm (bl (fun j => g B (8 * k + j)) 8)) (hs : Srt r nB L O) (h1 : g (A 172) k = nI O.length) (h2 : ∀ j, j < O.length → g (A 176) (8 * k + j) = nI (od O j)) (has : g (A 174) k = mAs r nB k) (hw : ∀ y, y < nx → lotN r y = k → g (A 178) y = mWo r nB L y) (hf : ∀ y, y < nx → lotN r y = k → g (A 180) y = mF0 r nB L Bu Fi y nx) :
    ∃ Fa' : List Int32, Fa'.length = 60 ∧ (∀ y, y < nx → lotN r y = k → g Fa' y = mFa r nB L B Fi Bu y) ∧ (∀ y, y < nx → lotN r y ≠ k → g Fa' y = g (A 180) y) ∧ am_cl m_Sale_sell [.ref 164, .int (nI k)] (heap A F P) = some (none, heap (up (up (up (up A 166 ((A 166).set k (g Bu k))) 168 ((A 168).set k (g Pr k))) 170 ((A 170).set k (mSt r Mn Bu k))) 180 Fa') F P) := by
  classical
  obtain ⟨hM, hB, ⟨n1, n2, n3, n4⟩, l1, hCL, hCM, hCX, hCS, hS0, hS1, hS2, hS3⟩ := id hC
  obtain ⟨c5, c7, c10, c12, c14, c16, c18, c21, c23, c25, c27, c29, c31, c33⟩ := LenS2 l1
  have hnl : nl ≤ 20 := hM.1.2.2.2.2.2.2.2.1
  have hnb : nb ≤ 8 := hM.1.2.2.2.2.2.2.2.2.1
  have hnx : nx ≤ 60 := hM.1.2.2.2.2.2.2.2.2.2
  have hnB : nB ≤ 8 := hM.1.2.2.2.2.2.2.1
  obtain ⟨w166, w168, w170, w172, w174, w176, w178, w180, w182⟩ := id hW
  obtain ⟨s1, s2, s3, s4, s5, s6, s7, s8⟩ := id hS
  have hB8 : ∀ b, b < 8 → isL r nb nx k (g B (8 * k + b)) := fun b hb => by rw [s3 k hk b hb]; exact mBs_isL hM _ _ _ _ _
  have hBB : ∀ b, b < 8 → isB (g B (8 * k + b)) nx := fun b hb => (hB8 b hb).isB
  have hO8 : O.length ≤ 8 := by rw [hOp.length_eq]; exact bl_le _ 8
  have hmn : mMn B k 8 0 = O.length := by rw [mMn_bl, hOp.length_eq]
  have hrk : ∀ j, j < O.length → mRk r nB L B k (nI j) 8 0 = nI (od O j) := fun j hj => mRk_od hnx hBB hOp hs hj
  have hfar : ∀ j, O.length ≤ j → j < 2 ^ 31 → mRk r nB L B k (nI j) 8 0 = -nI 5 := fun j hj hj2 => mRk_far hnx hBB (fun i hi z => by
    rw [nI_eq' (by omega) hj2] at z
    omega)
  have hmem : ∀ y, y ∈ O → y < nx ∧ lotN r y = k ∧ g B (8 * k + byN r y) = nI y ∧ mRe r nB L Bu Fi y = nI 0 ∧ g r (78 + k) = nI 0 := by
    intro y hy
    obtain ⟨b, b1, b2, b3⟩ := (bl_mem 8).mp (hOp.mem_iff.mp hy)
    have b2 : ¬ g B (8 * k + b) < nI 0 := b2
    have b3 : (g B (8 * k + b)).toNatClampNeg = y := b3
    rw [s3 k hk b b1] at b2 b3
    rcases mBs_spec r nB L Bu Fi k b nx with z | ⟨w, w1, w2, w3, w4, w5, w6⟩
    · exact absurd (by rw [z]; decide) b2
    · rw [w2, nI_clamp (by omega)] at b3
      subst b3
      have hwb : byN r w < nb := (hM.2.2 w w1).2.1
      refine ⟨w1, w4, by rw [w5, s3 k hk b b1]; exact w2, (mRe_0 hC w1 (SaI_left hC hS (lotN r w) (by omega) (byN r w) hwb)).mpr ⟨by rw [w4]; exact w3, w6⟩, w3⟩
  have hin : ∀ y, y < nx → lotN r y = k → g B (8 * k + byN r y) = nI y → y ∈ O := by
    intro y hy hyk hyb
    have hyb8 : byN r y < nb := (hM.2.2 y hy).2.1
    exact hOp.mem_iff.mpr ((bl_mem 8).mpr ⟨byN r y, by omega, by show ¬ g B (8 * k + byN r y) < nI 0; rw [hyb]; exact nI_pos (by omega), by show (g B (8 * k + byN r y)).toNatClampNeg = y; rw [hyb, nI_clamp (by omega)]⟩)
  have hinj : ∀ i j, i < O.length → j < O.length → od O i = od O j → i = j := by
    intro i j hi hj he
    rcases Nat.lt_trichotomy i j with z | z | z
    · exact absurd he (mAh_ne (hs i j z hj))
    · exact z
    · exact absurd he.symm (mAh_ne (hs j i z hi))
  -- the fates behind the loop
  have fates : ∀ Fa1 Fa' : List Int32, (∀ y, y < nx → lotN r y = k → (0 < O.length → ¬ y = od O 0) → g Fa1 y = mF0 r nB L Bu Fi y nx) → (0 < O.length → g Fa1 (od O 0) = cif (g Bu k < nI 0) (nI 8) (nI 0)) → (∀ y, (∃ j, 1 ≤ j ∧ j < O.length ∧ od O j = y) → g Fa' y = nI 7) → (∀ y, ¬ (∃ j, 1 ≤ j ∧ j < O.length ∧ od O j = y) → g Fa' y = g Fa1 y) → ∀ y, y < nx → lotN r y = k → g Fa' y = mFa r nB L B Fi Bu y := by
    intro Fa1 Fa' f1 f2 f3 f4 y hy hyk
    rw [mFa_eq hC hS hy, hyk]
    by_cases c0 : mRe r nB L Bu Fi y = nI 0
    · rw [cif_t c0]
      by_cases c1 : g B (8 * k + byN r y) = nI y
      · rw [cif_t c1]
        obtain ⟨j, j1, j2⟩ := mem_od (hin y hy hyk c1)
        rcases Nat.eq_zero_or_pos j with z | z
        · subst z
          have e : g Fi k = nI y := by rw [s4 k hk, hrk 0 j1, j2]
          rw [cif_t e, f4 y (fun ⟨i, i1, i2, i3⟩ => by
            have := hinj i 0 i2 j1 (by rw [i3, j2])
            omega), ← j2]
          exact f2 j1
        · have e : ¬ g Fi k = nI y := by
            rw [s4 k hk, hrk 0 (by omega), nI_eq' (by have := (hmem _ (od_mem (show 0 < O.length by omega))).1; omega) (by omega)]
            intro w
            have := hinj 0 j (by omega) j1 (by rw [w, j2])
            omega
          rw [cif_f e]
          exact f3 y ⟨j, z, j1, j2⟩
      · rw [cif_f c1]
        have hno : ¬ y ∈ O := fun z => c1 (hmem y z).2.2.1
        rw [f4 y (fun ⟨i, i1, i2, i3⟩ => hno (by rw [← i3]; exact od_mem i2)), f1 y hy hyk (fun h0 z => hno (by rw [z]; exact od_mem h0))]
        unfold mF0
        rw [cif_t c0, hyk, ← s3 k hk (byN r y) (by have := (hM.2.2 y hy).2.1; omega), cif_f c1]
    · rw [cif_f c0]
      have hno : ¬ y ∈ O := fun z => c0 (hmem y z).2.2.2.1
      rw [f4 y (fun ⟨i, i1, i2, i3⟩ => hno (by rw [← i3]; exact od_mem i2)), f1 y hy hyk (fun h0 z => hno (by rw [z]; exact od_mem h0))]
      unfold mF0
      rw [cif_f c0]
  have others : ∀ Fa1 Fa' : List Int32, (∀ y, y < nx → lotN r y ≠ k → g Fa1 y = g (A 180) y) → (∀ y, ¬ (∃ j, 1 ≤ j ∧ j < O.length ∧ od O j = y) → g Fa' y = g Fa1 y) → ∀ y, y < nx → lotN r y ≠ k → g Fa' y = g (A 180) y := by
    intro Fa1 Fa' f1 f4 y hy hyk
    rw [f4 y (fun ⟨i, i1, i2, i3⟩ => hyk (by rw [← i3]; exact (hmem _ (od_mem i2)).2.1)), f1 y hy hyk]
  have hb0 : am_cl m_Sale_bidAt [.ref 164, .int (nI k), .int (nI 0)] (heap A F P) = some (some (.int (g Fi k)), heap A F P) := by
    rw [s4 k hk]
    exact cs_bidAt hC hW hk hBB (by rw [hmn]; exact h1) (fun p hp => by rw [hmn] at hp; rw [h2 p hp, hrk p hp]) (by omega)
  have hFiL : isL r nb nx k (g Fi k) := by rw [s4 k hk]; exact mRk_isL hB8 8 0 (by omega)
  have hst := cs_state (P := P) hC hW hk hFiL hw
  have h5 : (-nI 5 : Int32) < nI 0 := by decide
  have n10 : ¬ nI 1 = nI 0 := by decide
  have n20 : ¬ nI 2 = nI 0 := by decide
  have n30 : ¬ nI 3 = nI 0 := by decide
  have n12 : ¬ nI 1 = nI 2 := by decide
  have n32 : ¬ nI 3 = nI 2 := by decide
  have n02 : ¬ nI 0 = nI 2 := by decide
  have loopA : ∀ (Ba Pa Sa Fa : List Int32) (v s : Int32), Ba.length = 20 → Pa.length = 20 → Sa.length = 20 → Fa.length = 60 → ∃ Fa' : List Int32, Fa'.length = 60 ∧ (∀ y, (∃ j, 1 ≤ j ∧ j < O.length ∧ od O j = y) → g Fa' y = nI 7) ∧ (∀ y, ¬ (∃ j, 1 ≤ j ∧ j < O.length ∧ od O j = y) → g Fa' y = g Fa y) ∧ am_ev m_Sale_sell (93, [.ref 164, .int (nI k), .int v, .int s, .int (nI 1)], [], heap (up (up (up (up A 166 Ba) 168 Pa) 170 Sa) 180 Fa) F P) = some (none, heap (up (up (up (up A 166 Ba) 168 Pa) 170 Sa) 180 Fa') F P) := by
    intro Ba Pa Sa Fa v s l1 l2 l3 l4
    exact lc_sell93 (A := up (up (up A 166 Ba) 168 Pa) 170 Sa) (P := P) (n := O.length) (O := O) (Cx_c (fun j hj => by rw [up_ne _ _ (by omega), up_ne _ _ (by omega), up_ne _ _ (by omega)]) (fun _ _ => rfl) hC) (by unfold LenW; simp (disch := (first | omega | fail)) only [st_e, sf_e, Nat.reduceAdd, Nat.reduceMul, up_eq, up_ne, cpA_o, cpF_o]; exact ⟨l1, l2, l3, w172, w174, w176, w178, w180, w182⟩) hk hO8 rfl (by simp (disch := (first | omega | fail)) only [st_e, sf_e, Nat.reduceAdd, Nat.reduceMul, up_eq, up_ne, cpA_o, cpF_o]; exact h1) (by simp (disch := (first | omega | fail)) only [st_e, sf_e, Nat.reduceAdd, Nat.reduceMul, up_eq, up_ne, cpA_o, cpF_o]; exact h2) (fun y hy => (hmem y hy).1) v s 8 1 Fa (by omega) (by omega) l4
  have u180 : ∀ (Ba Pa Sa : List Int32), up (up (up (up A 166 Ba) 168 Pa) 170 Sa) 180 (A 180) = up (up (up A 166 Ba) 168 Pa) 170 Sa := by
    intro Ba Pa Sa
    have := up_id (up (up (up A 166 Ba) 168 Pa) 170 Sa) 180
    rw [up_ne _ _ (by omega), up_ne _ _ (by omega), up_ne _ _ (by omega)] at this
    exact this
  by_cases c0 : O.length = 0
  · -- none counts
    have hfi : g Fi k = -nI 5 := by rw [s4 k hk]; exact hfar 0 (by omega) (by omega)
    have hns : ¬ mSold r nB L k (g Fi k) := fun z => z.1 (by rw [hfi]; exact h5)
    have hbu : g Bu k = -nI 5 := by rw [s7 k hk, cif_f hns]
    have hpr : g Pr k = nI 0 := by rw [s8 k hk, cif_f hns]
    have hmn0 : g Mn k = nI 0 := by rw [s6 k hk, hmn, c0]
    obtain ⟨Fa', q1, q2, q3, q4⟩ := loopA ((A 166).set k (-nI 5)) ((A 168).set k (nI 0)) ((A 170).set k (mSt r Mn Bu k)) (A 180) (g Fi k) (mSt r Mn Bu k) (by rw [List.length_set]; exact w166) (by rw [List.length_set]; exact w168) (by rw [List.length_set]; exact w170) w180
    rw [u180] at q4
    refine ⟨Fa', q1, fates (A 180) Fa' (fun y hy hyk _ => hf y hy hyk) (fun z => by omega) q2 q3, others (A 180) Fa' (fun _ _ _ => rfl) q3, ?_⟩
    rw [hfi, cif_t rfl] at hst
    rw [hfi] at hb0 q4
    rw [hbu, hpr, e_Sale_sell 164 _ _ rfl]
    by_cases c1 : g r (78 + k) = nI 1
    · have hms : mSt r Mn Bu k = nI 3 := by unfold mSt; rw [cif_t c1]
      rw [cif_t c1] at hst
      rw [hms] at q4 ⊢
      simp (maxSteps := 2000000) (disch := (first | omega | (simp (disch := omega) only [up_eq, up_ne, cpA_o, cpF_o, List.length_set] <;> omega) | fail)) only [ob_s, am_bi_s, am_bv_s, am_bl_s, ↓bif_d, lits, nI_addS, nI_mulS, nI_subS, nI_lt', nI_le', nI_eq', ↓rd_nI, ↓wrH, up_eq, up_ne, up_up, up_sw, List.set_set, g_seq, g_sne, Nat.reduceEqDiff, ↓reduceIte, List.length_set, Nat.add_sub_cancel_left, Nat.add_sub_cancel, ite_true, ite_false, if_true, if_false, not_true_eq_false, not_false_eq_true, Bool.and_true, Bool.true_and, true_or, or_true, false_or, or_false, and_true, true_and, and_false, false_and, Nat.not_lt_zero, hpRX, hpIX, hpFX, hpLX, hpSX, ↓rgX, ↓rpX, Nat.reduceLeDiff, Nat.reduceLT, Nat.reduceAdd, Nat.reduceMul, Nat.reduceSub, hb0, hst, n30, n32, q4]
    · have hms : mSt r Mn Bu k = nI 1 := by unfold mSt; rw [cif_f c1, cif_f (fun z => z (by rw [hbu]; exact h5)), cif_t hmn0]
      rw [cif_f c1] at hst
      rw [hms] at q4 ⊢
      simp (maxSteps := 2000000) (disch := (first | omega | (simp (disch := omega) only [up_eq, up_ne, cpA_o, cpF_o, List.length_set] <;> omega) | fail)) only [ob_s, am_bi_s, am_bv_s, am_bl_s, ↓bif_d, lits, nI_addS, nI_mulS, nI_subS, nI_lt', nI_le', nI_eq', ↓rd_nI, ↓wrH, up_eq, up_ne, up_up, up_sw, List.set_set, g_seq, g_sne, Nat.reduceEqDiff, ↓reduceIte, List.length_set, Nat.add_sub_cancel_left, Nat.add_sub_cancel, ite_true, ite_false, if_true, if_false, not_true_eq_false, not_false_eq_true, Bool.and_true, Bool.true_and, true_or, or_true, false_or, or_false, and_true, true_and, and_false, false_and, Nat.not_lt_zero, hpRX, hpIX, hpFX, hpLX, hpSX, ↓rgX, ↓rpX, Nat.reduceLeDiff, Nat.reduceLT, Nat.reduceAdd, Nat.reduceMul, Nat.reduceSub, hb0, hst, n10, n12, q4]
  · obtain ⟨f1, f2, f3, f4, f5⟩ := hmem _ (od_mem (show 0 < O.length by omega))
    generalize hfo : od O 0 = f at *
    have hfi : g Fi k = nI f := by rw [s4 k hk, hrk 0 (by omega), hfo]
    have e21 := (hCX f f1).1
    have c1 : ¬ g r (78 + k) = nI 1 := by rw [f5]; decide
    have h5f : ¬ nI f = -nI 5 := nI_nm5 (by omega)
    have hf0 : ¬ nI f < nI 0 := nI_pos (by omega)
    rw [hfi, cif_f c1, cif_f h5f, nI_clamp (by omega)] at hst
    by_cases c2 : mWo r nB L f < g r (58 + k)
    · -- the reserve is not reached
      have hns : ¬ mSold r nB L k (g Fi k) := fun z => z.2 (by rw [hfi, nI_clamp (by omega)]; exact c2)
      have hbu : g Bu k = -nI 5 := by rw [s7 k hk, cif_f hns]
      have hpr : g Pr k = nI 0 := by rw [s8 k hk, cif_f hns]
      have hmn0 : ¬ g Mn k = nI 0 := by rw [s6 k hk, hmn, nI_eq' (by omega) (by omega)]; exact c0
      have hms : mSt r Mn Bu k = nI 2 := by unfold mSt; rw [cif_f c1, cif_f (fun z => z (by rw [hbu]; exact h5)), cif_f hmn0]
      obtain ⟨Fa', q1, q2, q3, q4⟩ := loopA ((A 166).set k (-nI 5)) ((A 168).set k (nI 0)) ((A 170).set k (nI 2)) ((A 180).set f (nI 8)) (nI f) (nI 2) (by rw [List.length_set]; exact w166) (by rw [List.length_set]; exact w168) (by rw [List.length_set]; exact w170) (by rw [List.length_set]; exact w180)
      refine ⟨Fa', q1, fates ((A 180).set f (nI 8)) Fa' (fun y hy hyk hne => by rw [g_sne (by omega) (hne (by omega))]; exact hf y hy hyk) (fun z => by rw [g_seq (by omega), hbu, cif_t h5]) q2 q3, others ((A 180).set f (nI 8)) Fa' (fun y hy hyk => g_sne (by omega) (fun z => hyk (by rw [z]; exact f2))) q3, ?_⟩
      rw [cif_t c2] at hst
      rw [hfi] at hb0
      rw [hbu, hpr, hms, e_Sale_sell 164 _ _ rfl]
      simp (maxSteps := 2000000) (disch := (first | omega | (simp (disch := omega) only [up_eq, up_ne, cpA_o, cpF_o, List.length_set] <;> omega) | fail)) only [ob_s, am_bi_s, am_bv_s, am_bl_s, ↓bif_d, lits, nI_addS, nI_mulS, nI_subS, nI_lt', nI_le', nI_eq', ↓rd_nI, ↓wrH, up_eq, up_ne, up_up, up_sw, List.set_set, g_seq, g_sne, Nat.reduceEqDiff, ↓reduceIte, List.length_set, Nat.add_sub_cancel_left, Nat.add_sub_cancel, ite_true, ite_false, if_true, if_false, not_true_eq_false, not_false_eq_true, Bool.and_true, Bool.true_and, true_or, or_true, false_or, or_false, and_true, true_and, and_false, false_and, Nat.not_lt_zero, hpRX, hpIX, hpFX, hpLX, hpSX, ↓rgX, ↓rpX, Nat.reduceLeDiff, Nat.reduceLT, Nat.reduceAdd, Nat.reduceMul, Nat.reduceSub, hb0, hst, n20, q4]
    · have hsd : mSold r nB L k (g Fi k) := ⟨by rw [hfi]; exact hf0, by rw [hfi, nI_clamp (by omega)]; exact c2⟩
      have hbu : g Bu k = nI (byN r f) := by rw [s7 k hk, cif_t hsd, hfi, nI_clamp (by omega)]; exact (hM.2.2 f f1).2.2
      have hpr : g Pr k = mPr r nB L k (nI f) (mRk r nB L B k (nI 1) 8 0) := by rw [s8 k hk, cif_t hsd, hfi, s5 k hk]
      have hby := (hM.2.2 f f1).2.1
      have hbu0 : ¬ nI (byN r f) < nI 0 := nI_pos (by omega)
      have hms : mSt r Mn Bu k = nI 0 := by unfold mSt; rw [cif_f c1, cif_t (by rw [hbu]; exact hbu0)]
      have hpc := cs_price (A := up (up A 166 ((A 166).set k (nI (byN r f)))) 170 ((A 170).set k (nI 0))) (P := P) (f := f) (Cx_c (fun j hj => by rw [up_ne _ _ (by omega), up_ne _ _ (by omega)]) (fun _ _ => rfl) hC) (by unfold LenW; simp (disch := (first | omega | (simp (disch := omega) only [up_eq, up_ne, cpA_o, List.length_set] <;> omega) | fail)) only [st_e, sf_e, Nat.reduceAdd, Nat.reduceMul, up_eq, up_ne, cpA_o, cpF_o, g_seq, g_sne, List.length_set]; exact hW) hS hk hB8 (by simp (disch := (first | omega | fail)) only [st_e, sf_e, Nat.reduceAdd, Nat.reduceMul, up_eq, up_ne, cpA_o, cpF_o]; rw [hmn]; exact h1) (fun p hp => by rw [hmn] at hp; simp (disch := (first | omega | fail)) only [st_e, sf_e, Nat.reduceAdd, Nat.reduceMul, up_eq, up_ne, cpA_o, cpF_o]; rw [h2 p hp, hrk p hp]) f1 f2 (by rw [hrk 0 (by omega), hfo]) (by simp (disch := (first | omega | fail)) only [st_e, sf_e, Nat.reduceAdd, Nat.reduceMul, up_eq, up_ne, cpA_o, cpF_o]; exact has) (by simp (disch := (first | omega | fail)) only [st_e, sf_e, Nat.reduceAdd, Nat.reduceMul, up_eq, up_ne, cpA_o, cpF_o]; exact hw)
      rw [← hpr] at hpc
      obtain ⟨Fa', q1, q2, q3, q4⟩ := loopA ((A 166).set k (nI (byN r f))) ((A 168).set k (g Pr k)) ((A 170).set k (nI 0)) (A 180) (nI f) (nI 0) (by rw [List.length_set]; exact w166) (by rw [List.length_set]; exact w168) (by rw [List.length_set]; exact w170) w180
      rw [u180] at q4
      refine ⟨Fa', q1, fates (A 180) Fa' (fun y hy hyk _ => hf y hy hyk) (fun z => ?_) q2 q3, others (A 180) Fa' (fun _ _ _ => rfl) q3, ?_⟩
      · rw [hf f f1 f2, hbu, cif_f hbu0]
        unfold mF0
        rw [cif_t f4, f2, ← s3 k hk (byN r f) (by omega), cif_t f3]
      · rw [cif_f c2] at hst
        rw [hfi] at hb0
        rw [hbu, hms, e_Sale_sell 164 _ _ rfl]
        simp (maxSteps := 2000000) (disch := (first | omega | (simp (disch := omega) only [up_eq, up_ne, cpA_o, cpF_o, List.length_set] <;> omega) | fail)) only [ob_s, am_bi_s, am_bv_s, am_bl_s, ↓bif_d, lits, nI_addS, nI_mulS, nI_subS, nI_lt', nI_le', nI_eq', ↓rd_nI, ↓wrH, up_eq, up_ne, up_up, up_sw, List.set_set, g_seq, g_sne, Nat.reduceEqDiff, ↓reduceIte, List.length_set, Nat.add_sub_cancel_left, Nat.add_sub_cancel, ite_true, ite_false, if_true, if_false, not_true_eq_false, not_false_eq_true, Bool.and_true, Bool.true_and, true_or, or_true, false_or, or_false, and_true, true_and, and_false, false_and, Nat.not_lt_zero, hpRX, hpIX, hpFX, hpLX, hpSX, ↓rgX, ↓rpX, Nat.reduceLeDiff, Nat.reduceLT, Nat.reduceAdd, Nat.reduceMul, Nat.reduceSub, hb0, hst, n02, e21, hpc, q4]
end X

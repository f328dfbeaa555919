/-- how many bests there are, from b on -/
def mMn (B : List Int32) (l : Nat) : Nat → Nat → Nat
  | 0, _ => 0
  | n + 1, b => (if g B (8 * l + b) < nI 0 then 0 else 1) + mMn B l n (b + 1)
theorem mMn_s (B : List Int32) (l n b : Nat) : mMn B l (n + 1) b = (if g B (8 * l + b) < nI 0 then 0 else 1) + mMn B l n (b + 1) := rfl
theorem mRk_isB {r : List Int32} {nB : Nat} {L B : List Int32} {l : Nat} {p : Int32} {nx : Nat} (hB : ∀ b, b < 8 → isB (g B (8 * l + b)) nx) : ∀ n b, b + n ≤ 8 → isB (mRk r nB L B l p n b) nx := by
  intro n
  induction n with
  | zero => intro b _; exact Or.inl rfl
  | succ n ih =>
    intro b hb
    rw [mRk_s]
    by_cases q : ¬ g B (8 * l + b) < nI 0 ∧ nI (mPl r nB L B l (g B (8 * l + b)).toNatClampNeg 8 0) = p
    · rw [cif_t q]; exact hB b (by omega)
    · rw [cif_f q]; exact ih (b + 1) (by omega)
/-- the price of a lot that is sold: its first and its second bid -/
def mPr (r : List Int32) (nB : Nat) (L : List Int32) (l : Nat) (fi se : Int32) : Int32 :=
  let p := if se < nI 0 then mAs r nB l else (if mAs r nB l ≤ mNx r nB (mWo r nB L se.toNatClampNeg) then mNx r nB (mWo r nB L se.toNatClampNeg) else mAs r nB l)
  if mWo r nB L fi.toNatClampNeg ≤ p then mWo r nB L fi.toNatClampNeg else p
def mSold (r : List Int32) (nB : Nat) (L : List Int32) (l : Nat) (fi : Int32) : Prop := ¬ fi < nI 0 ∧ ¬ mWo r nB L fi.toNatClampNeg < g r (58 + l)
section M
variable {A : Nat → List Int32} {F : Nat → Int32} {P : Nat → Nat} {nB nl nb nx : Nat}
theorem l_Mod_sell {l : Nat} (hl : l < 20) (hB : (A 200).length = 160) (hMn : (A 203).length = 20) : ∀ n b (M : List Int32) (k : Nat), b + n = 8 → k + n ≤ 8 → M.length = 20 → g M l = nI k → am_ev m_Mod_sell (14, [.ref 192, .int (nI l), .int (nI b)], [], heap (up A 203 M) F P) = am_ev m_Mod_sell (14, [.ref 192, .int (nI l), .int (nI 8)], [], heap (up A 203 (M.set l (nI (k + mMn (A 200) l n b)))) F P) := by
  intro n
  induction n with
  | zero =>
    intro b M k hb hk hM hg
    have : M.set l (nI (k + mMn (A 200) l 0 b)) = M := by
      show M.set l (nI (k + 0)) = M
      rw [Nat.add_zero, ← hg]
      unfold g
      rw [List.getD_eq_getElem?_getD, List.getElem?_eq_getElem (by omega)]
      exact List.set_getElem_self (by omega)
    rw [this, show b = 8 by omega]
  | succ n ih =>
    intro b M k hb hk hM hg
    have hb8 : ¬ 8 ≤ b := by omega
    rw [b_Mod_sell_14]
    by_cases q : g (A 200) (8 * l + b) < nI 0
    · have e := ih (b + 1) (M.set l (nI k)) k (by omega) (by omega) (by simp [hM]) (by rw [g_set (by omega), if_pos rfl])
      rw [List.set_set] at e
      simp (maxSteps := 2000000) (disch := (first | omega | (simp (disch := omega) only [up_eq, up_ne, List.length_set] <;> omega))) only [ob_s, am_bi_s, am_bv_s, am_bl_s, ↓bif_d, lits, nI_addS, nI_mulS, nI_subS, nI_lt', nI_le', nI_eq', ↓rd_nI, ↓wrH, up_eq, up_ne, up_up, up_sw, List.set_set, g_seq, g_sne, Nat.reduceEqDiff, ↓reduceIte, List.length_set, Nat.add_sub_cancel_left, Nat.add_sub_cancel, ite_true, ite_false, if_true, if_false, not_true_eq_false, not_false_eq_true, Bool.and_true, Bool.true_and, true_or, or_true, false_or, or_false, and_true, true_and, and_false, false_and, Nat.not_lt_zero, hpRM, hpIM, hpFM, hpLM, hpSM, hb8, hg, q, Nat.add_zero, e, mMn_s, Nat.zero_add]
    · have e := ih (b + 1) (M.set l (nI (k + 1))) (k + 1) (by omega) (by omega) (by simp [hM]) (by rw [g_set (by omega), if_pos rfl])
      rw [List.set_set] at e
      simp (maxSteps := 2000000) (disch := (first | omega | (simp (disch := omega) only [up_eq, up_ne, List.length_set] <;> omega))) only [ob_s, am_bi_s, am_bv_s, am_bl_s, ↓bif_d, lits, nI_addS, nI_mulS, nI_subS, nI_lt', nI_le', nI_eq', ↓rd_nI, ↓wrH, up_eq, up_ne, up_up, up_sw, List.set_set, g_seq, g_sne, Nat.reduceEqDiff, ↓reduceIte, List.length_set, Nat.add_sub_cancel_left, Nat.add_sub_cancel, ite_true, ite_false, if_true, if_false, not_true_eq_false, not_false_eq_true, Bool.and_true, Bool.true_and, true_or, or_true, false_or, or_false, and_true, true_and, and_false, false_and, Nat.not_lt_zero, hpRM, hpIM, hpFM, hpLM, hpSM, hb8, hg, q, e, mMn_s, Nat.add_assoc]
theorem s_Mod_sell (hM : Mwf (A 193) nB nl nb nx) (hL : (A 199).length = 168) (hB : (A 200).length = 160) (hFi : (A 201).length = 20) (hSe : (A 202).length = 20) (hMn : (A 203).length = 20) (hBu : (A 204).length = 20) (hPr : (A 205).length = 20) {l : Nat} (hl : l < nl) (hr : ∀ j, j < l → isB (g (A 204) j) nb ∧ (¬ g (A 204) j = -nI 5 → ∃ f, f < nx ∧ g (A 201) j = nI f)) :
    ∃ B' : List Int32, FbI (A 193) nB (A 199) (A 204) (A 201) (A 200) B' l nx ∧ am_cl m_Mod_sell [.ref 192, .int (nI l)] (heap A F P) = some (none, heap (up (up (up (up (up (up A 200 B') 201 ((A 201).set l (mRk (A 193) nB (A 199) B' l (nI 0) 8 0))) 202 ((A 202).set l (mRk (A 193) nB (A 199) B' l (nI 1) 8 0))) 203 ((A 203).set l (nI (mMn B' l 8 0)))) 204 ((A 204).set l (cif (mSold (A 193) nB (A 199) l (mRk (A 193) nB (A 199) B' l (nI 0) 8 0)) (g (A 193) (168 + (mRk (A 193) nB (A 199) B' l (nI 0) 8 0).toNatClampNeg)) (-nI 5)))) 205 ((A 205).set l (cif (mSold (A 193) nB (A 199) l (mRk (A 193) nB (A 199) B' l (nI 0) 8 0)) (mPr (A 193) nB (A 199) l (mRk (A 193) nB (A 199) B' l (nI 0) 8 0) (mRk (A 193) nB (A 199) B' l (nI 1) 8 0)) (nI 0)))) F P) := by
  classical
  obtain ⟨B', hFb, hcall⟩ := s_Mod_findBest (F := F) (P := P) hM hL hB hBu hFi hl hr
  refine ⟨B', hFb, ?_⟩
  obtain ⟨f1, f2, f3⟩ := hFb
  have hM' := hM
  obtain ⟨⟨h0, h1, h2, h3, h4, h5, h6, h7, h8, h9⟩, -, hb⟩ := hM
  have hB2 : ∀ b, b < 8 → isB (g B' (8 * l + b)) nx := fun b hb => by rw [f2 b hb]; exact mBs_isB _ _ _ _ _ _ _ (Nat.le_refl _)
  have rk : ∀ A'' : Nat → List Int32, A'' 193 = A 193 → A'' 199 = A 199 → A'' 200 = B' → ∀ p, am_cl m_Mod_rankedAt [.ref 192, .int (nI l), .int p] (heap A'' F P) = some (some (.int (mRk (A 193) nB (A 199) B' l p 8 0)), heap A'' F P) := by
    intro A'' g1 g2 g3 p
    have := s_Mod_rankedAt (A := A'') (F := F) (P := P) (nB := nB) (nl := nl) (nb := nb) (nx := nx) (by rw [g1]; exact hM') (by rw [g2]; exact hL) (by rw [g3]; exact f1) hl (by rw [g3]; exact hB2) p
    rw [g1, g2, g3] at this
    exact this
  have wo : ∀ A'' : Nat → List Int32, A'' 193 = A 193 → A'' 199 = A 199 → ∀ x, x < nx → am_cl m_Mod_worthOf [.ref 192, .int (nI x)] (heap A'' F P) = some (some (.int (mWo (A 193) nB (A 199) x)), heap A'' F P) := by
    intro A'' g1 g2 x hx
    have := s_Mod_worthOf (A := A'') (F := F) (P := P) (nB := nB) (nl := nl) (nb := nb) (nx := nx) (by rw [g1]; exact hM') (by rw [g2]; exact hL) hx
    rw [g1, g2] at this
    exact this
  have asn : ∀ A'' : Nat → List Int32, A'' 193 = A 193 → am_cl m_Mod_asking [.ref 192, .int (nI l)] (heap A'' F P) = some (some (.int (mAs (A 193) nB l)), heap A'' F P) := by
    intro A'' g1
    have := s_Mod_asking (A := A'') (F := F) (P := P) (nB := nB) (nl := nl) (nb := nb) (nx := nx) (by rw [g1]; exact hM') hl
    rw [g1] at this
    exact this
  have nxt : ∀ A'' : Nat → List Int32, A'' 193 = A 193 → ∀ y, am_cl m_Mod_nextOf [.ref 192, .int y] (heap A'' F P) = some (some (.int (mNx (A 193) nB y)), heap A'' F P) := by
    intro A'' g1 y
    have := s_Mod_nextOf (A := A'') (F := F) (P := P) (nB := nB) (nl := nl) (nb := nb) (nx := nx) (by rw [g1]; exact hM'.1) (by rw [g1]; exact hM'.2.1) y
    rw [g1] at this
    exact this
  have many := l_Mod_sell (A := up A 200 B') (F := F) (P := P) (l := l) (by omega) f1 hMn 8 0 ((A 203).set l (nI 0)) 0 (by omega) (by omega) (by simp [hMn]) (by rw [g_set (by omega), if_pos rfl])
  have e200 : (up A 200 B') 200 = B' := up_eq _ _ _
  rw [e200, List.set_set, Nat.zero_add] at many
  rw [e_Mod_sell 192 _ _ rfl]
  simp (maxSteps := 2000000) (disch := (first | omega | (simp (disch := omega) only [up_eq, up_ne, List.length_set] <;> omega))) only [ob_s, am_bi_s, am_bv_s, am_bl_s, ↓bif_d, lits, nI_addS, nI_mulS, nI_subS, nI_lt', nI_le', nI_eq', ↓rd_nI, ↓wrH, up_eq, up_ne, up_up, up_sw, List.set_set, g_seq, g_sne, Nat.reduceEqDiff, ↓reduceIte, List.length_set, Nat.add_sub_cancel_left, Nat.add_sub_cancel, ite_true, ite_false, if_true, if_false, not_true_eq_false, not_false_eq_true, Bool.and_true, Bool.true_and, true_or, or_true, false_or, or_false, and_true, true_and, and_false, false_and, Nat.not_lt_zero, hpRM, hpIM, hpFM, hpLM, hpSM, hcall, many]
  have hfi := mRk_isB (r := A 193) (nB := nB) (L := A 199) (p := nI 0) hB2 8 0 (by omega)
  have hse := mRk_isB (r := A 193) (nB := nB) (L := A 199) (p := nI 1) hB2 8 0 (by omega)
  rw [b_Mod_sell_14]
  rcases hfi with hf | ⟨f, hf1, hf⟩
  · have hns : ¬ mSold (A 193) nB (A 199) l (-nI 5) := fun z => z.1 (by decide)
    simp (maxSteps := 2000000) (disch := (first | omega | (simp (disch := omega) only [up_eq, up_ne, List.length_set] <;> omega))) only [ob_s, am_bi_s, am_bv_s, am_bl_s, ↓bif_d, lits, nI_addS, nI_mulS, nI_subS, nI_lt', nI_le', nI_eq', ↓rd_nI, ↓wrH, up_eq, up_ne, up_up, up_sw, List.set_set, g_seq, g_sne, Nat.reduceEqDiff, ↓reduceIte, List.length_set, Nat.add_sub_cancel_left, Nat.add_sub_cancel, ite_true, ite_false, if_true, if_false, not_true_eq_false, not_false_eq_true, Bool.and_true, Bool.true_and, true_or, or_true, false_or, or_false, and_true, true_and, and_false, false_and, Nat.not_lt_zero, hpRM, hpIM, hpFM, hpLM, hpSM, rk, hf, m5_lt, cif_f hns, Nat.le_refl]
  · have wf := fun A'' g1 g2 => wo A'' g1 g2 f hf1
    by_cases hs : mWo (A 193) nB (A 199) f < g (A 193) (58 + l)
    · have hns : ¬ mSold (A 193) nB (A 199) l (nI f) := fun z => z.2 (by rw [nI_clamp (by omega)]; exact hs)
      simp (maxSteps := 2000000) (disch := (first | omega | (simp (disch := omega) only [up_eq, up_ne, List.length_set] <;> omega))) only [ob_s, am_bi_s, am_bv_s, am_bl_s, ↓bif_d, lits, nI_addS, nI_mulS, nI_subS, nI_lt', nI_le', nI_eq', ↓rd_nI, ↓wrH, up_eq, up_ne, up_up, up_sw, List.set_set, g_seq, g_sne, Nat.reduceEqDiff, ↓reduceIte, List.length_set, Nat.add_sub_cancel_left, Nat.add_sub_cancel, ite_true, ite_false, if_true, if_false, not_true_eq_false, not_false_eq_true, Bool.and_true, Bool.true_and, true_or, or_true, false_or, or_false, and_true, true_and, and_false, false_and, Nat.not_lt_zero, hpRM, hpIM, hpFM, hpLM, hpSM, rk, hf, nI_nlt0, wf, hs, cif_f hns, Nat.le_refl]
    · have hns : mSold (A 193) nB (A 199) l (nI f) := ⟨by rw [nI_nlt0 (by omega)]; exact fun z => z, by rw [nI_clamp (by omega)]; exact hs⟩
      rcases hse with hg | ⟨q, hg1, hg⟩
      · have h5 : (nI 0 ≤ -nI 5) = False := by simp only [eq_iff_iff, iff_false]; decide
        simp (maxSteps := 2000000) (disch := (first | omega | (simp (disch := omega) only [up_eq, up_ne, List.length_set] <;> omega))) only [ob_s, am_bi_s, am_bv_s, am_bl_s, ↓bif_d, lits, nI_addS, nI_mulS, nI_subS, nI_lt', nI_le', nI_eq', ↓rd_nI, ↓wrH, up_eq, up_ne, up_up, up_sw, List.set_set, g_seq, g_sne, Nat.reduceEqDiff, ↓reduceIte, List.length_set, Nat.add_sub_cancel_left, Nat.add_sub_cancel, ite_true, ite_false, if_true, if_false, not_true_eq_false, not_false_eq_true, Bool.and_true, Bool.true_and, true_or, or_true, false_or, or_false, and_true, true_and, and_false, false_and, Nat.not_lt_zero, hpRM, hpIM, hpFM, hpLM, hpSM, rk, hf, nI_nlt0, wf, hs, cif_t hns, hg, h5, asn, s_Mod_greater, s_Mod_lesser, Nat.le_refl]
        unfold mPr
        simp only [m5_lt, if_true, nI_clamp (show f < 2 ^ 31 by omega)]
      · have wq := fun A'' g1 g2 => wo A'' g1 g2 q hg1
        simp (maxSteps := 2000000) (disch := (first | omega | (simp (disch := omega) only [up_eq, up_ne, List.length_set] <;> omega))) only [ob_s, am_bi_s, am_bv_s, am_bl_s, ↓bif_d, lits, nI_addS, nI_mulS, nI_subS, nI_lt', nI_le', nI_eq', ↓rd_nI, ↓wrH, up_eq, up_ne, up_up, up_sw, List.set_set, g_seq, g_sne, Nat.reduceEqDiff, ↓reduceIte, List.length_set, Nat.add_sub_cancel_left, Nat.add_sub_cancel, ite_true, ite_false, if_true, if_false, not_true_eq_false, not_false_eq_true, Bool.and_true, Bool.true_and, true_or, or_true, false_or, or_false, and_true, true_and, and_false, false_and, Nat.not_lt_zero, hpRM, hpIM, hpFM, hpLM, hpSM, rk, hf, nI_nlt0, wf, hs, cif_t hns, hg, wq, nxt, asn, s_Mod_greater, s_Mod_lesser, Nat.le_refl, Nat.zero_le]
        unfold mPr
        simp only [nI_nlt0 (show q < 2 ^ 31 by omega), if_false, nI_clamp (show f < 2 ^ 31 by omega), nI_clamp (show q < 2 ^ 31 by omega)]
end M

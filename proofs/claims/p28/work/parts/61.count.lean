/-! WHAT IS COUNTED -/
noncomputable def cN (p : Nat → Prop) : Nat → Nat → Nat
  | 0, _ => 0
  | n + 1, k => cif (p k) 1 0 + cN p n (k + 1)
theorem cN_s (p : Nat → Prop) (n k : Nat) : cN p (n + 1) k = cif (p k) 1 0 + cN p n (k + 1) := rfl
theorem cN_c {p p' : Nat → Prop} : ∀ n k, (∀ j, k ≤ j → j < k + n → (p j ↔ p' j)) → cN p n k = cN p' n k := by
  intro n
  induction n with
  | zero => intro k _; rfl
  | succ n ih =>
    intro k h
    rw [cN_s, cN_s, ih (k + 1) (fun j h1 h2 => h j (by omega) (by omega)), propext (h k (Nat.le_refl _) (by omega))]
theorem cN_le (p : Nat → Prop) : ∀ n k, cN p n k ≤ n := by
  intro n
  induction n with
  | zero => intro k; exact Nat.le_refl _
  | succ n ih =>
    intro k
    rw [cN_s]
    have := ih (k + 1)
    by_cases c : p k
    · rw [cif_t c]; omega
    · rw [cif_f c]; omega
theorem add_nI0 (x : Int32) : x + nI 0 = x := Int32.add_zero x
theorem l_rcnt {a q : Nat} {h : am_H} {l : List Int32} (h1 : h[a]? = some (.inr (5, [.ref q]))) (h2 : h[q]? = some (.inl (0, l))) (hl : l.length < 2 ^ 31) {N : Nat} (hN : N ≤ l.length) (v : Int32) : ∀ n k m, k + n = N → am_ev m_Row_countOf (5, [.ref a, .int v, .int (nI N), .int (nI m), .int (nI k)], [], h) = some (some (.int (nI (m + cN (fun j => g l j = v) n k))), h) := by
  have e1 : am_gr h a 5 0 = some q := by simp [am_gr, h1]
  have e2 : am_len h q = some (nI l.length) := by unfold am_len; rw [h2]; rfl
  have e3 : ∀ i, am_al h 0 q i = bif am_in i l.length then l[i.toNatClampNeg]? else none := by
    intro i; unfold am_al; rw [h2]; rfl
  intro n
  induction n with
  | zero =>
    intro k m hk
    have hle : N ≤ k := by omega
    rw [b_Row_countOf_5]
    simp (maxSteps := 2000000) (disch := (first | omega | (simp (disch := omega) only [up_eq, up_ne, cpA_o, cpF_o, List.length_set] <;> omega) | fail)) only [ob_s, am_bi_s, am_bv_s, am_bl_s, ↓bif_d, lits, nI_addS, nI_mulS, nI_subS, nI_lt', nI_le', nI_eq', ↓rd_nI, ↓wrH, up_eq, up_ne, up_up, up_sw, List.set_set, g_seq, g_sne, Nat.reduceEqDiff, ↓reduceIte, List.length_set, Nat.add_sub_cancel_left, Nat.add_sub_cancel, ite_true, ite_false, if_true, if_false, not_true_eq_false, not_false_eq_true, Bool.and_true, Bool.true_and, true_or, or_true, false_or, or_false, and_true, true_and, and_false, false_and, Nat.not_lt_zero, e1, e2, e3, hle]
    rfl
  | succ n ih =>
    intro k m hk
    have hle : ¬ N ≤ k := by omega
    have hle2 : ¬ l.length ≤ k := by omega
    rw [b_Row_countOf_5, cN_s]
    by_cases c : g l k = v
    · have ih := ih (k + 1) (m + 1) (by omega)
      rw [cif_t c, ← Nat.add_assoc]
      simp (maxSteps := 2000000) (disch := (first | omega | (simp (disch := omega) only [up_eq, up_ne, cpA_o, cpF_o, List.length_set] <;> omega) | fail)) only [ob_s, am_bi_s, am_bv_s, am_bl_s, ↓bif_d, lits, nI_addS, nI_mulS, nI_subS, nI_lt', nI_le', nI_eq', ↓rd_nI, ↓wrH, up_eq, up_ne, up_up, up_sw, List.set_set, g_seq, g_sne, Nat.reduceEqDiff, ↓reduceIte, List.length_set, Nat.add_sub_cancel_left, Nat.add_sub_cancel, ite_true, ite_false, if_true, if_false, not_true_eq_false, not_false_eq_true, Bool.and_true, Bool.true_and, true_or, or_true, false_or, or_false, and_true, true_and, and_false, false_and, Nat.not_lt_zero, e1, e2, e3, hle, hle2, c, ih]
    · have ih := ih (k + 1) m (by omega)
      rw [cif_f c, Nat.zero_add]
      simp (maxSteps := 2000000) (disch := (first | omega | (simp (disch := omega) only [up_eq, up_ne, cpA_o, cpF_o, List.length_set] <;> omega) | fail)) only [ob_s, am_bi_s, am_bv_s, am_bl_s, ↓bif_d, lits, nI_addS, nI_mulS, nI_subS, nI_lt', nI_le', nI_eq', ↓rd_nI, ↓wrH, up_eq, up_ne, up_up, up_sw, List.set_set, g_seq, g_sne, Nat.reduceEqDiff, ↓reduceIte, List.length_set, Nat.add_sub_cancel_left, Nat.add_sub_cancel, ite_true, ite_false, if_true, if_false, not_true_eq_false, not_false_eq_true, Bool.and_true, Bool.true_and, true_or, or_true, false_or, or_false, and_true, true_and, and_false, false_and, Nat.not_lt_zero, e1, e2, e3, hle, hle2, c, ih]
theorem s_rcnt {a q : Nat} {h : am_H} {l : List Int32} (h1 : h[a]? = some (.inr (5, [.ref q]))) (h2 : h[q]? = some (.inl (0, l))) (hl : l.length < 2 ^ 31) {N : Nat} (hN : N ≤ l.length) (v : Int32) : am_cl m_Row_countOf [.ref a, .int v, .int (nI N)] h = some (some (.int (nI (cN (fun j => g l j = v) N 0))), h) := by
  have := l_rcnt h1 h2 hl hN v N 0 0 (by omega)
  rw [Nat.zero_add] at this
  rw [e_Row_countOf a _ _ h h1]
  simp only [lits]
  exact this
section X
variable {A : Nat → List Int32} {F : Nat → Int32} {P : Nat → Nat} {nB nl nb nx q t : Nat}
theorem s_cnt23 {N : Nat} (hn : N ≤ (A 23).length) (hl : (A 23).length < 2 ^ 31) (v : Int32) : am_cl m_Row_countOf [.ref 22, .int v, .int (nI N)] (heap A F P) = some (some (.int (nI (cN (fun j => g (A 23) j = v) N 0))), heap A F P) := s_rcnt (h := heap A F P) (a := 22) (q := 23) rfl rfl hl hn v
theorem s_cnt10 {N : Nat} (hn : N ≤ (A 10).length) (hl : (A 10).length < 2 ^ 31) (v : Int32) : am_cl m_Row_countOf [.ref 9, .int v, .int (nI N)] (heap A F P) = some (some (.int (nI (cN (fun j => g (A 10) j = v) N 0))), heap A F P) := s_rcnt (h := heap A F P) (a := 9) (q := 10) rfl rfl hl hn v
theorem s_cnt166 {N : Nat} (hn : N ≤ (A 166).length) (hl : (A 166).length < 2 ^ 31) (v : Int32) : am_cl m_Row_countOf [.ref 165, .int v, .int (nI N)] (heap A F P) = some (some (.int (nI (cN (fun j => g (A 166) j = v) N 0))), heap A F P) := s_rcnt (h := heap A F P) (a := 165) (q := 166) rfl rfl hl hn v
theorem c_late4 {r : List Int32} (hC : Cx A F r nB nl nb nx) : ∀ n k m, k + n = nx → am_ev m_State_lateBids (4, [.ref 2, .int (nI m), .int (nI k)], [], heap A F P) = some (some (.int (nI (m + cN (fun j => mLa r j) n k))), heap A F P) := by
  classical
  have hla := fun x hx => cs_late (P := P) (x := x) hC hx
  obtain ⟨hM, hB, ⟨n1, n2, n3, n4⟩, l1, hCL, hCM, hCX, hCS, hS0, hS1, hS2, hS3⟩ := id hC
  obtain ⟨c5, c7, c10, c12, c14, c16, c18, c21, c23, c25, c27, c29, c31, c33⟩ := LenS2 l1
  have hnl : nl ≤ 20 := hM.1.2.2.2.2.2.2.2.1
  have hnb : nb ≤ 8 := hM.1.2.2.2.2.2.2.2.2.1
  have hnx : nx ≤ 60 := hM.1.2.2.2.2.2.2.2.2.2
  have hnB : nB ≤ 8 := hM.1.2.2.2.2.2.2.1
  intro n
  induction n with
  | zero =>
    intro k m hk
    have hle : nx ≤ k := by omega
    rw [b_State_lateBids_4]
    simp (maxSteps := 2000000) (disch := (first | omega | (simp (disch := omega) only [up_eq, up_ne, cpA_o, cpF_o, List.length_set] <;> omega) | fail)) only [ob_s, am_bi_s, am_bv_s, am_bl_s, ↓bif_d, lits, nI_addS, nI_mulS, nI_subS, nI_lt', nI_le', nI_eq', ↓rd_nI, ↓wrH, up_eq, up_ne, up_up, up_sw, List.set_set, g_seq, g_sne, Nat.reduceEqDiff, ↓reduceIte, List.length_set, Nat.add_sub_cancel_left, Nat.add_sub_cancel, ite_true, ite_false, if_true, if_false, not_true_eq_false, not_false_eq_true, Bool.and_true, Bool.true_and, true_or, or_true, false_or, or_false, and_true, true_and, and_false, false_and, Nat.not_lt_zero, hpRX, hpIX, hpFX, hpLX, hpSX, ↓rgX, ↓rpX, Nat.reduceLeDiff, Nat.reduceLT, Nat.reduceAdd, Nat.reduceMul, Nat.reduceSub, n4, hle]
    rfl
  | succ n ih =>
    intro k m hk
    have hle : ¬ nx ≤ k := by omega
    have hl := hla k (by omega)
    rw [b_State_lateBids_4, cN_s]
    by_cases c : mLa r k
    · have ih := ih (k + 1) (m + 1) (by omega)
      rw [cif_t c, ← Nat.add_assoc]
      simp (maxSteps := 2000000) (disch := (first | omega | (simp (disch := omega) only [up_eq, up_ne, cpA_o, cpF_o, List.length_set] <;> omega) | fail)) only [ob_s, am_bi_s, am_bv_s, am_bl_s, ↓bif_d, lits, nI_addS, nI_mulS, nI_subS, nI_lt', nI_le', nI_eq', ↓rd_nI, ↓wrH, up_eq, up_ne, up_up, up_sw, List.set_set, g_seq, g_sne, Nat.reduceEqDiff, ↓reduceIte, List.length_set, Nat.add_sub_cancel_left, Nat.add_sub_cancel, ite_true, ite_false, if_true, if_false, not_true_eq_false, not_false_eq_true, Bool.and_true, Bool.true_and, true_or, or_true, false_or, or_false, and_true, true_and, and_false, false_and, Nat.not_lt_zero, hpRX, hpIX, hpFX, hpLX, hpSX, ↓rgX, ↓rpX, Nat.reduceLeDiff, Nat.reduceLT, Nat.reduceAdd, Nat.reduceMul, Nat.reduceSub, n4, hle, hl, b01_0, c, ih]
    · have ih := ih (k + 1) m (by omega)
      rw [cif_f c, Nat.zero_add]
      simp (maxSteps := 2000000) (disch := (first | omega | (simp (disch := omega) only [up_eq, up_ne, cpA_o, cpF_o, List.length_set] <;> omega) | fail)) only [ob_s, am_bi_s, am_bv_s, am_bl_s, ↓bif_d, lits, nI_addS, nI_mulS, nI_subS, nI_lt', nI_le', nI_eq', ↓rd_nI, ↓wrH, up_eq, up_ne, up_up, up_sw, List.set_set, g_seq, g_sne, Nat.reduceEqDiff, ↓reduceIte, List.length_set, Nat.add_sub_cancel_left, Nat.add_sub_cancel, ite_true, ite_false, if_true, if_false, not_true_eq_false, not_false_eq_true, Bool.and_true, Bool.true_and, true_or, or_true, false_or, or_false, and_true, true_and, and_false, false_and, Nat.not_lt_zero, hpRX, hpIX, hpFX, hpLX, hpSX, ↓rgX, ↓rpX, Nat.reduceLeDiff, Nat.reduceLT, Nat.reduceAdd, Nat.reduceMul, Nat.reduceSub, n4, hle, hl, b01_0, c, ih]
theorem c_late {r : List Int32} (hC : Cx A F r nB nl nb nx) : am_cl m_State_lateBids [.ref 2] (heap A F P) = some (some (.int (nI (cN (fun j => mLa r j) nx 0))), heap A F P) := by
  have h := c_late4 (P := P) hC nx 0 0 (by omega)
  rw [Nat.zero_add] at h
  rw [e_State_lateBids 2 _ rfl]
  simp only [lits]
  exact h
/-- the lots that are sold, of one seller or of all -/
theorem c_sold4 {r : List Int32} (hC : Cx A F r nB nl nb nx) (hW : LenW A) (x : Int32) : ∀ n k m (u : Value), k + n = nl → am_ev m_Sale_soldLots (4, [.ref 164, .int x, .int (nI m), .int (nI k), u], [], heap A F P) = some (some (.int (nI (m + cN (fun l => (x = -nI 1 ∨ x = g r (18 + l)) ∧ g (A 170) l = nI 0) n k))), heap A F P) := by
  classical
  obtain ⟨hM, hB, ⟨n1, n2, n3, n4⟩, l1, hCL, hCM, hCX, hCS, hS0, hS1, hS2, hS3⟩ := id hC
  obtain ⟨c5, c7, c10, c12, c14, c16, c18, c21, c23, c25, c27, c29, c31, c33⟩ := LenS2 l1
  have hnl : nl ≤ 20 := hM.1.2.2.2.2.2.2.2.1
  have hnb : nb ≤ 8 := hM.1.2.2.2.2.2.2.2.2.1
  have hnx : nx ≤ 60 := hM.1.2.2.2.2.2.2.2.2.2
  have hnB : nB ≤ 8 := hM.1.2.2.2.2.2.2.1
  obtain ⟨w166, w168, w170, w172, w174, w176, w178, w180, w182⟩ := id hW
  intro n
  induction n with
  | zero =>
    intro k m u hk
    have hle : nl ≤ k := by omega
    rw [b_Sale_soldLots_4]
    simp (maxSteps := 2000000) (disch := (first | omega | (simp (disch := omega) only [up_eq, up_ne, cpA_o, cpF_o, List.length_set] <;> omega) | fail)) only [ob_s, am_bi_s, am_bv_s, am_bl_s, ↓bif_d, lits, nI_addS, nI_mulS, nI_subS, nI_lt', nI_le', nI_eq', ↓rd_nI, ↓wrH, up_eq, up_ne, up_up, up_sw, List.set_set, g_seq, g_sne, Nat.reduceEqDiff, ↓reduceIte, List.length_set, Nat.add_sub_cancel_left, Nat.add_sub_cancel, ite_true, ite_false, if_true, if_false, not_true_eq_false, not_false_eq_true, Bool.and_true, Bool.true_and, true_or, or_true, false_or, or_false, and_true, true_and, and_false, false_and, Nat.not_lt_zero, hpRX, hpIX, hpFX, hpLX, hpSX, ↓rgX, ↓rpX, Nat.reduceLeDiff, Nat.reduceLT, Nat.reduceAdd, Nat.reduceMul, Nat.reduceSub, n2, hle]
    rfl
  | succ n ih =>
    intro k m u hk
    have hle : ¬ nl ≤ k := by omega
    have e10 := (hCL k (by omega)).1
    have b41 := fun x1 x2 x3 u4 h => b_Sale_soldLots_41 164 x1 x2 x3 u4 h
    rw [b_Sale_soldLots_4, cN_s]
    by_cases c0 : g (A 170) k = nI 0
    · by_cases c1 : x = -nI 1
      · have ih := fun u => ih (k + 1) (m + 1) u (by omega)
        rw [cif_t (p := (x = -nI 1 ∨ x = g r (18 + k)) ∧ g (A 170) k = nI 0) ⟨Or.inl c1, c0⟩, ← Nat.add_assoc]
        generalize cN (fun l => (x = -nI 1 ∨ x = g r (18 + l)) ∧ g (A 170) l = nI 0) n (k + 1) = w at ih ⊢
        subst c1
        simp (maxSteps := 2000000) (disch := (first | omega | (simp (disch := omega) only [up_eq, up_ne, cpA_o, cpF_o, List.length_set] <;> omega) | fail)) only [ob_s, am_bi_s, am_bv_s, am_bl_s, ↓bif_d, lits, nI_addS, nI_mulS, nI_subS, nI_lt', nI_le', nI_eq', ↓rd_nI, ↓wrH, up_eq, up_ne, up_up, up_sw, List.set_set, g_seq, g_sne, Nat.reduceEqDiff, ↓reduceIte, List.length_set, Nat.add_sub_cancel_left, Nat.add_sub_cancel, ite_true, ite_false, if_true, if_false, not_true_eq_false, not_false_eq_true, Bool.and_true, Bool.true_and, true_or, or_true, false_or, or_false, and_true, true_and, and_false, false_and, Nat.not_lt_zero, hpRX, hpIX, hpFX, hpLX, hpSX, ↓rgX, ↓rpX, Nat.reduceLeDiff, Nat.reduceLT, Nat.reduceAdd, Nat.reduceMul, Nat.reduceSub, n2, hle, b41, c0, ih]
      · by_cases c2 : x = g r (18 + k)
        · have ih := fun u => ih (k + 1) (m + 1) u (by omega)
          rw [cif_t (p := (x = -nI 1 ∨ x = g r (18 + k)) ∧ g (A 170) k = nI 0) ⟨Or.inr c2, c0⟩, ← Nat.add_assoc]
          rw [c2] at c1
          rw [c2] at ih
          rw [c2]
          simp (maxSteps := 2000000) (disch := (first | omega | (simp (disch := omega) only [up_eq, up_ne, cpA_o, cpF_o, List.length_set] <;> omega) | fail)) only [ob_s, am_bi_s, am_bv_s, am_bl_s, ↓bif_d, lits, nI_addS, nI_mulS, nI_subS, nI_lt', nI_le', nI_eq', ↓rd_nI, ↓wrH, up_eq, up_ne, up_up, up_sw, List.set_set, g_seq, g_sne, Nat.reduceEqDiff, ↓reduceIte, List.length_set, Nat.add_sub_cancel_left, Nat.add_sub_cancel, ite_true, ite_false, if_true, if_false, not_true_eq_false, not_false_eq_true, Bool.and_true, Bool.true_and, true_or, or_true, false_or, or_false, and_true, true_and, and_false, false_and, Nat.not_lt_zero, hpRX, hpIX, hpFX, hpLX, hpSX, ↓rgX, ↓rpX, Nat.reduceLeDiff, Nat.reduceLT, Nat.reduceAdd, Nat.reduceMul, Nat.reduceSub, n2, hle, c1, e10, b41, c0, ih]
        · have ih := fun u => ih (k + 1) m u (by omega)
          rw [cif_f (p := (x = -nI 1 ∨ x = g r (18 + k)) ∧ g (A 170) k = nI 0) (fun z => z.1.elim c1 c2), Nat.zero_add]
          simp (maxSteps := 2000000) (disch := (first | omega | (simp (disch := omega) only [up_eq, up_ne, cpA_o, cpF_o, List.length_set] <;> omega) | fail)) only [ob_s, am_bi_s, am_bv_s, am_bl_s, ↓bif_d, lits, nI_addS, nI_mulS, nI_subS, nI_lt', nI_le', nI_eq', ↓rd_nI, ↓wrH, up_eq, up_ne, up_up, up_sw, List.set_set, g_seq, g_sne, Nat.reduceEqDiff, ↓reduceIte, List.length_set, Nat.add_sub_cancel_left, Nat.add_sub_cancel, ite_true, ite_false, if_true, if_false, not_true_eq_false, not_false_eq_true, Bool.and_true, Bool.true_and, true_or, or_true, false_or, or_false, and_true, true_and, and_false, false_and, Nat.not_lt_zero, hpRX, hpIX, hpFX, hpLX, hpSX, ↓rgX, ↓rpX, Nat.reduceLeDiff, Nat.reduceLT, Nat.reduceAdd, Nat.reduceMul, Nat.reduceSub, n2, hle, c1, e10, c2, ih]
    · have ih := fun u => ih (k + 1) m u (by omega)
      rw [cif_f (p := (x = -nI 1 ∨ x = g r (18 + k)) ∧ g (A 170) k = nI 0) (fun z => c0 z.2), Nat.zero_add]
      by_cases c1 : x = -nI 1
      · rw [c1] at ih ⊢
        simp (maxSteps := 2000000) (disch := (first | omega | (simp (disch := omega) only [up_eq, up_ne, cpA_o, cpF_o, List.length_set] <;> omega) | fail)) only [ob_s, am_bi_s, am_bv_s, am_bl_s, ↓bif_d, lits, nI_addS, nI_mulS, nI_subS, nI_lt', nI_le', nI_eq', ↓rd_nI, ↓wrH, up_eq, up_ne, up_up, up_sw, List.set_set, g_seq, g_sne, Nat.reduceEqDiff, ↓reduceIte, List.length_set, Nat.add_sub_cancel_left, Nat.add_sub_cancel, ite_true, ite_false, if_true, if_false, not_true_eq_false, not_false_eq_true, Bool.and_true, Bool.true_and, true_or, or_true, false_or, or_false, and_true, true_and, and_false, false_and, Nat.not_lt_zero, hpRX, hpIX, hpFX, hpLX, hpSX, ↓rgX, ↓rpX, Nat.reduceLeDiff, Nat.reduceLT, Nat.reduceAdd, Nat.reduceMul, Nat.reduceSub, n2, hle, b41, c0, ih]
      · by_cases c2 : x = g r (18 + k)
        · rw [c2] at c1
          rw [c2] at ih
          rw [c2]
          simp (maxSteps := 2000000) (disch := (first | omega | (simp (disch := omega) only [up_eq, up_ne, cpA_o, cpF_o, List.length_set] <;> omega) | fail)) only [ob_s, am_bi_s, am_bv_s, am_bl_s, ↓bif_d, lits, nI_addS, nI_mulS, nI_subS, nI_lt', nI_le', nI_eq', ↓rd_nI, ↓wrH, up_eq, up_ne, up_up, up_sw, List.set_set, g_seq, g_sne, Nat.reduceEqDiff, ↓reduceIte, List.length_set, Nat.add_sub_cancel_left, Nat.add_sub_cancel, ite_true, ite_false, if_true, if_false, not_true_eq_false, not_false_eq_true, Bool.and_true, Bool.true_and, true_or, or_true, false_or, or_false, and_true, true_and, and_false, false_and, Nat.not_lt_zero, hpRX, hpIX, hpFX, hpLX, hpSX, ↓rgX, ↓rpX, Nat.reduceLeDiff, Nat.reduceLT, Nat.reduceAdd, Nat.reduceMul, Nat.reduceSub, n2, hle, c1, e10, b41, c0, ih]
        · simp (maxSteps := 2000000) (disch := (first | omega | (simp (disch := omega) only [up_eq, up_ne, cpA_o, cpF_o, List.length_set] <;> omega) | fail)) only [ob_s, am_bi_s, am_bv_s, am_bl_s, ↓bif_d, lits, nI_addS, nI_mulS, nI_subS, nI_lt', nI_le', nI_eq', ↓rd_nI, ↓wrH, up_eq, up_ne, up_up, up_sw, List.set_set, g_seq, g_sne, Nat.reduceEqDiff, ↓reduceIte, List.length_set, Nat.add_sub_cancel_left, Nat.add_sub_cancel, ite_true, ite_false, if_true, if_false, not_true_eq_false, not_false_eq_true, Bool.and_true, Bool.true_and, true_or, or_true, false_or, or_false, and_true, true_and, and_false, false_and, Nat.not_lt_zero, hpRX, hpIX, hpFX, hpLX, hpSX, ↓rgX, ↓rpX, Nat.reduceLeDiff, Nat.reduceLT, Nat.reduceAdd, Nat.reduceMul, Nat.reduceSub, n2, hle, c1, e10, c2, ih]
theorem c_sold {r : List Int32} (hC : Cx A F r nB nl nb nx) (hW : LenW A) (x : Int32) : am_cl m_Sale_soldLots [.ref 164, .int x] (heap A F P) = some (some (.int (nI (cN (fun l => (x = -nI 1 ∨ x = g r (18 + l)) ∧ g (A 170) l = nI 0) nl 0))), heap A F P) := by
  have h := c_sold4 (P := P) hC hW x nl 0 0 (.float 0) (by omega)
  rw [Nat.zero_add] at h
  rw [e_Sale_soldLots 164 _ _ rfl]
  simp only [lits]
  exact h
theorem mSt_0 {r : List Int32} {L B Fi Se Mn Bu Pr : List Int32} (hM : Mwf r nB nl nb nx) (hS : SaI r nB nl nb nx L B Fi Se Mn Bu Pr nl) {l : Nat} (hl : l < nl) : mSt r Mn Bu l = nI 0 ↔ ¬ g Bu l < nI 0 := by
  have h5 : (-nI 5 : Int32) < nI 0 := by decide
  unfold mSt
  by_cases c1 : g r (78 + l) = nI 1
  · rw [cif_t c1, SaI_aw hM hS hl c1]
    exact ⟨fun z => absurd z (by decide), fun z => absurd h5 z⟩
  · rw [cif_f c1]
    by_cases c2 : g Bu l < nI 0
    · rw [cif_f (fun z => z c2)]
      by_cases c3 : g Mn l = nI 0
      · rw [cif_t c3]; exact ⟨fun z => absurd z (by decide), fun z => absurd c2 z⟩
      · rw [cif_f c3]; exact ⟨fun z => absurd z (by decide), fun z => absurd c2 z⟩
    · rw [cif_t c2]; exact ⟨fun _ => c2, fun _ => rfl⟩
end X

/-! THE BIDS OF A LETTER -/
def prv (wf : Nat → Nat) (j : Nat) : Prop := 0 < j ∧ wf (j - 1) = wf j
def one (wf : Nat → Nat) (K j : Nat) : Prop := j + 1 < K ∧ wf j = wf (j + 1)
noncomputable def Gm (wf : Nat → Nat) (K G0 : Nat) : Nat → Nat
  | 0 => G0
  | j + 1 => cif (¬ prv wf j ∧ one wf K j) (Gm wf K G0 j + 1) (Gm wf K G0 j)
theorem Gm_s (wf : Nat → Nat) (K G0 j : Nat) : Gm wf K G0 (j + 1) = cif (¬ prv wf j ∧ one wf K j) (Gm wf K G0 j + 1) (Gm wf K G0 j) := rfl
theorem Gm_le (wf : Nat → Nat) (K G0 : Nat) : ∀ j, Gm wf K G0 j ≤ G0 + j := by
  intro j
  induction j with
  | zero => exact Nat.le_refl _
  | succ j ih =>
    rw [Gm_s]
    by_cases c : ¬ prv wf j ∧ one wf K j
    · rw [cif_t c]; omega
    · rw [cif_f c]; omega
noncomputable def grp (wf : Nat → Nat) (K G0 j : Nat) : Nat := cif (prv wf j ∨ one wf K j) (Gm wf K G0 (j + 1)) 0
theorem grp_prv {wf : Nat → Nat} {K G0 j : Nat} (hj : j < K) (h : prv wf j) : grp wf K G0 j = grp wf K G0 (j - 1) ∧ grp wf K G0 j = Gm wf K G0 j := by
  obtain ⟨h1, h2⟩ := h
  obtain ⟨i, rfl⟩ : ∃ i, j = i + 1 := ⟨j - 1, by omega⟩
  have h2 : wf i = wf (i + 1) := h2
  have ho : one wf K i := ⟨hj, h2⟩
  have e1 : grp wf K G0 (i + 1) = Gm wf K G0 (i + 1) := by
    unfold grp
    rw [cif_t (Or.inl ⟨h1, h2⟩), Gm_s, cif_f (fun z => z.1 ⟨h1, h2⟩)]
  refine ⟨?_, e1⟩
  rw [e1]
  show _ = grp wf K G0 i
  unfold grp
  rw [cif_t (Or.inr ho)]
theorem grp_le (wf : Nat → Nat) (K G0 j : Nat) : grp wf K G0 j ≤ G0 + j + 1 := by
  unfold grp
  have := Gm_le wf K G0 (j + 1)
  by_cases c : prv wf j ∨ one wf K j
  · rw [cif_t c]; omega
  · rw [cif_f c]; omega
/-- the greatest group behind one more bid -/
theorem Gm_max (wf : Nat → Nat) {K G0 j : Nat} (hj : j < K) : (if Gm wf K G0 j < grp wf K G0 j then grp wf K G0 j else Gm wf K G0 j) = Gm wf K G0 (j + 1) := by
  rw [Gm_s]
  by_cases c : prv wf j
  · rw [cif_f (fun z => z.1 c), (grp_prv hj c).2, if_neg (Nat.lt_irrefl _)]
  · by_cases d : one wf K j
    · have e : grp wf K G0 j = Gm wf K G0 j + 1 := by
        unfold grp
        rw [cif_t (Or.inr d), Gm_s, cif_t ⟨c, d⟩]
      rw [cif_t ⟨c, d⟩, e, if_pos (Nat.lt_succ_self _)]
    · have e : grp wf K G0 j = 0 := by
        unfold grp
        rw [cif_f (fun z => z.elim c d)]
      rw [cif_f (fun z => d z.2), e, if_neg (Nat.not_lt_zero _)]
theorem MaxOf_f {S : Nat → Prop} {f f' : Nat → Int32} {a m : Nat} (h : MaxOf S f a m) (hf : ∀ y, S y → f' y = f y) : MaxOf S f' a m := by
  obtain ⟨a1, a2, a3, a4⟩ := h
  refine ⟨a1, a2, fun y hy => by rw [hf y hy]; exact a3 y hy, ?_⟩
  rcases a4 with z | ⟨y, y1, y2⟩
  · exact Or.inl z
  · exact Or.inr ⟨y, y1, by rw [hf y y1]; exact y2⟩
/-- the rows of the bids have room -/
def LenX (A : Nat → List Int32) : Prop := (A 21).length = 60 ∧ (A 23).length = 60 ∧ (A 25).length = 60 ∧ (A 27).length = 60 ∧ (A 29).length = 60 ∧ (A 31).length = 60
section X
variable {A : Nat → List Int32} {F : Nat → Int32} {P : Nat → Nat}
theorem c_free4 {b N : Nat} (hX : LenX A) (hN : N ≤ 60) (hF : F 1906 = nI N) (hb : b < 8) (hg : ∀ y, y < N → ∃ k, k ≤ 1200000 ∧ g (A 29) y = nI k) : ∀ n x m, x + n = N → MaxOf (fun y => y < x ∧ g (A 21) y = nI b) (fun y => g (A 29) y) 0 m → ∃ m', MaxOf (fun y => y < N ∧ g (A 21) y = nI b) (fun y => g (A 29) y) 0 m' ∧ am_ev m_Bids_freeGroup (4, [.ref 19, .int (nI b), .int (nI m), .int (nI x)], [], heap A F P) = some (some (.int (nI (m' + 1))), heap A F P) := by
  obtain ⟨l1, l2, l3, l4, l5, l6⟩ := hX
  intro n
  induction n with
  | zero =>
    intro x m hx hm
    have hle : N ≤ x := by omega
    have e : x = N := by omega
    refine ⟨m, by rw [← e]; exact hm, ?_⟩
    rw [b_Bids_freeGroup_4]
    simp (maxSteps := 2000000) (disch := (first | omega | (simp (disch := omega) only [up_eq, up_ne, cpA_o, cpF_o, List.length_set] <;> omega) | fail)) only [ob_s, am_bi_s, am_bv_s, am_bl_s, ↓bif_d, lits, nI_addS, nI_mulS, nI_subS, nI_lt', nI_le', nI_eq', ↓rd_nI, ↓wrH, up_eq, up_ne, up_up, up_sw, List.set_set, g_seq, g_sne, Nat.reduceEqDiff, ↓reduceIte, List.length_set, Nat.add_sub_cancel_left, Nat.add_sub_cancel, ite_true, ite_false, if_true, if_false, not_true_eq_false, not_false_eq_true, Bool.and_true, Bool.true_and, true_or, or_true, false_or, or_false, and_true, true_and, and_false, false_and, Nat.not_lt_zero, hpRX, hpIX, hpFX, hpLX, hpSX, ↓rgX, ↓rpX, Nat.reduceLeDiff, Nat.reduceLT, Nat.reduceAdd, Nat.reduceMul, Nat.reduceSub, hF, hle]
  | succ n ih =>
    intro x m hx hm
    have hle : ¬ N ≤ x := by omega
    have hm12 := hm.1
    rw [b_Bids_freeGroup_4]
    by_cases c : g (A 21) x = nI b
    · obtain ⟨k, k1, k2⟩ := hg x (by omega)
      have hmx := am_max_N (a := m) (b := k) (by omega) (by omega)
      obtain ⟨m', q1, q2⟩ := ih (x + 1) (if m < k then k else m) (by omega) (MaxOf_step hm k1 k2 (fun z => ⟨fun ⟨z1, z2⟩ => by
        by_cases d : z = x
        · exact Or.inr d
        · exact Or.inl ⟨by omega, z2⟩, fun w => w.elim (fun w => ⟨by omega, w.2⟩) (fun w => by rw [w]; exact ⟨by omega, c⟩)⟩))
      refine ⟨m', q1, ?_⟩
      rw [← hmx] at q2
      simp (maxSteps := 2000000) (disch := (first | omega | (simp (disch := omega) only [up_eq, up_ne, cpA_o, cpF_o, List.length_set] <;> omega) | fail)) only [ob_s, am_bi_s, am_bv_s, am_bl_s, ↓bif_d, lits, nI_addS, nI_mulS, nI_subS, nI_lt', nI_le', nI_eq', ↓rd_nI, ↓wrH, up_eq, up_ne, up_up, up_sw, List.set_set, g_seq, g_sne, Nat.reduceEqDiff, ↓reduceIte, List.length_set, Nat.add_sub_cancel_left, Nat.add_sub_cancel, ite_true, ite_false, if_true, if_false, not_true_eq_false, not_false_eq_true, Bool.and_true, Bool.true_and, true_or, or_true, false_or, or_false, and_true, true_and, and_false, false_and, Nat.not_lt_zero, hpRX, hpIX, hpFX, hpLX, hpSX, ↓rgX, ↓rpX, Nat.reduceLeDiff, Nat.reduceLT, Nat.reduceAdd, Nat.reduceMul, Nat.reduceSub, hF, hle, c, k2, q2]
    · obtain ⟨m', q1, q2⟩ := ih (x + 1) m (by omega) (MaxOf_c hm (fun z => ⟨fun ⟨z1, z2⟩ => ⟨by omega, z2⟩, fun ⟨z1, z2⟩ => by
        by_cases d : z = x
        · rw [d] at z2; exact absurd z2 c
        · exact ⟨by omega, z2⟩⟩))
      refine ⟨m', q1, ?_⟩
      simp (maxSteps := 2000000) (disch := (first | omega | (simp (disch := omega) only [up_eq, up_ne, cpA_o, cpF_o, List.length_set] <;> omega) | fail)) only [ob_s, am_bi_s, am_bv_s, am_bl_s, ↓bif_d, lits, nI_addS, nI_mulS, nI_subS, nI_lt', nI_le', nI_eq', ↓rd_nI, ↓wrH, up_eq, up_ne, up_up, up_sw, List.set_set, g_seq, g_sne, Nat.reduceEqDiff, ↓reduceIte, List.length_set, Nat.add_sub_cancel_left, Nat.add_sub_cancel, ite_true, ite_false, if_true, if_false, not_true_eq_false, not_false_eq_true, Bool.and_true, Bool.true_and, true_or, or_true, false_or, or_false, and_true, true_and, and_false, false_and, Nat.not_lt_zero, hpRX, hpIX, hpFX, hpLX, hpSX, ↓rgX, ↓rpX, Nat.reduceLeDiff, Nat.reduceLT, Nat.reduceAdd, Nat.reduceMul, Nat.reduceSub, hF, hle, c, q2]
theorem MaxOf_none {S : Nat → Prop} {f : Nat → Int32} (h : ∀ y, ¬ S y) : MaxOf S f 0 0 := ⟨by omega, Nat.le_refl _, fun y hy => absurd hy (h y), Or.inl rfl⟩
theorem c_free {b N G : Nat} (hX : LenX A) (hN : N ≤ 60) (hF : F 1906 = nI N) (hb : b < 8) (hg : ∀ y, y < N → ∃ k, k ≤ 1200000 ∧ g (A 29) y = nI k) (hG : MaxOf (fun y => y < N ∧ g (A 21) y = nI b) (fun y => g (A 29) y) 0 G) : am_cl m_Bids_freeGroup [.ref 19, .int (nI b)] (heap A F P) = some (some (.int (nI (G + 1))), heap A F P) := by
  obtain ⟨m', q1, q2⟩ := c_free4 (P := P) hX hN hF hb hg N 0 0 (by omega) (MaxOf_none (fun y hy => Nat.not_lt_zero _ hy.1))
  have e := MaxOf_u (fun y => Iff.rfl) q1 hG
  subst e
  rw [e_Bids_freeGroup 19 _ _ rfl]
  simp only [lits]
  exact q2
/-- the wishes of a letter -/
theorem c_wish1 {K i : Nat} {wf : Nat → Nat} (hK : K ≤ 20) (hi : i < K) (h5 : F 18405 = nI K) (l : (A 191).length = 20) (hw : ∀ j, j < K → g (A 191) j = nI (wf j) ∧ wf j ≤ 20) : am_cl m_Letter_isInOneWish [.ref 184, .int (nI i - nI 1), .int (nI i)] (heap A F P) = some (some (.int (b01 (prv wf i))), heap A F P) := by
  rw [e_Letter_isInOneWish 184 _ _ _ rfl]
  have hle : ¬ K ≤ i := by omega
  rcases Nat.eq_zero_or_pos i with z | z
  · subst z
    have hneg : (nI 0 - nI 1 < nI 0) = True := by simp only [eq_iff_iff, iff_true]; decide
    rw [b01_f (fun z => Nat.lt_irrefl _ z.1)]
    simp (maxSteps := 2000000) (disch := (first | omega | (simp (disch := omega) only [up_eq, up_ne, cpA_o, cpF_o, List.length_set] <;> omega) | fail)) only [ob_s, am_bi_s, am_bv_s, am_bl_s, ↓bif_d, lits, nI_addS, nI_mulS, nI_subS, nI_lt', nI_le', nI_eq', ↓rd_nI, ↓wrH, up_eq, up_ne, up_up, up_sw, List.set_set, g_seq, g_sne, Nat.reduceEqDiff, ↓reduceIte, List.length_set, Nat.add_sub_cancel_left, Nat.add_sub_cancel, ite_true, ite_false, if_true, if_false, not_true_eq_false, not_false_eq_true, Bool.and_true, Bool.true_and, true_or, or_true, false_or, or_false, and_true, true_and, and_false, false_and, Nat.not_lt_zero, hpRX, hpIX, hpFX, hpLX, hpSX, ↓rgX, ↓rpX, Nat.reduceLeDiff, Nat.reduceLT, Nat.reduceAdd, Nat.reduceMul, Nat.reduceSub, hneg]
  · have e1 := (hw (i - 1) (by omega)).1
    have e2 := (hw i hi).1
    have w1 := (hw (i - 1) (by omega)).2
    have w2 := (hw i hi).2
    by_cases c : wf (i - 1) = wf i
    · rw [b01_t (p := prv wf i) ⟨z, c⟩]
      simp (maxSteps := 2000000) (disch := (first | omega | (simp (disch := omega) only [up_eq, up_ne, cpA_o, cpF_o, List.length_set] <;> omega) | fail)) only [ob_s, am_bi_s, am_bv_s, am_bl_s, ↓bif_d, lits, nI_addS, nI_mulS, nI_subS, nI_lt', nI_le', nI_eq', ↓rd_nI, ↓wrH, up_eq, up_ne, up_up, up_sw, List.set_set, g_seq, g_sne, Nat.reduceEqDiff, ↓reduceIte, List.length_set, Nat.add_sub_cancel_left, Nat.add_sub_cancel, ite_true, ite_false, if_true, if_false, not_true_eq_false, not_false_eq_true, Bool.and_true, Bool.true_and, true_or, or_true, false_or, or_false, and_true, true_and, and_false, false_and, Nat.not_lt_zero, hpRX, hpIX, hpFX, hpLX, hpSX, ↓rgX, ↓rpX, Nat.reduceLeDiff, Nat.reduceLT, Nat.reduceAdd, Nat.reduceMul, Nat.reduceSub, h5, hle, e1, e2, c]
    · rw [b01_f (p := prv wf i) (fun w => c w.2)]
      simp (maxSteps := 2000000) (disch := (first | omega | (simp (disch := omega) only [up_eq, up_ne, cpA_o, cpF_o, List.length_set] <;> omega) | fail)) only [ob_s, am_bi_s, am_bv_s, am_bl_s, ↓bif_d, lits, nI_addS, nI_mulS, nI_subS, nI_lt', nI_le', nI_eq', ↓rd_nI, ↓wrH, up_eq, up_ne, up_up, up_sw, List.set_set, g_seq, g_sne, Nat.reduceEqDiff, ↓reduceIte, List.length_set, Nat.add_sub_cancel_left, Nat.add_sub_cancel, ite_true, ite_false, if_true, if_false, not_true_eq_false, not_false_eq_true, Bool.and_true, Bool.true_and, true_or, or_true, false_or, or_false, and_true, true_and, and_false, false_and, Nat.not_lt_zero, hpRX, hpIX, hpFX, hpLX, hpSX, ↓rgX, ↓rpX, Nat.reduceLeDiff, Nat.reduceLT, Nat.reduceAdd, Nat.reduceMul, Nat.reduceSub, h5, hle, e1, e2, c]
theorem c_wish2 {K i : Nat} {wf : Nat → Nat} (hK : K ≤ 20) (hi : i < K) (h5 : F 18405 = nI K) (l : (A 191).length = 20) (hw : ∀ j, j < K → g (A 191) j = nI (wf j) ∧ wf j ≤ 20) : am_cl m_Letter_isInOneWish [.ref 184, .int (nI i), .int (nI (i + 1))] (heap A F P) = some (some (.int (b01 (one wf K i))), heap A F P) := by
  rw [e_Letter_isInOneWish 184 _ _ _ rfl]
  by_cases z : i + 1 < K
  · have hle : ¬ K ≤ i + 1 := by omega
    have e1 := (hw i hi).1
    have e2 := (hw (i + 1) z).1
    have w1 := (hw i hi).2
    have w2 := (hw (i + 1) z).2
    by_cases c : wf i = wf (i + 1)
    · rw [b01_t (p := one wf K i) ⟨z, c⟩]
      simp (maxSteps := 2000000) (disch := (first | omega | (simp (disch := omega) only [up_eq, up_ne, cpA_o, cpF_o, List.length_set] <;> omega) | fail)) only [ob_s, am_bi_s, am_bv_s, am_bl_s, ↓bif_d, lits, nI_addS, nI_mulS, nI_subS, nI_lt', nI_le', nI_eq', ↓rd_nI, ↓wrH, up_eq, up_ne, up_up, up_sw, List.set_set, g_seq, g_sne, Nat.reduceEqDiff, ↓reduceIte, List.length_set, Nat.add_sub_cancel_left, Nat.add_sub_cancel, ite_true, ite_false, if_true, if_false, not_true_eq_false, not_false_eq_true, Bool.and_true, Bool.true_and, true_or, or_true, false_or, or_false, and_true, true_and, and_false, false_and, Nat.not_lt_zero, hpRX, hpIX, hpFX, hpLX, hpSX, ↓rgX, ↓rpX, Nat.reduceLeDiff, Nat.reduceLT, Nat.reduceAdd, Nat.reduceMul, Nat.reduceSub, h5, hle, e1, e2, c]
    · rw [b01_f (p := one wf K i) (fun w => c w.2)]
      simp (maxSteps := 2000000) (disch := (first | omega | (simp (disch := omega) only [up_eq, up_ne, cpA_o, cpF_o, List.length_set] <;> omega) | fail)) only [ob_s, am_bi_s, am_bv_s, am_bl_s, ↓bif_d, lits, nI_addS, nI_mulS, nI_subS, nI_lt', nI_le', nI_eq', ↓rd_nI, ↓wrH, up_eq, up_ne, up_up, up_sw, List.set_set, g_seq, g_sne, Nat.reduceEqDiff, ↓reduceIte, List.length_set, Nat.add_sub_cancel_left, Nat.add_sub_cancel, ite_true, ite_false, if_true, if_false, not_true_eq_false, not_false_eq_true, Bool.and_true, Bool.true_and, true_or, or_true, false_or, or_false, and_true, true_and, and_false, false_and, Nat.not_lt_zero, hpRX, hpIX, hpFX, hpLX, hpSX, ↓rgX, ↓rpX, Nat.reduceLeDiff, Nat.reduceLT, Nat.reduceAdd, Nat.reduceMul, Nat.reduceSub, h5, hle, e1, e2, c]
  · have hle : K ≤ i + 1 := by omega
    rw [b01_f (p := one wf K i) (fun w => z w.1)]
    simp (maxSteps := 2000000) (disch := (first | omega | (simp (disch := omega) only [up_eq, up_ne, cpA_o, cpF_o, List.length_set] <;> omega) | fail)) only [ob_s, am_bi_s, am_bv_s, am_bl_s, ↓bif_d, lits, nI_addS, nI_mulS, nI_subS, nI_lt', nI_le', nI_eq', ↓rd_nI, ↓wrH, up_eq, up_ne, up_up, up_sw, List.set_set, g_seq, g_sne, Nat.reduceEqDiff, ↓reduceIte, List.length_set, Nat.add_sub_cancel_left, Nat.add_sub_cancel, ite_true, ite_false, if_true, if_false, not_true_eq_false, not_false_eq_true, Bool.and_true, Bool.true_and, true_or, or_true, false_or, or_false, and_true, true_and, and_false, false_and, Nat.not_lt_zero, hpRX, hpIX, hpFX, hpLX, hpSX, ↓rgX, ↓rpX, Nat.reduceLeDiff, Nat.reduceLT, Nat.reduceAdd, Nat.reduceMul, Nat.reduceSub, h5, hle]
/-- the class's bids of a letter -/
theorem c_bids {b nx K G0 : Nat} {v x3 : Int32} {lf af wf : Nat → Nat} (hK : K ≤ 20) (hnK : nx + K ≤ 60) (hb : b < 8) (hG0 : G0 ≤ 1100000) : ∀ n i γ (A : Nat → List Int32) (F : Nat → Int32), i + n = K → LenX A → ((A 187).length = 20 ∧ (A 189).length = 20 ∧ (A 191).length = 20) → F 18405 = nI K → (∀ j, j < K → g (A 187) j = nI (lf j) ∧ g (A 189) j = nI (af j) ∧ g (A 191) j = nI (wf j) ∧ wf j ≤ 20) → F 1906 = nI (nx + i) → (∀ y, y < nx + i → ∃ k, k ≤ 1200000 ∧ g (A 29) y = nI k) → MaxOf (fun y => y < nx + i ∧ g (A 21) y = nI b) (fun y => g (A 29) y) 0 (Gm wf K G0 i) → (0 < i → γ = grp wf K G0 (i - 1)) →
    ∃ A' F', (∀ j, j ≠ 21 → j ≠ 23 → j ≠ 25 → j ≠ 27 → j ≠ 29 → j ≠ 31 → A' j = A j) ∧ (∀ k, k ≠ 1906 → F' k = F k) ∧ LenX A' ∧ F' 1906 = nI (nx + K) ∧
      (∀ x, x < nx + i → g (A' 21) x = g (A 21) x ∧ g (A' 23) x = g (A 23) x ∧ g (A' 25) x = g (A 25) x ∧ g (A' 27) x = g (A 27) x ∧ g (A' 29) x = g (A 29) x ∧ g (A' 31) x = g (A 31) x) ∧
      (∀ j, i ≤ j → j < K → g (A' 21) (nx + j) = nI b ∧ g (A' 23) (nx + j) = nI (lf j) ∧ g (A' 25) (nx + j) = nI (af j) ∧ g (A' 27) (nx + j) = v ∧ g (A' 29) (nx + j) = nI (grp wf K G0 j) ∧ g (A' 31) (nx + j) = nI 0) ∧
      am_ev m_Pa_letter (87, [.ref 1, .int (nI b), .int v, .int x3, .int (nI γ), .int (nI i)], [], heap A F P) = some (some (.int (nI K)), heap A' F' P) := by
  classical
  intro n
  induction n with
  | zero =>
    intro i γ A F hi hX hl h5 hr hN hg hG hγ
    have hle : K ≤ i := by omega
    have e : i = K := by omega
    refine ⟨A, F, fun _ _ _ _ _ _ _ => rfl, fun _ _ => rfl, hX, by rw [hN, e], fun x hx => ⟨rfl, rfl, rfl, rfl, rfl, rfl⟩, fun j z1 z2 => by omega, ?_⟩
    rw [b_Pa_letter_87]
    simp (maxSteps := 2000000) (disch := (first | omega | (simp (disch := omega) only [up_eq, up_ne, cpA_o, cpF_o, List.length_set] <;> omega) | fail)) only [ob_s, am_bi_s, am_bv_s, am_bl_s, ↓bif_d, lits, nI_addS, nI_mulS, nI_subS, nI_lt', nI_le', nI_eq', ↓rd_nI, ↓wrH, up_eq, up_ne, up_up, up_sw, List.set_set, g_seq, g_sne, Nat.reduceEqDiff, ↓reduceIte, List.length_set, Nat.add_sub_cancel_left, Nat.add_sub_cancel, ite_true, ite_false, if_true, if_false, not_true_eq_false, not_false_eq_true, Bool.and_true, Bool.true_and, true_or, or_true, false_or, or_false, and_true, true_and, and_false, false_and, Nat.not_lt_zero, hpRX, hpIX, hpFX, hpLX, hpSX, ↓rgX, ↓rpX, Nat.reduceLeDiff, Nat.reduceLT, Nat.reduceAdd, Nat.reduceMul, Nat.reduceSub, h5, hle]
  | succ n ih =>
    intro i γ A F hi hX hl h5 hr hN hg hG hγ
    have hiK : i < K := by omega
    have hle : ¬ K ≤ i := by omega
    obtain ⟨l21, l23, l25, l27, l29, l31⟩ := id hX
    obtain ⟨l187, l189, l191⟩ := id hl
    obtain ⟨r1, r2, r3, r4⟩ := hr i hiK
    have hwr : ∀ j, j < K → g (A 191) j = nI (wf j) ∧ wf j ≤ 20 := fun j hj => ⟨(hr j hj).2.2.1, (hr j hj).2.2.2⟩
    have hw1 := c_wish1 (P := P) hK hiK h5 l191 hwr
    have hw2 := c_wish2 (P := P) hK hiK h5 l191 hwr
    have hfr := c_free (P := P) hX (show nx + i ≤ 60 by omega) hN hb hg hG
    have hadd := fun x1 x2 x3 x4 x5 A F P => e_Bids_add 19 x1 x2 x3 x4 x5 (heap A F P) rfl
    have hgle := grp_le wf K G0 i
    -- one more
    obtain ⟨A', F', q1, q2, q3, q4, q5, q6, q7⟩ := ih (i + 1) (grp wf K G0 i) (up (up (up (up (up (up A 21 ((A 21).set (nx + i) (nI b))) 23 ((A 23).set (nx + i) (nI (lf i)))) 25 ((A 25).set (nx + i) (nI (af i)))) 27 ((A 27).set (nx + i) v)) 29 ((A 29).set (nx + i) (nI (grp wf K G0 i)))) 31 ((A 31).set (nx + i) (nI 0))) (up F 1906 (nI (nx + i + 1))) (by omega)
      (by unfold LenX; simp (disch := (first | omega | (simp (disch := omega) only [up_eq, up_ne, cpA_o, List.length_set] <;> omega) | fail)) only [st_e, sf_e, Nat.reduceAdd, Nat.reduceMul, up_eq, up_ne, cpA_o, cpF_o, g_seq, g_sne, List.length_set]; exact hX) (by simp (disch := (first | omega | fail)) only [st_e, sf_e, Nat.reduceAdd, Nat.reduceMul, up_eq, up_ne, cpA_o, cpF_o]; exact hl) (by simp (disch := (first | omega | fail)) only [st_e, sf_e, Nat.reduceAdd, Nat.reduceMul, up_eq, up_ne, cpA_o, cpF_o]; exact h5) (by simp (disch := (first | omega | fail)) only [st_e, sf_e, Nat.reduceAdd, Nat.reduceMul, up_eq, up_ne, cpA_o, cpF_o]; exact hr) (by simp (disch := (first | omega | fail)) only [st_e, sf_e, Nat.reduceAdd, Nat.reduceMul, up_eq, up_ne, cpA_o, cpF_o]; rfl)
      (fun y hy => by
        simp (disch := (first | omega | fail)) only [st_e, sf_e, Nat.reduceAdd, Nat.reduceMul, up_eq, up_ne, cpA_o, cpF_o]
        by_cases c : y = nx + i
        · subst c
          exact ⟨_, by omega, g_seq (by omega)⟩
        · rw [g_sne (by omega) c]
          exact hg y (by omega))
      (by
        have hst := MaxOf_step (S' := fun y => y < nx + (i + 1) ∧ g ((A 21).set (nx + i) (nI b)) y = nI b) (n := grp wf K G0 i) (y := nx + i) (f := fun y => g ((A 29).set (nx + i) (nI (grp wf K G0 i))) y) (MaxOf_f hG (fun y hy => g_sne (by omega) (by have := hy.1; omega))) (by omega) (g_seq (by omega)) (fun z => ⟨fun ⟨z1, z2⟩ => by
          by_cases d : z = nx + i
          · exact Or.inr d
          · rw [g_sne (by omega) d] at z2
            exact Or.inl ⟨by omega, z2⟩, fun w => w.elim (fun w => ⟨by omega, by rw [g_sne (by omega) (by omega)]; exact w.2⟩) (fun w => by rw [w]; exact ⟨by omega, g_seq (by omega)⟩)⟩)
        rw [Gm_max wf hiK] at hst
        simp (disch := (first | omega | fail)) only [st_e, sf_e, Nat.reduceAdd, Nat.reduceMul, up_eq, up_ne, cpA_o, cpF_o]
        exact hst)
      (fun _ => rfl)
    refine ⟨A', F', fun j z1 z2 z3 z4 z5 z6 => ?_, fun k z => ?_, q3, q4, fun x hx => ?_, fun j z1 z2 => ?_, ?_⟩
    · rw [q1 j z1 z2 z3 z4 z5 z6, up_ne _ _ z6, up_ne _ _ z5, up_ne _ _ z4, up_ne _ _ z3, up_ne _ _ z2, up_ne _ _ z1]
    · rw [q2 k z, up_ne _ _ z]
    · obtain ⟨p1, p2, p3, p4, p5, p6⟩ := q5 x (by omega)
      rw [p1, p2, p3, p4, p5, p6]
      simp (disch := (first | omega | (simp (disch := omega) only [up_eq, up_ne, cpA_o, List.length_set] <;> omega) | fail)) only [st_e, sf_e, Nat.reduceAdd, Nat.reduceMul, up_eq, up_ne, cpA_o, cpF_o, g_seq, g_sne, List.length_set]
      exact ⟨trivial, trivial, trivial, trivial, trivial, trivial⟩
    · by_cases c : j = i
      · subst c
        obtain ⟨p1, p2, p3, p4, p5, p6⟩ := q5 (nx + j) (by omega)
        rw [p1, p2, p3, p4, p5, p6]
        simp (disch := (first | omega | (simp (disch := omega) only [up_eq, up_ne, cpA_o, List.length_set] <;> omega) | fail)) only [st_e, sf_e, Nat.reduceAdd, Nat.reduceMul, up_eq, up_ne, cpA_o, cpF_o, g_seq, g_sne, List.length_set]
        exact ⟨trivial, trivial, trivial, trivial, trivial, trivial⟩
      · exact q6 j (by omega) z2
    · have b148 := fun x1 x2 x3 x4 x5 h => b_Pa_letter_148 1 x1 x2 x3 x4 x5 h
      rw [b_Pa_letter_87]
      by_cases c1 : prv wf i
      · have hγ := hγ c1.1
        rw [← (grp_prv hiK c1).1] at hγ
        rw [hγ]
        rw [b01_t c1] at hw1
        simp (maxSteps := 2000000) (disch := (first | omega | (simp (disch := omega) only [up_eq, up_ne, cpA_o, cpF_o, List.length_set] <;> omega) | fail)) only [ob_s, am_bi_s, am_bv_s, am_bl_s, ↓bif_d, lits, nI_addS, nI_mulS, nI_subS, nI_lt', nI_le', nI_eq', ↓rd_nI, ↓wrH, up_eq, up_ne, up_up, up_sw, List.set_set, g_seq, g_sne, Nat.reduceEqDiff, ↓reduceIte, List.length_set, Nat.add_sub_cancel_left, Nat.add_sub_cancel, ite_true, ite_false, if_true, if_false, not_true_eq_false, not_false_eq_true, Bool.and_true, Bool.true_and, true_or, or_true, false_or, or_false, and_true, true_and, and_false, false_and, Nat.not_lt_zero, hpRX, hpIX, hpFX, hpLX, hpSX, ↓rgX, ↓rpX, Nat.reduceLeDiff, Nat.reduceLT, Nat.reduceAdd, Nat.reduceMul, Nat.reduceSub, h5, hle, hw1, b148, r1, r2, hadd, hN, q7]
      · rw [b01_f c1] at hw1
        by_cases c2 : one wf K i
        · have e : grp wf K G0 i = Gm wf K G0 i + 1 := by
            unfold grp
            rw [cif_t (Or.inr c2), Gm_s, cif_t ⟨c1, c2⟩]
          rw [b01_t c2] at hw2
          rw [e] at q7
          simp (maxSteps := 2000000) (disch := (first | omega | (simp (disch := omega) only [up_eq, up_ne, cpA_o, cpF_o, List.length_set] <;> omega) | fail)) only [ob_s, am_bi_s, am_bv_s, am_bl_s, ↓bif_d, lits, nI_addS, nI_mulS, nI_subS, nI_lt', nI_le', nI_eq', ↓rd_nI, ↓wrH, up_eq, up_ne, up_up, up_sw, List.set_set, g_seq, g_sne, Nat.reduceEqDiff, ↓reduceIte, List.length_set, Nat.add_sub_cancel_left, Nat.add_sub_cancel, ite_true, ite_false, if_true, if_false, not_true_eq_false, not_false_eq_true, Bool.and_true, Bool.true_and, true_or, or_true, false_or, or_false, and_true, true_and, and_false, false_and, Nat.not_lt_zero, hpRX, hpIX, hpFX, hpLX, hpSX, ↓rgX, ↓rpX, Nat.reduceLeDiff, Nat.reduceLT, Nat.reduceAdd, Nat.reduceMul, Nat.reduceSub, h5, hle, hw1, hw2, hfr, b148, r1, r2, hadd, hN, q7]
        · have e : grp wf K G0 i = 0 := by
            unfold grp
            rw [cif_f (fun z => z.elim c1 c2)]
          rw [b01_f c2] at hw2
          rw [e] at q7
          simp (maxSteps := 2000000) (disch := (first | omega | (simp (disch := omega) only [up_eq, up_ne, cpA_o, cpF_o, List.length_set] <;> omega) | fail)) only [ob_s, am_bi_s, am_bv_s, am_bl_s, ↓bif_d, lits, nI_addS, nI_mulS, nI_subS, nI_lt', nI_le', nI_eq', ↓rd_nI, ↓wrH, up_eq, up_ne, up_up, up_sw, List.set_set, g_seq, g_sne, Nat.reduceEqDiff, ↓reduceIte, List.length_set, Nat.add_sub_cancel_left, Nat.add_sub_cancel, ite_true, ite_false, if_true, if_false, not_true_eq_false, not_false_eq_true, Bool.and_true, Bool.true_and, true_or, or_true, false_or, or_false, and_true, true_and, and_false, false_and, Nat.not_lt_zero, hpRX, hpIX, hpFX, hpLX, hpSX, ↓rgX, ↓rpX, Nat.reduceLeDiff, Nat.reduceLT, Nat.reduceAdd, Nat.reduceMul, Nat.reduceSub, h5, hle, hw1, hw2, b148, r1, r2, hadd, hN, q7]
end X

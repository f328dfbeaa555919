/-! UNDO, THE TEXT -/
section X
variable {A : Nat → List Int32} {F : Nat → Int32} {P : Nat → Nat} {nB nl nb nx q t : Nat}
theorem LenO_c {A A' : Nat → List Int32} (h : ∀ j, 164 ≤ j → ¬ j = 193 → A' j = A j) (hl : LenO A) : LenO A' := by
  unfold LenO at hl ⊢
  rw [h 194 (by omega) (by omega), h 185 (by omega) (by omega), h 195 (by omega) (by omega), h 187 (by omega) (by omega), h 189 (by omega) (by omega), h 191 (by omega) (by omega), h 196 (by omega) (by omega), h 197 (by omega) (by omega), h 198 (by omega) (by omega), h 199 (by omega) (by omega), h 200 (by omega) (by omega), h 201 (by omega) (by omega), h 202 (by omega) (by omega), h 203 (by omega) (by omega), h 204 (by omega) (by omega), h 205 (by omega) (by omega), h 166 (by omega) (by omega), h 168 (by omega) (by omega), h 170 (by omega) (by omega), h 172 (by omega) (by omega), h 174 (by omega) (by omega), h 176 (by omega) (by omega), h 178 (by omega) (by omega), h 180 (by omega) (by omega), h 182 (by omega) (by omega)]
  exact hl
/-- the last state of the history comes back; the history: sl (A 194) s -/
theorem k_undo {p : Nat} (hI : InvN A F P nB nl nb nx (p + 1) t) : ∃ mB ml mb mx A1 F1, am_cl m_Pa_undo [.ref 1] (heap A F P) = some (some (.int (nI p)), heap A1 F1 P) ∧ InvN A1 F1 P mB ml mb mx p t ∧ A1 193 = sl (A 194) p ∧ A1 194 = A 194 ∧ A1 195 = A 195 ∧ A1 0 = A 0 ∧ ∀ j, 206 ≤ j → A1 j = A j := by
  have hI0 := hI
  obtain ⟨hS, ⟨l1, l2, l3⟩, ⟨q1, q2, q3, q4, q5, q6⟩, hT, -⟩ := hI0
  have hp4 : p < 4 := by omega
  have hb := q4 p hp4
  obtain ⟨b1, b2⟩ := hsP_b hb
  have hr := s_restore1 (A := A) (F := F) (P := P) hp4 q2 q4 l1 l2
  obtain ⟨mB, ml, mb, mx, hm⟩ := q6 p (by omega)
  have c0 : 0 < p + 1 := by omega
  refine ⟨mB, ml, mb, mx, up (cpA A (P p) 2) 193 (sl (A 194) p), up (up (up (cpF F (P p) 2) 3401 (nI p)) 16410 (nI 0)) 19202 (nI p), ?_, ?_, ?_, ?_, ?_, ?_, ?_⟩
  · rw [gh193, ghF2, e_Pa_undo 1 _ rfl]
    simp (maxSteps := 2000000) (disch := (first | omega | (simp (disch := omega) only [up_eq, up_ne, cpA_o, List.length_set] <;> omega) | fail)) only [ob_s, am_bi_s, am_bv_s, am_bl_s, ↓bif_d, lits, nI_addS, nI_mulS, nI_subS, nI_lt', nI_le', nI_eq', ↓rd_nI, ↓wrH, up_eq, up_ne, up_up, up_sw, List.set_set, g_seq, g_sne, Nat.reduceEqDiff, ↓reduceIte, List.length_set, Nat.add_sub_cancel_left, Nat.add_sub_cancel, ite_true, ite_false, if_true, if_false, not_true_eq_false, not_false_eq_true, Bool.and_true, Bool.true_and, true_or, or_true, false_or, or_false, and_true, true_and, and_false, false_and, Nat.not_lt_zero, hpRX, hpIX, hpFX, hpLX, hpSX, ↓rgX, ↓rpX, Nat.reduceLeDiff, Nat.reduceLT, Nat.reduceAdd, Nat.reduceMul, Nat.reduceSub, q2, c0, hr]
  · refine ⟨?_, ⟨?_, ?_, ?_⟩, ⟨by omega, ?_, ?_, q4, q5, ?_⟩, ?_, Or.inl ?_⟩
    · have e1 : st (up (cpA A (P p) 2) 193 (sl (A 194) p)) 2 = st A (P p) := by
        refine st_c (fun j hj => ?_)
        rw [up_ne _ _ (by omega), cpA_i hj]
      have e2 : sf (up (up (up (cpF F (P p) 2) 3401 (nI p)) 16410 (nI 0)) 19202 (nI p)) 2 = sf F (P p) := by
        refine sf_c (fun k hk => ?_)
        rw [up_ne _ _ (by omega), up_ne _ _ (by omega), up_ne _ _ (by omega), cpF_i hk]
      rw [e1, e2, up_eq]
      exact hm
    · refine LenS_c (fun j hj => ?_) (l2 _ hb)
      rw [up_ne _ _ (by omega), cpA_i hj]
    · intro c hc
      obtain ⟨c1, c2⟩ := hsP_b hc
      refine LenS_c (fun j hj => ?_) (l2 c hc)
      rw [up_ne _ _ (by omega), cpA_o (by omega)]
    · refine LenO_c (fun j z1 z2 => ?_) l3
      rw [up_ne _ _ z2, cpA_o (by omega)]
    · simp (disch := (first | omega | fail)) only [st_e, sf_e, Nat.reduceAdd, Nat.reduceMul, up_eq, up_ne, cpA_o, cpF_o]
    · simp (disch := (first | omega | fail)) only [st_e, sf_e, Nat.reduceAdd, Nat.reduceMul, up_eq, up_ne, cpA_o, cpF_o]
    · intro s hs
      obtain ⟨kB, kl, kb, kx, hk⟩ := q6 s (by omega)
      have hc := q4 s (by omega)
      obtain ⟨c1, c2⟩ := hsP_b hc
      refine ⟨kB, kl, kb, kx, ?_⟩
      have e1 : st (up (cpA A (P p) 2) 193 (sl (A 194) p)) (P s) = st A (P s) := by
        refine st_c (fun j hj => ?_)
        rw [up_ne _ _ (by omega), cpA_o (by omega)]
      have e2 : sf (up (up (up (cpF F (P p) 2) 3401 (nI p)) 16410 (nI 0)) 19202 (nI p)) (P s) = sf F (P s) := by
        refine sf_c (fun k hk => ?_)
        rw [up_ne _ _ (by omega), up_ne _ _ (by omega), up_ne _ _ (by omega), cpF_o (by omega)]
      have e3 : up (cpA A (P p) 2) 193 (sl (A 194) p) 194 = A 194 := by simp (disch := (first | omega | fail)) only [st_e, sf_e, Nat.reduceAdd, Nat.reduceMul, up_eq, up_ne, cpA_o, cpF_o]
      rw [e1, e2, e3]
      exact hk
    · obtain ⟨t1, t2, t3, t4⟩ := hT
      refine ⟨t1, by simp (disch := (first | omega | fail)) only [st_e, sf_e, Nat.reduceAdd, Nat.reduceMul, up_eq, up_ne, cpA_o, cpF_o]; exact t2, by simp (disch := (first | omega | fail)) only [st_e, sf_e, Nat.reduceAdd, Nat.reduceMul, up_eq, up_ne, cpA_o, cpF_o]; exact t3, fun j hj => ?_⟩
      simp (disch := (first | omega | fail)) only [st_e, sf_e, Nat.reduceAdd, Nat.reduceMul, up_eq, up_ne, cpA_o, cpF_o]
      exact t4 j hj
    · simp (disch := (first | omega | fail)) only [st_e, sf_e, Nat.reduceAdd, Nat.reduceMul, up_eq, up_ne, cpA_o, cpF_o]
  · rw [up_eq]
  · simp (disch := (first | omega | fail)) only [st_e, sf_e, Nat.reduceAdd, Nat.reduceMul, up_eq, up_ne, cpA_o, cpF_o]
  · simp (disch := (first | omega | fail)) only [st_e, sf_e, Nat.reduceAdd, Nat.reduceMul, up_eq, up_ne, cpA_o, cpF_o]
  · simp (disch := (first | omega | fail)) only [st_e, sf_e, Nat.reduceAdd, Nat.reduceMul, up_eq, up_ne, cpA_o, cpF_o]
  · intro j hj; simp (disch := (first | omega | fail)) only [st_e, sf_e, Nat.reduceAdd, Nat.reduceMul, up_eq, up_ne, cpA_o, cpF_o]
theorem InvN_text (hI : InvN A F P nB nl nb nx q t) {S S' : List Int32} {t' : Nat} (h1 : S.length = 80) (h2 : S'.length = 80) (h3 : t' ≤ 80) (h4 : ∀ j, j < t' → g S j = g S' j) : InvN (up (up A 185 S) 195 S') (up (up F 18401 (nI t')) 19203 (nI t')) P nB nl nb nx q t' := by
  obtain ⟨hS, ⟨l1, l2, l3⟩, ⟨q1, q2, q3, q4, q5, q6⟩, hT, hH⟩ := hI
  have eA : ∀ B, B ≤ 132 → st (up (up A 185 S) 195 S') B = st A B := fun B hB => st_c (fun j hj => by rw [up_ne _ _ (by omega), up_ne _ _ (by omega)])
  have eF : ∀ B, B ≤ 132 → sf (up (up F 18401 (nI t')) 19203 (nI t')) B = sf F B := fun B hB => sf_c (fun j hj => by rw [up_ne _ _ (by omega), up_ne _ _ (by omega)])
  have eL : ∀ B, B ≤ 132 → LenS A B → LenS (up (up A 185 S) 195 S') B := fun B hB hl => LenS_c (fun j hj => by rw [up_ne _ _ (by omega), up_ne _ _ (by omega)]) hl
  refine ⟨?_, ⟨eL 2 (by omega) l1, fun b hb => eL b (hsP_b hb).2 (l2 b hb), ?_⟩, ⟨q1, by simp (disch := (first | omega | fail)) only [st_e, sf_e, Nat.reduceAdd, Nat.reduceMul, up_eq, up_ne, cpA_o, cpF_o]; exact q2, by simp (disch := (first | omega | fail)) only [st_e, sf_e, Nat.reduceAdd, Nat.reduceMul, up_eq, up_ne, cpA_o, cpF_o]; exact q3, q4, q5, fun s hs => ?_⟩, ⟨h3, by simp (disch := (first | omega | fail)) only [st_e, sf_e, Nat.reduceAdd, Nat.reduceMul, up_eq, up_ne, cpA_o, cpF_o], by simp (disch := (first | omega | fail)) only [st_e, sf_e, Nat.reduceAdd, Nat.reduceMul, up_eq, up_ne, cpA_o, cpF_o], fun j hj => ?_⟩, ?_⟩
  · rw [eA 2 (by omega), eF 2 (by omega)]
    simp (disch := (first | omega | fail)) only [st_e, sf_e, Nat.reduceAdd, Nat.reduceMul, up_eq, up_ne, cpA_o, cpF_o]
    exact hS
  · unfold LenO at l3 ⊢
    simp (disch := (first | omega | fail)) only [st_e, sf_e, Nat.reduceAdd, Nat.reduceMul, up_eq, up_ne, cpA_o, cpF_o]
    exact ⟨l3.1, h1, h2, l3.2.2.2⟩
  · obtain ⟨kB, kl, kb, kx, hk⟩ := q6 s hs
    have hb := (hsP_b (q4 s (by omega))).2
    refine ⟨kB, kl, kb, kx, ?_⟩
    rw [eA _ hb, eF _ hb]
    simp (disch := (first | omega | fail)) only [st_e, sf_e, Nat.reduceAdd, Nat.reduceMul, up_eq, up_ne, cpA_o, cpF_o]
    exact hk
  · simp (disch := (first | omega | fail)) only [st_e, sf_e, Nat.reduceAdd, Nat.reduceMul, up_eq, up_ne, cpA_o, cpF_o]
    exact h4 j hj
  · unfold Held ClS at hH ⊢
    simp (disch := (first | omega | fail)) only [st_e, sf_e, Nat.reduceAdd, Nat.reduceMul, up_eq, up_ne, cpA_o, cpF_o]
    exact hH
theorem k_clearText (hI : InvN A F P nB nl nb nx q t) : ∃ A1 F1, am_cl m_Pa_clearText [.ref 1] (heap A F P) = some (some (.int (nI t)), heap A1 F1 P) ∧ InvN A1 F1 P nB nl nb nx q 0 ∧ ∀ j, A1 j = A j := by
  have hI0 := hI
  obtain ⟨hS, ⟨l1, l2, l3⟩, hH, ⟨t1, t2, t3, t4⟩, -⟩ := hI0
  have hN := InvN_text (S := A 185) (S' := A 195) (t' := 0) hI l3.2.1 l3.2.2.1 (by omega) (fun j hj => by omega)
  rw [up_id, up_id] at hN
  refine ⟨A, up (up F 18401 (nI 0)) 19203 (nI 0), ?_, hN, fun _ => rfl⟩
  rw [ghF3, e_Pa_clearText 1 _ rfl]
  simp (maxSteps := 2000000) (disch := (first | omega | (simp (disch := omega) only [up_eq, up_ne, cpA_o, List.length_set] <;> omega) | fail)) only [ob_s, am_bi_s, am_bv_s, am_bl_s, ↓bif_d, lits, nI_addS, nI_mulS, nI_subS, nI_lt', nI_le', nI_eq', ↓rd_nI, ↓wrH, up_eq, up_ne, up_up, up_sw, List.set_set, g_seq, g_sne, Nat.reduceEqDiff, ↓reduceIte, List.length_set, Nat.add_sub_cancel_left, Nat.add_sub_cancel, ite_true, ite_false, if_true, if_false, not_true_eq_false, not_false_eq_true, Bool.and_true, Bool.true_and, true_or, or_true, false_or, or_false, and_true, true_and, and_false, false_and, Nat.not_lt_zero, hpRX, hpIX, hpFX, hpLX, hpSX, ↓rgX, ↓rpX, Nat.reduceLeDiff, Nat.reduceLT, Nat.reduceAdd, Nat.reduceMul, Nat.reduceSub, t2]
theorem k_type (hI : InvN A F P nB nl nb nx q t) (x : Int32) (cn : t < 80) : ∃ A1 F1, am_cl m_Pa_type [.ref 1, .int x] (heap A F P) = some (some (.int (nI (t + 1))), heap A1 F1 P) ∧ InvN A1 F1 P nB nl nb nx q (t + 1) ∧ g (A1 195) t = vp_nar .char x ∧ (∀ j, j < t → g (A1 195) j = g (A 195) j) ∧ ∀ j, ¬ j = 185 → ¬ j = 195 → A1 j = A j := by
  have hI0 := hI
  obtain ⟨hS, ⟨l1, l2, l3⟩, hH, ⟨t1, t2, t3, t4⟩, -⟩ := hI0
  have c185 : (A 185).length = 80 := l3.2.1
  have c195 : (A 195).length = 80 := l3.2.2.1
  have lA := fun x A F P => e_Letter_append 184 x (heap A F P) rfl
  have hln : ∀ A F P, am_len (heap A F P) 185 = some (nI (A 185).length) := fun A F P => rfl
  have c : ¬ t = 80 := by omega
  have hN := InvN_text (S := (A 185).set t (vp_nar .char x)) (S' := (A 195).set t (vp_nar .char x)) (t' := t + 1) hI (by rw [List.length_set]; exact c185) (by rw [List.length_set]; exact c195) (by omega) (fun j hj => by
    by_cases z : j = t
    · subst z; simp (disch := (first | omega | (simp only [List.length_set] <;> omega) | fail)) only [g_seq, g_sne, List.length_set]
    · simp (disch := (first | omega | (simp only [List.length_set] <;> omega) | fail)) only [g_seq, g_sne, List.length_set]; exact t4 j (by omega))
  refine ⟨up (up A 185 ((A 185).set t (vp_nar .char x))) 195 ((A 195).set t (vp_nar .char x)), up (up F 18401 (nI (t + 1))) 19203 (nI (t + 1)), ?_, hN, ?_, fun j hj => ?_, fun j z1 z2 => ?_⟩
  · rw [gh195, ghF3, e_Pa_type 1 _ _ rfl]
    simp (maxSteps := 2000000) (disch := (first | omega | (simp (disch := omega) only [up_eq, up_ne, cpA_o, List.length_set] <;> omega) | fail)) only [ob_s, am_bi_s, am_bv_s, am_bl_s, ↓bif_d, lits, nI_addS, nI_mulS, nI_subS, nI_lt', nI_le', nI_eq', ↓rd_nI, ↓wrH, up_eq, up_ne, up_up, up_sw, List.set_set, g_seq, g_sne, Nat.reduceEqDiff, ↓reduceIte, List.length_set, Nat.add_sub_cancel_left, Nat.add_sub_cancel, ite_true, ite_false, if_true, if_false, not_true_eq_false, not_false_eq_true, Bool.and_true, Bool.true_and, true_or, or_true, false_or, or_false, and_true, true_and, and_false, false_and, Nat.not_lt_zero, hpRX, hpIX, hpFX, hpLX, hpSX, ↓rgX, ↓rpX, Nat.reduceLeDiff, Nat.reduceLT, Nat.reduceAdd, Nat.reduceMul, Nat.reduceSub, t2, lA, hln, c185, c, cn, nI_nlt0, Nat.reduceEqDiff]
  · simp (disch := (first | omega | (simp (disch := omega) only [up_eq, up_ne, cpA_o, List.length_set] <;> omega) | fail)) only [st_e, sf_e, Nat.reduceAdd, Nat.reduceMul, up_eq, up_ne, cpA_o, cpF_o, g_seq, g_sne, List.length_set]
  · simp (disch := (first | omega | (simp (disch := omega) only [up_eq, up_ne, cpA_o, List.length_set] <;> omega) | fail)) only [st_e, sf_e, Nat.reduceAdd, Nat.reduceMul, up_eq, up_ne, cpA_o, cpF_o, g_seq, g_sne, List.length_set]
  · rw [up_ne _ _ z2, up_ne _ _ z1]
end X

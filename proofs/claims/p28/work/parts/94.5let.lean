/-! THE LAW'S LETTERS: what a letter does -/
theorem grp3 {wf : Nat → Nat} (G : Nat) (h01 : wf 0 = wf 1) (h12 : ¬ wf 1 = wf 2) : grp wf 3 G 0 = G + 1 ∧ grp wf 3 G 1 = G + 1 ∧ grp wf 3 G 2 = 0 := by
  have p0 : ¬ prv wf 0 := fun z => absurd z.1 (Nat.lt_irrefl 0)
  have o0 : one wf 3 0 := ⟨by omega, h01⟩
  have p1 : prv wf 1 := ⟨by omega, h01⟩
  have p2 : ¬ prv wf 2 := fun z => h12 z.2
  have o2 : ¬ one wf 3 2 := fun z => absurd z.1 (Nat.lt_irrefl 3)
  have g1 : Gm wf 3 G 1 = G + 1 := by rw [Gm_s, cif_t ⟨p0, o0⟩]; rfl
  have g2 : Gm wf 3 G 2 = G + 1 := by rw [Gm_s, cif_f (fun z => z.1 p1), g1]
  unfold grp
  rw [cif_t (Or.inr o0), cif_t (Or.inl p1), cif_f (fun z => z.elim p2 o2)]
  exact ⟨g1, g2, rfl⟩
theorem g_sn {l : List Int32} {k j : Nat} {v : Int32} (hj : ¬ j = k) : g (l.set k v) j = g l j := by
  unfold g
  rw [List.getD_eq_getElem?_getD, List.getD_eq_getElem?_getD, List.getElem?_set_ne (fun z => hj z.symm)]
section B
variable {r : List Int32} {nx l b : Nat} {v m w : Int32}
theorem bRow_len (hr : r.length = 472) : (bRow r nx l b v m w).length = 472 := by
  unfold bRow
  simp only [List.length_set]
  exact hr
theorem bRow_ne {j : Nat} (h7 : ¬ j = 107) (h1 : ¬ j = 108 + nx) (h2 : ¬ j = 168 + nx) (h3 : ¬ j = 228 + nx) (h4 : ¬ j = 288 + nx) (h5 : ¬ j = 348 + nx) (h6 : ¬ j = 408 + nx) : g (bRow r nx l b v m w) j = g r j := by
  unfold bRow
  rw [g_sn h7, g_sn h6, g_sn h5, g_sn h4, g_sn h3, g_sn h2, g_sn h1]
theorem bRow_at (hr : r.length = 472) (hx : nx < 60) : g (bRow r nx l b v m w) (108 + nx) = nI l ∧ g (bRow r nx l b v m w) (168 + nx) = nI b ∧ g (bRow r nx l b v m w) (228 + nx) = v ∧ g (bRow r nx l b v m w) (288 + nx) = m ∧ g (bRow r nx l b v m w) (348 + nx) = w ∧ g (bRow r nx l b v m w) (408 + nx) = nI 0 ∧ g (bRow r nx l b v m w) 107 = nI (nx + 1) := by
  unfold bRow
  refine ⟨?_, ?_, ?_, ?_, ?_, ?_, ?_⟩ <;> simp (disch := (first | omega | (simp only [List.length_set] <;> omega) | fail)) only [g_seq, g_sne, List.length_set]
end B
/-- the row behind the law's letter -/
def tRow (r : List Int32) (nx l o b G : Nat) (v : Int32) : List Int32 := bRow (bRow (bRow r nx l b (nI 7) v (nI (G + 1))) (nx + 1) o b (nI 30) v (nI (G + 1))) (nx + 1 + 1) l b (nI 9) v (nI 0)
section C
variable {r : List Int32} {nx l o b G : Nat} {v : Int32}
theorem tRow_ne {j : Nat} (h7 : ¬ j = 107) (h1 : j < 108 + nx ∨ 108 + nx + 3 ≤ j) (h2 : j < 168 + nx ∨ 168 + nx + 3 ≤ j) (h3 : j < 228 + nx ∨ 228 + nx + 3 ≤ j) (h4 : j < 288 + nx ∨ 288 + nx + 3 ≤ j) (h5 : j < 348 + nx ∨ 348 + nx + 3 ≤ j) (h6 : j < 408 + nx ∨ 408 + nx + 3 ≤ j) : g (tRow r nx l o b G v) j = g r j := by
  unfold tRow
  rw [bRow_ne h7 (by omega) (by omega) (by omega) (by omega) (by omega) (by omega), bRow_ne h7 (by omega) (by omega) (by omega) (by omega) (by omega) (by omega), bRow_ne h7 (by omega) (by omega) (by omega) (by omega) (by omega) (by omega)]
theorem tRow_len (hr : r.length = 472) : (tRow r nx l o b G v).length = 472 := bRow_len (bRow_len (bRow_len hr))
theorem tRow_at (hr : r.length = 472) (hx : nx + 3 ≤ 60) :
    (g (tRow r nx l o b G v) (108 + (nx + 0)) = nI l ∧ g (tRow r nx l o b G v) (168 + (nx + 0)) = nI b ∧ g (tRow r nx l o b G v) (228 + (nx + 0)) = nI 7 ∧ g (tRow r nx l o b G v) (288 + (nx + 0)) = v ∧ g (tRow r nx l o b G v) (348 + (nx + 0)) = nI (G + 1) ∧ g (tRow r nx l o b G v) (408 + (nx + 0)) = nI 0) ∧
    (g (tRow r nx l o b G v) (108 + (nx + 1)) = nI o ∧ g (tRow r nx l o b G v) (168 + (nx + 1)) = nI b ∧ g (tRow r nx l o b G v) (228 + (nx + 1)) = nI 30 ∧ g (tRow r nx l o b G v) (288 + (nx + 1)) = v ∧ g (tRow r nx l o b G v) (348 + (nx + 1)) = nI (G + 1) ∧ g (tRow r nx l o b G v) (408 + (nx + 1)) = nI 0) ∧
    (g (tRow r nx l o b G v) (108 + (nx + 2)) = nI l ∧ g (tRow r nx l o b G v) (168 + (nx + 2)) = nI b ∧ g (tRow r nx l o b G v) (228 + (nx + 2)) = nI 9 ∧ g (tRow r nx l o b G v) (288 + (nx + 2)) = v ∧ g (tRow r nx l o b G v) (348 + (nx + 2)) = nI 0 ∧ g (tRow r nx l o b G v) (408 + (nx + 2)) = nI 0) ∧
    g (tRow r nx l o b G v) 107 = nI (nx + 3) := by
  have e1 := bRow_len (nx := nx) (l := l) (b := b) (v := nI 7) (m := v) (w := nI (G + 1)) hr
  have e2 := bRow_len (nx := nx + 1) (l := o) (b := b) (v := nI 30) (m := v) (w := nI (G + 1)) e1
  obtain ⟨a1, a2, a3, a4, a5, a6, -⟩ := bRow_at (l := l) (b := b) (v := nI 7) (m := v) (w := nI (G + 1)) hr (show nx < 60 by omega)
  obtain ⟨b1, b2, b3, b4, b5, b6, -⟩ := bRow_at (l := o) (b := b) (v := nI 30) (m := v) (w := nI (G + 1)) e1 (show nx + 1 < 60 by omega)
  obtain ⟨c1, c2, c3, c4, c5, c6, c7⟩ := bRow_at (l := l) (b := b) (v := nI 9) (m := v) (w := nI 0) e2 (show nx + 1 + 1 < 60 by omega)
  unfold tRow
  refine ⟨⟨?_, ?_, ?_, ?_, ?_, ?_⟩, ⟨?_, ?_, ?_, ?_, ?_, ?_⟩, ⟨c1, c2, c3, c4, c5, c6⟩, c7⟩
  · rw [bRow_ne (by omega) (by omega) (by omega) (by omega) (by omega) (by omega) (by omega), bRow_ne (by omega) (by omega) (by omega) (by omega) (by omega) (by omega) (by omega)]; exact a1
  · rw [bRow_ne (by omega) (by omega) (by omega) (by omega) (by omega) (by omega) (by omega), bRow_ne (by omega) (by omega) (by omega) (by omega) (by omega) (by omega) (by omega)]; exact a2
  · rw [bRow_ne (by omega) (by omega) (by omega) (by omega) (by omega) (by omega) (by omega), bRow_ne (by omega) (by omega) (by omega) (by omega) (by omega) (by omega) (by omega)]; exact a3
  · rw [bRow_ne (by omega) (by omega) (by omega) (by omega) (by omega) (by omega) (by omega), bRow_ne (by omega) (by omega) (by omega) (by omega) (by omega) (by omega) (by omega)]; exact a4
  · rw [bRow_ne (by omega) (by omega) (by omega) (by omega) (by omega) (by omega) (by omega), bRow_ne (by omega) (by omega) (by omega) (by omega) (by omega) (by omega) (by omega)]; exact a5
  · rw [bRow_ne (by omega) (by omega) (by omega) (by omega) (by omega) (by omega) (by omega), bRow_ne (by omega) (by omega) (by omega) (by omega) (by omega) (by omega) (by omega)]; exact a6
  · rw [bRow_ne (by omega) (by omega) (by omega) (by omega) (by omega) (by omega) (by omega)]; exact b1
  · rw [bRow_ne (by omega) (by omega) (by omega) (by omega) (by omega) (by omega) (by omega)]; exact b2
  · rw [bRow_ne (by omega) (by omega) (by omega) (by omega) (by omega) (by omega) (by omega)]; exact b3
  · rw [bRow_ne (by omega) (by omega) (by omega) (by omega) (by omega) (by omega) (by omega)]; exact b4
  · rw [bRow_ne (by omega) (by omega) (by omega) (by omega) (by omega) (by omega) (by omega)]; exact b5
  · rw [bRow_ne (by omega) (by omega) (by omega) (by omega) (by omega) (by omega) (by omega)]; exact b6
end C
section X
variable {A : Nat → List Int32} {F : Nat → Int32} {P : Nat → Nat} {nB nl nb nx q t : Nat}
/-- the relation doesn't speak of the read rows -/
theorem InvN_jl {A' : Nat → List Int32} {F' : Nat → Int32} (hI : InvN A F P nB nl nb nx q t) (hA : ∀ j, j ≠ 187 → j ≠ 189 → j ≠ 191 → A' j = A j) (hF : ∀ k, (k < 18405 ∨ 18409 < k) → F' k = F k) (m1 : (A' 187).length = 20 ∧ (A' 189).length = 20 ∧ (A' 191).length = 20) : InvN A' F' P nB nl nb nx q t := by
  obtain ⟨hs, ⟨l1, l2, l3⟩, ⟨q1, q2, q3, q4, q5, q6⟩, ⟨t1, t2, t3, t4⟩, hH⟩ := hI
  have hA' : ∀ j, (j < 187 ∨ 191 < j) → A' j = A j := fun j hj => hA j (by omega) (by omega) (by omega)
  have hF' : ∀ k, k < 18405 → F' k = F k := fun k hk => hF k (by omega)
  have eA : ∀ b, b ≤ 132 → st A' b = st A b := fun b hb => st_c (fun j hj => hA' _ (by omega))
  have eF : ∀ b, b ≤ 132 → sf F' b = sf F b := fun b hb => sf_c (fun j hj => hF' _ (by omega))
  have e193 : A' 193 = A 193 := hA' 193 (by omega)
  refine ⟨by rw [eA 2 (by omega), eF 2 (by omega), e193]; exact hs, ⟨LenS_c (fun j hj => hA' _ (by omega)) l1, fun b hb => LenS_c (fun j hj => hA' _ (by have := (hsP_b hb).2; omega)) (l2 b hb), ?_⟩, ⟨q1, by rw [hF' _ (by omega)]; exact q2, by rw [hF 19202 (by omega)]; exact q3, q4, q5, fun s hs' => ?_⟩, ⟨t1, by rw [hF' _ (by omega)]; exact t2, by rw [hF 19203 (by omega)]; exact t3, fun j hj => by rw [hA' 185 (by omega), hA' 195 (by omega)]; exact t4 j hj⟩, ?_⟩
  · obtain ⟨o1, o2, o3, o4, o5, o6, o7⟩ := l3
    refine ⟨by rw [hA' 194 (by omega)]; exact o1, by rw [hA' 185 (by omega)]; exact o2, by rw [hA' 195 (by omega)]; exact o3, m1, by rw [hA' 196 (by omega), hA' 197 (by omega), hA' 198 (by omega)]; exact o5, ?_, ?_⟩
    · rw [hA' 199 (by omega), hA' 200 (by omega), hA' 201 (by omega), hA' 202 (by omega), hA' 203 (by omega), hA' 204 (by omega), hA' 205 (by omega)]; exact o6
    · rw [hA' 166 (by omega), hA' 168 (by omega), hA' 170 (by omega), hA' 172 (by omega), hA' 174 (by omega), hA' 176 (by omega), hA' 178 (by omega), hA' 180 (by omega), hA' 182 (by omega)]; exact o7
  · obtain ⟨mB, ml, mb, mx, hm⟩ := q6 s hs'
    have hb := (hsP_b (q4 s (by omega))).2
    refine ⟨mB, ml, mb, mx, ?_⟩
    rw [eA _ hb, eF _ hb, hA' 194 (by omega)]
    exact hm
  · unfold Held ClS at hH ⊢
    rw [e193, hF' 16410 (by omega), hA' 166 (by omega), hA' 168 (by omega), hA' 170 (by omega), hA' 172 (by omega), hA' 174 (by omega), hA' 176 (by omega), hA' 178 (by omega), hA' 180 (by omega)]
    exact hH
theorem s_read (F : Nat → Int32) (x : Int32) (A : Nat → List Int32) (P : Nat → Nat) : am_cl m_Letter_read [.ref 184, .int x] (heap A F P) = am_ev m_Letter_read (21, [.ref 184, .int x, .int (nI 0), .float 0, .float 0, .float 0], [], heap A (up (up (up (up (up F 18405 (nI 0)) 18406 (nI 0)) 18407 (nI 0)) 18408 (nI 0)) 18409 (nI 0)) P) := by
  have est := fun A F P => e_Letter_startNumber 184 (heap A F P) rfl
  rw [e_Letter_read 184 _ _ rfl]
  simp (maxSteps := 2000000) (disch := (first | omega | (simp (disch := omega) only [up_eq, up_ne, cpA_o, cpF_o, List.length_set] <;> omega) | fail)) only [ob_s, am_bi_s, am_bv_s, am_bl_s, ↓bif_d, lits, nI_addS, nI_mulS, nI_subS, nI_lt', nI_le', nI_eq', ↓rd_nI, ↓wrH, up_eq, up_ne, up_up, up_sw, List.set_set, g_seq, g_sne, Nat.reduceEqDiff, ↓reduceIte, List.length_set, Nat.add_sub_cancel_left, Nat.add_sub_cancel, ite_true, ite_false, if_true, if_false, not_true_eq_false, not_false_eq_true, Bool.and_true, Bool.true_and, true_or, or_true, false_or, or_false, and_true, true_and, and_false, false_and, Nat.not_lt_zero, hpRX, hpIX, hpFX, hpLX, hpSX, ↓rgX, ↓rpX, Nat.reduceLeDiff, Nat.reduceLT, Nat.reduceAdd, Nat.reduceMul, Nat.reduceSub, est]
/-- the text in the machine, before it is read -/
theorem CL_of (hI : InvN A F P nB nl nb nx q t) {T : Nat → Int32} (hT : ∀ j, j < t → g (A 195) j = T j) : CL A (up (up (up (up (up F 18405 (nI 0)) 18406 (nI 0)) 18407 (nI 0)) 18408 (nI 0)) 18409 (nI 0)) T t := by
  obtain ⟨-, ⟨-, -, ls3⟩, -, ⟨t1, t2, t3, t4⟩, -⟩ := hI
  obtain ⟨-, l185, l195, l1, -⟩ := ls3
  exact ⟨by simp (disch := (first | omega | fail)) only [st_e, sf_e, Nat.reduceAdd, Nat.reduceMul, up_eq, up_ne, cpA_o, cpF_o]; exact t2, t1, l185, fun j hj => (t4 j hj).trans (hT j hj), l1⟩
theorem LfF0 : LfF F (up (up (up (up (up F 18405 (nI 0)) 18406 (nI 0)) 18407 (nI 0)) 18408 (nI 0)) 18409 (nI 0)) := fun k hk => by
  rw [up_ne _ _ (by omega), up_ne _ _ (by omega), up_ne _ _ (by omega), up_ne _ _ (by omega), up_ne _ _ (by omega)]
/-- a fault -/
theorem k_letf (hI : InvN A F P nB nl nb nx q t) {T : Nat → Int32} (hT : ∀ j, j < t → g (A 195) j = T j) {b f : Nat} {v : Int32} (hb : b < nb) (g1 : ¬ (v < nI 0 ∨ nI 100000 < v)) (hf : f ≤ 80) (hrd : ∀ (A : Nat → List Int32) (F : Nat → Int32) (u3 u4 u5 : Value), CL A F T t → F 18405 = nI 0 → F 18406 = nI 0 → F 18407 = nI 0 → F 18408 = nI 0 → F 18409 = nI 0 → ∃ A' F', LfA A A' ∧ L3 A' ∧ LfF F F' ∧ am_ev m_Letter_read (21, [.ref 184, .int (nI nl), .int (nI 0), u3, u4, u5], [], heap A F P) = some (some (.int (nI f)), heap A' F' P)) : ∃ A' F', am_cl m_Pa_letter [.ref 1, .int (nI b), .int v] (heap A F P) = some (some (.int (-nI 100 - nI f)), heap A' F' P) ∧ InvN A' F' P nB nl nb nx q t ∧ LfA A A' := by
  classical
  have hC := Cx_of hI
  obtain ⟨hM, hB, ⟨n1, n2, n3, n4⟩, l1, hCL, hCM, hCX, hCS, hS0, hS1, hS2, hS3⟩ := id hC
  obtain ⟨c5, c7, c10, c12, c14, c16, c18, c21, c23, c25, c27, c29, c31, c33⟩ := LenS2 l1
  have hnl : nl ≤ 20 := hM.1.2.2.2.2.2.2.2.1
  have hnb : nb ≤ 8 := hM.1.2.2.2.2.2.2.2.2.1
  have hnx : nx ≤ 60 := hM.1.2.2.2.2.2.2.2.2.2
  have hnB : nB ≤ 8 := hM.1.2.2.2.2.2.2.1
  have iB := fun x => s_isBidder (A := A) (F := F) (P := P) n3 (by omega) x
  obtain ⟨A1, F1, a1, a2, a3, a4⟩ := hrd A _ (.float 0) (.float 0) (.float 0) (CL_of hI hT) (by simp (disch := (first | omega | fail)) only [st_e, sf_e, Nat.reduceAdd, Nat.reduceMul, up_eq, up_ne, cpA_o, cpF_o]) (by simp (disch := (first | omega | fail)) only [st_e, sf_e, Nat.reduceAdd, Nat.reduceMul, up_eq, up_ne, cpA_o, cpF_o]) (by simp (disch := (first | omega | fail)) only [st_e, sf_e, Nat.reduceAdd, Nat.reduceMul, up_eq, up_ne, cpA_o, cpF_o]) (by simp (disch := (first | omega | fail)) only [st_e, sf_e, Nat.reduceAdd, Nat.reduceMul, up_eq, up_ne, cpA_o, cpF_o]) (by simp (disch := (first | omega | fail)) only [st_e, sf_e, Nat.reduceAdd, Nat.reduceMul, up_eq, up_ne, cpA_o, cpF_o])
  rw [← s_read] at a4
  have a3 := LfF0.trans a3
  have g0 : ix (nI b) nb := ⟨b, hb, rfl⟩
  have n1f := nI_nm1 (a := f) (by omega)
  refine ⟨A1, F1, ?_, InvN_jl hI a1 a3 a2, a1⟩
  rw [e_Pa_letter 1 _ _ _ rfl]
  simp (maxSteps := 2000000) (disch := (first | omega | (simp (disch := omega) only [up_eq, up_ne, cpA_o, cpF_o, List.length_set] <;> omega) | fail)) only [ob_s, am_bi_s, am_bv_s, am_bl_s, ↓bif_d, lits, nI_addS, nI_mulS, nI_subS, nI_lt', nI_le', nI_eq', ↓rd_nI, ↓wrH, up_eq, up_ne, up_up, up_sw, List.set_set, g_seq, g_sne, Nat.reduceEqDiff, ↓reduceIte, List.length_set, Nat.add_sub_cancel_left, Nat.add_sub_cancel, ite_true, ite_false, if_true, if_false, not_true_eq_false, not_false_eq_true, Bool.and_true, Bool.true_and, true_or, or_true, false_or, or_false, and_true, true_and, and_false, false_and, Nat.not_lt_zero, hpRX, hpIX, hpFX, hpLX, hpSX, ↓rgX, ↓rpX, Nat.reduceLeDiff, Nat.reduceLT, Nat.reduceAdd, Nat.reduceMul, Nat.reduceSub, iB, b01_0, g0, s_out, g1, n2, a4, n1f]
theorem k_let_e0 {r : List Int32} (hC : Cx A F r nB nl nb nx) (x v : Int32) (g0 : ¬ ix x nb) : am_cl m_Pa_letter (.ref 1 :: [.int x, .int v]) (heap A F P) = some (some (.int (-nI 1)), heap A F P) := by
  classical
  obtain ⟨hM, hB, ⟨n1, n2, n3, n4⟩, l1, hCL, hCM, hCX, hCS, hS0, hS1, hS2, hS3⟩ := id hC
  obtain ⟨c5, c7, c10, c12, c14, c16, c18, c21, c23, c25, c27, c29, c31, c33⟩ := LenS2 l1
  have hnl : nl ≤ 20 := hM.1.2.2.2.2.2.2.2.1
  have hnb : nb ≤ 8 := hM.1.2.2.2.2.2.2.2.2.1
  have hnx : nx ≤ 60 := hM.1.2.2.2.2.2.2.2.2.2
  have hnB : nB ≤ 8 := hM.1.2.2.2.2.2.2.1
  have iB := fun x => s_isBidder (A := A) (F := F) (P := P) n3 (by omega) x
  rw [e_Pa_letter 1 _ _ _ rfl]
  simp (maxSteps := 2000000) (disch := (first | omega | (simp (disch := omega) only [up_eq, up_ne, cpA_o, cpF_o, List.length_set] <;> omega) | fail)) only [ob_s, am_bi_s, am_bv_s, am_bl_s, ↓bif_d, lits, nI_addS, nI_mulS, nI_subS, nI_lt', nI_le', nI_eq', ↓rd_nI, ↓wrH, up_eq, up_ne, up_up, up_sw, List.set_set, g_seq, g_sne, Nat.reduceEqDiff, ↓reduceIte, List.length_set, Nat.add_sub_cancel_left, Nat.add_sub_cancel, ite_true, ite_false, if_true, if_false, not_true_eq_false, not_false_eq_true, Bool.and_true, Bool.true_and, true_or, or_true, false_or, or_false, and_true, true_and, and_false, false_and, Nat.not_lt_zero, hpRX, hpIX, hpFX, hpLX, hpSX, ↓rgX, ↓rpX, Nat.reduceLeDiff, Nat.reduceLT, Nat.reduceAdd, Nat.reduceMul, Nat.reduceSub, iB, b01_0, g0]
theorem k_let_e1 {r : List Int32} (hC : Cx A F r nB nl nb nx) (x v : Int32) (g0 : ix x nb) (g1 : v < nI 0 ∨ nI 100000 < v) : am_cl m_Pa_letter (.ref 1 :: [.int x, .int v]) (heap A F P) = some (some (.int (-nI 2)), heap A F P) := by
  classical
  obtain ⟨hM, hB, ⟨n1, n2, n3, n4⟩, l1, hCL, hCM, hCX, hCS, hS0, hS1, hS2, hS3⟩ := id hC
  obtain ⟨c5, c7, c10, c12, c14, c16, c18, c21, c23, c25, c27, c29, c31, c33⟩ := LenS2 l1
  have hnl : nl ≤ 20 := hM.1.2.2.2.2.2.2.2.1
  have hnb : nb ≤ 8 := hM.1.2.2.2.2.2.2.2.2.1
  have hnx : nx ≤ 60 := hM.1.2.2.2.2.2.2.2.2.2
  have hnB : nB ≤ 8 := hM.1.2.2.2.2.2.2.1
  have iB := fun x => s_isBidder (A := A) (F := F) (P := P) n3 (by omega) x
  rw [e_Pa_letter 1 _ _ _ rfl]
  simp (maxSteps := 2000000) (disch := (first | omega | (simp (disch := omega) only [up_eq, up_ne, cpA_o, cpF_o, List.length_set] <;> omega) | fail)) only [ob_s, am_bi_s, am_bv_s, am_bl_s, ↓bif_d, lits, nI_addS, nI_mulS, nI_subS, nI_lt', nI_le', nI_eq', ↓rd_nI, ↓wrH, up_eq, up_ne, up_up, up_sw, List.set_set, g_seq, g_sne, Nat.reduceEqDiff, ↓reduceIte, List.length_set, Nat.add_sub_cancel_left, Nat.add_sub_cancel, ite_true, ite_false, if_true, if_false, not_true_eq_false, not_false_eq_true, Bool.and_true, Bool.true_and, true_or, or_true, false_or, or_false, and_true, true_and, and_false, false_and, Nat.not_lt_zero, hpRX, hpIX, hpFX, hpLX, hpSX, ↓rgX, ↓rpX, Nat.reduceLeDiff, Nat.reduceLT, Nat.reduceAdd, Nat.reduceMul, Nat.reduceSub, iB, b01_0, g0, s_out, g1]
end X

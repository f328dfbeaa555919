/-! A LETTER IS READ by both -/
theorem altR_inr {T : Nat → Int32} {t nl p l a e : Nat} (hp : p ≤ t) (h : altR T t nl p = .inr (l, a, e)) : l < nl ∧ 1 ≤ a ∧ a ≤ 1000000 ∧ p + 3 ≤ e ∧ e ≤ t ∧ ¬ dgt T t e := by
  unfold altR at h
  obtain ⟨s1, s2, s3, s4, -⟩ := numL_spec T t hp
  by_cases c1 : ¬ (numL T t p).1 = p ∧ ¬ dgt T t (numL T t p).1 ∧ (numL T t p).2 < nl
  · rw [cif_t c1] at h
    by_cases c2 : (numL T t p).1 < t ∧ T (numL T t p).1 = nI 61
    · rw [cif_t c2] at h
      obtain ⟨t1, t2, t3, t4, t5, t6, -⟩ := numA_spec T t (p := (numL T t p).1 + 1) c2.1
      by_cases c3 : ¬ (numA T t ((numL T t p).1 + 1)).1 = (numL T t p).1 + 1 ∧ ¬ dgt T t (numA T t ((numL T t p).1 + 1)).1 ∧ (numA T t ((numL T t p).1 + 1)).2 ≤ 1000000
      · rw [cif_t c3] at h
        have h := Sum.inr.inj h
        obtain ⟨h1, h2⟩ := Prod.mk.inj h
        obtain ⟨h2, h3⟩ := Prod.mk.inj h2
        subst h1
        subst h2
        subst h3
        have := t6 c3.1
        have := c3.1
        have := c1.1
        exact ⟨c1.2.2, by omega, c3.2.2, by omega, t2, c3.2.1⟩
      · rw [cif_f c3] at h; cases h
    · rw [cif_f c2] at h; cases h
  · rw [cif_f c1] at h; cases h
theorem altR_inl {T : Nat → Int32} {t nl p f : Nat} (hp : p ≤ t) (h : altR T t nl p = .inl f) : f ≤ t := by
  unfold altR at h
  obtain ⟨s1, s2, s3, s4, -⟩ := numL_spec T t hp
  by_cases c1 : ¬ (numL T t p).1 = p ∧ ¬ dgt T t (numL T t p).1 ∧ (numL T t p).2 < nl
  · rw [cif_t c1] at h
    by_cases c2 : (numL T t p).1 < t ∧ T (numL T t p).1 = nI 61
    · rw [cif_t c2] at h
      obtain ⟨t1, t2, t3, t4, t5, t6, -⟩ := numA_spec T t (p := (numL T t p).1 + 1) c2.1
      have := c2.1
      by_cases c3 : ¬ (numA T t ((numL T t p).1 + 1)).1 = (numL T t p).1 + 1 ∧ ¬ dgt T t (numA T t ((numL T t p).1 + 1)).1 ∧ (numA T t ((numL T t p).1 + 1)).2 ≤ 1000000
      · rw [cif_t c3] at h; cases h
      · rw [cif_f c3] at h
        have h := Sum.inl.inj h
        by_cases c4 : ¬ (numA T t ((numL T t p).1 + 1)).1 = (numL T t p).1 + 1 ∧ dgt T t (numA T t ((numL T t p).1 + 1)).1
        · rw [cif_t c4] at h; omega
        · rw [cif_f c4] at h; omega
    · rw [cif_f c2] at h
      have h := Sum.inl.inj h
      omega
  · rw [cif_f c1] at h
    have h := Sum.inl.inj h
    by_cases c4 : ¬ (numL T t p).1 = p ∧ dgt T t (numL T t p).1
    · rw [cif_t c4] at h; omega
    · rw [cif_f c4] at h; omega
def Agr (A B : Nat → List Int32) (k w nl : Nat) : Prop := ∃ lf af wf : Nat → Nat, (∀ j, j < k → (lf j < nl ∧ 1 ≤ af j ∧ af j ≤ 1000000 ∧ wf j ≤ w) ∧ (g (A 187) j = nI (lf j) ∧ g (A 189) j = nI (af j) ∧ g (A 191) j = nI (wf j)) ∧ g (B 196) j = nI (lf j) ∧ g (B 197) j = nI (af j) ∧ g (B 198) j = nI (wf j)) ∧ ∀ i j, i ≤ j → j < k → wf i ≤ wf j
theorem Agr_add {A B A' B' : Nat → List Int32} {k w w' nl l a : Nat} (h : Agr A B k w nl) (hk : k < 20) (hw : w ≤ w') (l1 : (A 187).length = 20) (l2 : (A 189).length = 20) (l3 : (A 191).length = 20) (m1 : (B 196).length = 40) (m2 : (B 197).length = 40) (m3 : (B 198).length = 40) (hl : l < nl) (h1 : 1 ≤ a) (h2 : a ≤ 1000000)
    (a1 : A' 187 = (A 187).set k (nI l)) (a2 : A' 189 = (A 189).set k (nI a)) (a3 : A' 191 = (A 191).set k (nI w)) (b1 : B' 196 = (B 196).set k (nI l)) (b2 : B' 197 = (B 197).set k (nI a)) (b3 : B' 198 = (B 198).set k (nI w)) : Agr A' B' (k + 1) w' nl := by
  obtain ⟨lf, af, wf, q1, q2⟩ := h
  refine ⟨up lf k l, up af k a, up wf k w, fun j hj => ?_, fun i j hij hj => ?_⟩
  · rw [a1, a2, a3, b1, b2, b3]
    by_cases c : j = k
    · subst c
      rw [up_eq, up_eq, up_eq, g_seq (by omega), g_seq (by omega), g_seq (by omega), g_seq (by omega), g_seq (by omega), g_seq (by omega)]
      exact ⟨⟨hl, h1, h2, hw⟩, ⟨rfl, rfl, rfl⟩, rfl, rfl, rfl⟩
    · rw [up_ne _ _ c, up_ne _ _ c, up_ne _ _ c, g_sne (by omega) c, g_sne (by omega) c, g_sne (by omega) c, g_sne (by omega) c, g_sne (by omega) c, g_sne (by omega) c]
      obtain ⟨⟨z1, z2, z3, z4⟩, z5⟩ := q1 j (by omega)
      exact ⟨⟨z1, z2, z3, by omega⟩, z5⟩
  · by_cases c : j = k
    · subst c
      rw [up_eq]
      by_cases d : i = j
      · rw [d, up_eq]; exact Nat.le_refl _
      · rw [up_ne _ _ d]
        exact (q1 i (by omega)).1.2.2.2
    · rw [up_ne _ _ c, up_ne _ _ (show i ≠ k by omega)]
      exact q2 i j hij (by omega)
def MfA (B B' : Nat → List Int32) : Prop := ∀ j, j ≠ 196 → j ≠ 197 → j ≠ 198 → B' j = B j
section X
variable {A : Nat → List Int32} {F : Nat → Int32} {P : Nat → Nat} {T : Nat → Int32} {t : Nat}
theorem c_alt (hc : CL A F T t) {p k w nl : Nat} (hp : p ≤ t) (hk : p < t → k < 20) (hnl : nl ≤ 20) (f5 : F 18405 = nI k) (f6 : F 18406 = nI w) (f7 : F 18407 = nI 0) (f8 : F 18408 = nI 0) (f9 : F 18409 = nI 0) (u3 u4 u5 : Value) :
    (∀ f, altR T t nl p = .inl f → ∃ A' F', LfA A A' ∧ LfF F F' ∧ ((A' 187).length = 20 ∧ (A' 189).length = 20 ∧ (A' 191).length = 20) ∧ am_ev m_Letter_read (21, [.ref 184, .int (nI nl), .int (nI p), u3, u4, u5], [], heap A F P) = some (some (.int (nI f)), heap A' F' P)) ∧
    (∀ l a e, altR T t nl p = .inr (l, a, e) → ∃ F' u3' u4' u5' d, LfF F F' ∧ F' 18405 = nI k ∧ F' 18406 = nI w ∧ F' 18407 = nI 1 ∧ F' 18408 = nI a ∧ 0 < d ∧ d ≤ 80 ∧ F' 18409 = nI d ∧ am_ev m_Letter_read (21, [.ref 184, .int (nI nl), .int (nI p), u3, u4, u5], [], heap A F P) = am_ev m_Letter_read (21, [.ref 184, .int (nI nl), .int (nI e), u3', u4', u5'], [], heap (up A 187 ((A 187).set k (nI l))) F' P)) := by
  obtain ⟨x1, x2, x3⟩ := c_altL (P := P) hc hp hk hnl f5 f6 f7 f8 f9 u3 u4 u5
  have hl := hc.2.2.2.2
  unfold altR
  by_cases c1 : ¬ (numL T t p).1 = p ∧ ¬ dgt T t (numL T t p).1 ∧ (numL T t p).2 < nl
  · rw [cif_t c1]
    by_cases c2 : (numL T t p).1 < t ∧ T (numL T t p).1 = nI 61
    · rw [cif_t c2]
      obtain ⟨F1, v3, v4, v5, q1, q5, q6, q7, q8, q9, q10⟩ := x3 c1 c2
      have hA1 : LfA A (up A 187 ((A 187).set k (nI (numL T t p).2))) := fun j z1 z2 z3 => up_ne _ _ z1
      have hl1 : (up A 187 ((A 187).set k (nI (numL T t p).2)) 187).length = 20 := by rw [up_eq, List.length_set]; exact hl.1
      have hl2 : (up A 187 ((A 187).set k (nI (numL T t p).2)) 189).length = 20 := by rw [up_ne _ _ (by omega)]; exact hl.2.1
      have hl3 : (up A 187 ((A 187).set k (nI (numL T t p).2)) 191).length = 20 := by rw [up_ne _ _ (by omega)]; exact hl.2.2
      have hc1 : CL (up A 187 ((A 187).set k (nI (numL T t p).2))) F1 T t := CL_c hc hA1 q1 hl1 hl2 hl3
      obtain ⟨y1, y2⟩ := c_altA (P := P) (nl := nl) hc1 (p := (numL T t p).1 + 1) c2.1 q5 q6 q7 q8 q9 v3 v4 v5
      by_cases c3 : ¬ (numA T t ((numL T t p).1 + 1)).1 = (numL T t p).1 + 1 ∧ ¬ dgt T t (numA T t ((numL T t p).1 + 1)).1 ∧ (numA T t ((numL T t p).1 + 1)).2 ≤ 1000000
      · rw [cif_t c3]
        refine ⟨fun f hf => (by cases hf), fun l a e he => ?_⟩
        cases he
        obtain ⟨F2, w3, w4, w5, d, r1, r5, r6, r7, r8, r9, r10, r11, r12⟩ := y2 c3
        exact ⟨F2, w3, w4, w5, d, q1.trans r1, r5, r6, r7, r8, r9, r10, r11, q10.trans r12⟩
      · rw [cif_f c3]
        refine ⟨fun f hf => ?_, fun l a e he => (by cases he)⟩
        cases hf
        obtain ⟨F2, r1, r2⟩ := y1 c3
        exact ⟨_, F2, hA1, q1.trans r1, ⟨hl1, hl2, hl3⟩, q10.trans r2⟩
    · rw [cif_f c2]
      refine ⟨fun f hf => ?_, fun l a e he => (by cases he)⟩
      cases hf
      obtain ⟨F1, r1, r2⟩ := x2 c1 c2
      exact ⟨A, F1, fun _ _ _ _ => rfl, r1, hl, r2⟩
  · rw [cif_f c1]
    refine ⟨fun f hf => ?_, fun l a e he => (by cases he)⟩
    cases hf
    obtain ⟨F1, r1, r2⟩ := x1 c1
    exact ⟨A, F1, fun _ _ _ _ => rfl, r1, hl, r2⟩
/-- what the reference finds, wherever it reads -/
def MRun (T : Nat → Int32) (t nB nl nb nx : Nat) (A : Nat → List Int32) (p k w : Nat) (Q : (Nat → List Int32) → (Nat → Int32) → Prop) : Prop :=
  ∀ (P : Nat → Nat) (B : Nat → List Int32) (G : Nat → Int32), ML B G T t → Mok (B 193) nB nl nb nx → G 19205 = nI p → G 19206 = nI 1 → G 19207 = nI k → Agr A B k w nl → ∃ B' G', MfA B B' ∧ MfF G G' ∧ ((B' 196).length = 40 ∧ (B' 197).length = 40 ∧ (B' 198).length = 40) ∧ am_bv (am_cl m_Mod_readAlternative [.ref 192, .int (nI w)] (heap B G P)) (fun h => am_ev m_Mod_readLetter (22, [.ref 192, .int (nI w)], [], h)) = some (none, heap B' G' P) ∧ Q B' G'
theorem letter_run {nB nl nb nx : Nat} (hnl : nl ≤ 20) : ∀ n p k w (A : Nat → List Int32) (F : Nat → Int32) (u3 u4 u5 : Value), t + 1 - p ≤ n → p ≤ t → 4 * k ≤ p → w ≤ k → CL A F T t → F 18405 = nI k → F 18406 = nI w → F 18407 = nI 0 → F 18408 = nI 0 → F 18409 = nI 0 →
    ∃ A' F', LfA A A' ∧ LfF F F' ∧ ((A' 187).length = 20 ∧ (A' 189).length = 20 ∧ (A' 191).length = 20) ∧
      ((∃ f, f ≤ t ∧ am_ev m_Letter_read (21, [.ref 184, .int (nI nl), .int (nI p), u3, u4, u5], [], heap A F P) = some (some (.int (nI f)), heap A' F' P) ∧ MRun T t nB nl nb nx A p k w (fun B' G' => G' 19206 = nI 0 ∧ G' 19205 = nI f)) ∨
       (∃ K W, K ≤ 20 ∧ W ≤ K ∧ F' 18405 = nI K ∧ am_ev m_Letter_read (21, [.ref 184, .int (nI nl), .int (nI p), u3, u4, u5], [], heap A F P) = some (some (.int (-nI 1)), heap A' F' P) ∧ MRun T t nB nl nb nx A p k w (fun B' G' => G' 19206 = nI 1 ∧ G' 19207 = nI K ∧ Agr A' B' K W nl))) := by
  have n10 : ¬ nI 1 = nI 0 := by decide
  intro n
  induction n with
  | zero => intro p k w A F u3 u4 u5 hn hp; omega
  | succ n ih =>
    intro p k w A F u3 u4 u5 hn hp h4k hwk hc f5 f6 f7 f8 f9
    have t80 := hc.2.1
    obtain ⟨l187, l189, l191⟩ := hc.2.2.2.2
    obtain ⟨x1, x2⟩ := c_alt (P := P) hc hp (fun _ => by omega) hnl f5 f6 f7 f8 f9 u3 u4 u5
    have b22 := fun x1 h => b_Mod_readLetter_22 192 x1 h
    have b51 := fun x1 h => b_Mod_readLetter_51 192 x1 h
    have b88 := fun x1 h => b_Mod_readLetter_88 192 x1 h
    rcases hr : altR T t nl p with f | ⟨l, a, e⟩
    · -- a fault within
      obtain ⟨A', F', q1, q2, q3, q4⟩ := x1 f hr
      refine ⟨A', F', q1, q2, q3, Or.inl ⟨f, altR_inl hp hr, q4, fun P' B G hm hM g5 g6 g7 hag => ?_⟩⟩
      obtain ⟨y1, -⟩ := m_alt (P := P') hM hm hp (show k < 40 by omega) g5 g6 g7 (nI w)
      obtain ⟨G', r1, r2, r3, r4⟩ := y1 f hr
      have e6 : up G' 19206 (nI 0) = G' := by rw [← r3]; exact up_id _ _
      refine ⟨B, G', fun _ _ _ _ => rfl, r1, hm.2.2.2.2, ?_, r3, r2⟩
      rw [r4, am_bv_s, b_Mod_readLetter_22]
      simp (maxSteps := 2000000) (disch := (first | omega | (simp (disch := omega) only [up_eq, up_ne, cpA_o, cpF_o, List.length_set] <;> omega) | fail)) only [ob_s, am_bi_s, am_bv_s, am_bl_s, ↓bif_d, lits, nI_addS, nI_mulS, nI_subS, nI_lt', nI_le', nI_eq', ↓rd_nI, ↓wrH, up_eq, up_ne, up_up, up_sw, List.set_set, g_seq, g_sne, Nat.reduceEqDiff, ↓reduceIte, List.length_set, Nat.add_sub_cancel_left, Nat.add_sub_cancel, ite_true, ite_false, if_true, if_false, not_true_eq_false, not_false_eq_true, Bool.and_true, Bool.true_and, true_or, or_true, false_or, or_false, and_true, true_and, and_false, false_and, Nat.not_lt_zero, hpRM, hpIM, hpFM, hpLM, hpSM, r3]
      rw [b_Mod_readLetter_88]
      simp (maxSteps := 2000000) (disch := (first | omega | (simp (disch := omega) only [up_eq, up_ne, cpA_o, cpF_o, List.length_set] <;> omega) | fail)) only [ob_s, am_bi_s, am_bv_s, am_bl_s, ↓bif_d, lits, nI_addS, nI_mulS, nI_subS, nI_lt', nI_le', nI_eq', ↓rd_nI, ↓wrH, up_eq, up_ne, up_up, up_sw, List.set_set, g_seq, g_sne, Nat.reduceEqDiff, ↓reduceIte, List.length_set, Nat.add_sub_cancel_left, Nat.add_sub_cancel, ite_true, ite_false, if_true, if_false, not_true_eq_false, not_false_eq_true, Bool.and_true, Bool.true_and, true_or, or_true, false_or, or_false, and_true, true_and, and_false, false_and, Nat.not_lt_zero, hpRM, hpIM, hpFM, hpLM, hpSM, r3]
      rw [e6]
    · obtain ⟨F1, v3, v4, v5, d, q1, q5, q6, q7, q8, q9, q10, q11, q12⟩ := x2 l a e hr
      obtain ⟨s1, s2, s3, s4, s5, s6⟩ := altR_inr hp hr
      have hk20 : k < 20 := by omega
      have hA1 : LfA A (up A 187 ((A 187).set k (nI l))) := fun j z1 z2 z3 => up_ne _ _ z1
      have hl1 : (up A 187 ((A 187).set k (nI l)) 187).length = 20 := by rw [up_eq, List.length_set]; exact l187
      have hl2 : (up A 187 ((A 187).set k (nI l)) 189).length = 20 := by rw [up_ne _ _ (by omega)]; exact l189
      have hl3 : (up A 187 ((A 187).set k (nI l)) 191).length = 20 := by rw [up_ne _ _ (by omega)]; exact l191
      have hc1 : CL (up A 187 ((A 187).set k (nI l))) F1 T t := CL_c hc hA1 q1 hl1 hl2 hl3
      obtain ⟨y1, y2, y3, y4⟩ := c_after (P := P) (nl := nl) hc1 s5 s6 hk20 s3 q9 q10 q5 q6 q7 q8 q11 v3 v4 v5
      rw [up_ne _ _ (show (189 : Nat) ≠ 187 by omega), up_ne _ _ (show (191 : Nat) ≠ 187 by omega)] at y1 y2 y3
      have fin : ∀ A2 : Nat → List Int32, A2 = up (up (up A 187 ((A 187).set k (nI l))) 189 ((A 189).set k (nI a))) 191 ((A 191).set k (nI w)) → LfA A A2 ∧ ((A2 187).length = 20 ∧ (A2 189).length = 20 ∧ (A2 191).length = 20) ∧ A2 187 = (A 187).set k (nI l) ∧ A2 189 = (A 189).set k (nI a) ∧ A2 191 = (A 191).set k (nI w) := by
        intro A2 h
        subst h
        refine ⟨fun j z1 z2 z3 => by rw [up_ne _ _ z3, up_ne _ _ z2, up_ne _ _ z1], ?_, by simp (disch := (first | omega | fail)) only [st_e, sf_e, Nat.reduceAdd, Nat.reduceMul, up_eq, up_ne, cpA_o, cpF_o], by simp (disch := (first | omega | fail)) only [st_e, sf_e, Nat.reduceAdd, Nat.reduceMul, up_eq, up_ne, cpA_o, cpF_o], by simp (disch := (first | omega | fail)) only [st_e, sf_e, Nat.reduceAdd, Nat.reduceMul, up_eq, up_ne, cpA_o, cpF_o]⟩
        simp (disch := (first | omega | (simp (disch := omega) only [up_eq, up_ne, cpA_o, List.length_set] <;> omega) | fail)) only [st_e, sf_e, Nat.reduceAdd, Nat.reduceMul, up_eq, up_ne, cpA_o, cpF_o, g_seq, g_sne, List.length_set]
        exact ⟨l187, l189, l191⟩
      obtain ⟨fi1, fi2, fi3, fi4, fi5⟩ := fin _ rfl
      generalize up (up (up A 187 ((A 187).set k (nI l))) 189 ((A 189).set k (nI a))) 191 ((A 191).set k (nI w)) = A2 at y1 y2 y3 fi1 fi2 fi3 fi4 fi5
      -- the reference, behind this alternative
      have hmod : ∀ (P' : Nat → Nat) (B : Nat → List Int32) (G : Nat → Int32), ML B G T t → Mok (B 193) nB nl nb nx → G 19205 = nI p → G 19206 = nI 1 → G 19207 = nI k → Agr A B k w nl → ∃ B1 G1, MfA B B1 ∧ MfF G G1 ∧ ((B1 196).length = 40 ∧ (B1 197).length = 40 ∧ (B1 198).length = 40) ∧ G1 19205 = nI e ∧ G1 19206 = nI 1 ∧ G1 19207 = nI (k + 1) ∧ ML B1 G1 T t ∧ Mok (B1 193) nB nl nb nx ∧ (∀ w', w ≤ w' → Agr A2 B1 (k + 1) w' nl) ∧ am_cl m_Mod_readAlternative [.ref 192, .int (nI w)] (heap B G P') = some (none, heap B1 G1 P') := by
        intro P' B G hm hM g5 g6 g7 hag
        obtain ⟨-, z2⟩ := m_alt (P := P') hM hm hp (show k < 40 by omega) g5 g6 g7 (nI w)
        obtain ⟨G1, r1, r2, r3, r4, r5⟩ := z2 l a e hr
        obtain ⟨m1, m2, m3, m4, m5, m6, m7⟩ := hm
        refine ⟨up (up (up B 196 ((B 196).set k (nI l))) 197 ((B 197).set k (nI a))) 198 ((B 198).set k (nI w)), G1, fun j z1 z2 z3 => by rw [up_ne _ _ z3, up_ne _ _ z2, up_ne _ _ z1], r1, ?_, r2, r3, r4, ⟨by rw [r1 _ (by omega)]; exact m1, m2, ?_⟩, by simp (disch := (first | omega | fail)) only [st_e, sf_e, Nat.reduceAdd, Nat.reduceMul, up_eq, up_ne, cpA_o, cpF_o]; exact hM, fun w' hw' => Agr_add hag hk20 hw' l187 l189 l191 m5 m6 m7 s1 s2 s3 fi3 fi4 fi5 (by simp (disch := (first | omega | fail)) only [st_e, sf_e, Nat.reduceAdd, Nat.reduceMul, up_eq, up_ne, cpA_o, cpF_o]) (by simp (disch := (first | omega | fail)) only [st_e, sf_e, Nat.reduceAdd, Nat.reduceMul, up_eq, up_ne, cpA_o, cpF_o]) (by simp (disch := (first | omega | fail)) only [st_e, sf_e, Nat.reduceAdd, Nat.reduceMul, up_eq, up_ne, cpA_o, cpF_o]), r5⟩
        · simp (disch := (first | omega | (simp (disch := omega) only [up_eq, up_ne, cpA_o, List.length_set] <;> omega) | fail)) only [st_e, sf_e, Nat.reduceAdd, Nat.reduceMul, up_eq, up_ne, cpA_o, cpF_o, g_seq, g_sne, List.length_set]; exact ⟨m5, m6, m7⟩
        · simp (disch := (first | omega | (simp (disch := omega) only [up_eq, up_ne, cpA_o, List.length_set] <;> omega) | fail)) only [st_e, sf_e, Nat.reduceAdd, Nat.reduceMul, up_eq, up_ne, cpA_o, cpF_o, g_seq, g_sne, List.length_set]; exact ⟨m3, m4, m5, m6, m7⟩
      by_cases c0 : e = t
      · -- the end
        obtain ⟨F2, w1, w2, w3⟩ := y1 c0
        refine ⟨A2, F2, fi1, q1.trans w1, fi2, Or.inr ⟨k + 1, w, by omega, by omega, w2, q12.trans w3, fun P' B G hm hM g5 g6 g7 hag => ?_⟩⟩
        obtain ⟨B1, G1, r1, r2, r3, r4, r5, r6, r7, r8, r9, r10⟩ := hmod P' B G hm hM g5 g6 g7 hag
        have i1 := m_isAt (P := P') r7 s5 r4 (nI 47) (nI 47)
        have i2 := m_isAt (P := P') r7 s5 r4 (nI 44) (nI 44)
        rw [b01_f (fun z => by omega)] at i1 i2
        have e6 : up G1 19206 (nI 1) = G1 := by rw [← r5]; exact up_id _ _
        have g3 := r7.1
        rw [← c0] at g3
        refine ⟨B1, G1, r1, r2, r3, ?_, r5, r6, r9 w (Nat.le_refl _)⟩
        rw [r10, am_bv_s, b_Mod_readLetter_22]
        simp (maxSteps := 2000000) (disch := (first | omega | (simp (disch := omega) only [up_eq, up_ne, cpA_o, cpF_o, List.length_set] <;> omega) | fail)) only [ob_s, am_bi_s, am_bv_s, am_bl_s, ↓bif_d, lits, nI_addS, nI_mulS, nI_subS, nI_lt', nI_le', nI_eq', ↓rd_nI, ↓wrH, up_eq, up_ne, up_up, up_sw, List.set_set, g_seq, g_sne, Nat.reduceEqDiff, ↓reduceIte, List.length_set, Nat.add_sub_cancel_left, Nat.add_sub_cancel, ite_true, ite_false, if_true, if_false, not_true_eq_false, not_false_eq_true, Bool.and_true, Bool.true_and, true_or, or_true, false_or, or_false, and_true, true_and, and_false, false_and, Nat.not_lt_zero, hpRM, hpIM, hpFM, hpLM, hpSM, r5, n10, i1, i2]
        rw [b_Mod_readLetter_88]
        simp (maxSteps := 2000000) (disch := (first | omega | (simp (disch := omega) only [up_eq, up_ne, cpA_o, cpF_o, List.length_set] <;> omega) | fail)) only [ob_s, am_bi_s, am_bv_s, am_bl_s, ↓bif_d, lits, nI_addS, nI_mulS, nI_subS, nI_lt', nI_le', nI_eq', ↓rd_nI, ↓wrH, up_eq, up_ne, up_up, up_sw, List.set_set, g_seq, g_sne, Nat.reduceEqDiff, ↓reduceIte, List.length_set, Nat.add_sub_cancel_left, Nat.add_sub_cancel, ite_true, ite_false, if_true, if_false, not_true_eq_false, not_false_eq_true, Bool.and_true, Bool.true_and, true_or, or_true, false_or, or_false, and_true, true_and, and_false, false_and, Nat.not_lt_zero, hpRM, hpIM, hpFM, hpLM, hpSM, r5, n10, r4, g3]
        rw [e6]
      · have c1 : e < t := by omega
        by_cases c2 : T e = nI 44
        · obtain ⟨F2, t3, t4, t5, w1, w2, w3, w4, w5, w6, w7⟩ := y2 c1 c2
          have hF2 := q1.trans w1
          have hc2 : CL A2 F2 T t := CL_c hc fi1 hF2 fi2.1 fi2.2.1 fi2.2.2
          obtain ⟨A', F', o1, o2, o3, o4⟩ := ih (e + 1) (k + 1) (w + 1) A2 F2 t3 t4 t5 (by omega) c1 (by omega) (by omega) hc2 w2 w3 w4 w5 w6
          have hgo : ∀ Q, MRun T t nB nl nb nx A2 (e + 1) (k + 1) (w + 1) Q → MRun T t nB nl nb nx A p k w Q := by
            intro Q hQ P' B G hm hM g5 g6 g7 hag
            obtain ⟨B1, G1, r1, r2, r3, r4, r5, r6, r7, r8, r9, r10⟩ := hmod P' B G hm hM g5 g6 g7 hag
            have i1 := m_isAt (P := P') r7 s5 r4 (nI 47) (nI 47)
            have i2 := m_isAt (P := P') r7 s5 r4 (nI 44) (nI 44)
            rw [b01_f (fun z => z.2.1 (by rw [c2]; decide))] at i1
            rw [b01_t ⟨c1, eq_nn.mpr c2⟩] at i2
            obtain ⟨B', G', o5, o6, o7, o8, o9⟩ := hQ P' B1 (up G1 19205 (nI (e + 1))) (ML_f r7 (fun k hk => up_ne _ _ (by omega))) r8 (up_eq _ _ _) (by simp (disch := (first | omega | fail)) only [st_e, sf_e, Nat.reduceAdd, Nat.reduceMul, up_eq, up_ne, cpA_o, cpF_o]; exact r5) (by simp (disch := (first | omega | fail)) only [st_e, sf_e, Nat.reduceAdd, Nat.reduceMul, up_eq, up_ne, cpA_o, cpF_o]; exact r6) (r9 (w + 1) (by omega))
            refine ⟨B', G', fun j z1 z2 z3 => (o5 j z1 z2 z3).trans (r1 j z1 z2 z3), fun k hk => by rw [o6 k hk, up_ne _ _ (by omega)]; exact r2 k hk, o7, ?_, o9⟩
            rw [r10, am_bv_s, b_Mod_readLetter_22]
            simp (maxSteps := 2000000) (disch := (first | omega | (simp (disch := omega) only [up_eq, up_ne, cpA_o, cpF_o, List.length_set] <;> omega) | fail)) only [ob_s, am_bi_s, am_bv_s, am_bl_s, ↓bif_d, lits, nI_addS, nI_mulS, nI_subS, nI_lt', nI_le', nI_eq', ↓rd_nI, ↓wrH, up_eq, up_ne, up_up, up_sw, List.set_set, g_seq, g_sne, Nat.reduceEqDiff, ↓reduceIte, List.length_set, Nat.add_sub_cancel_left, Nat.add_sub_cancel, ite_true, ite_false, if_true, if_false, not_true_eq_false, not_false_eq_true, Bool.and_true, Bool.true_and, true_or, or_true, false_or, or_false, and_true, true_and, and_false, false_and, Nat.not_lt_zero, hpRM, hpIM, hpFM, hpLM, hpSM, r5, n10, i1, i2]
            rw [b_Mod_readLetter_51]
            simp (maxSteps := 2000000) (disch := (first | omega | (simp (disch := omega) only [up_eq, up_ne, cpA_o, cpF_o, List.length_set] <;> omega) | fail)) only [ob_s, am_bi_s, am_bv_s, am_bl_s, ↓bif_d, lits, nI_addS, nI_mulS, nI_subS, nI_lt', nI_le', nI_eq', ↓rd_nI, ↓wrH, up_eq, up_ne, up_up, up_sw, List.set_set, g_seq, g_sne, Nat.reduceEqDiff, ↓reduceIte, List.length_set, Nat.add_sub_cancel_left, Nat.add_sub_cancel, ite_true, ite_false, if_true, if_false, not_true_eq_false, not_false_eq_true, Bool.and_true, Bool.true_and, true_or, or_true, false_or, or_false, and_true, true_and, and_false, false_and, Nat.not_lt_zero, hpRM, hpIM, hpFM, hpLM, hpSM, n10, i2, r4]
            exact o8
          refine ⟨A', F', fi1.trans o1, hF2.trans o2, o3, ?_⟩
          rcases o4 with ⟨f, u1, u2, u3⟩ | ⟨K, W, u1, u2, u3, u4, u5⟩
          · exact Or.inl ⟨f, u1, q12.trans (w7.trans u2), hgo _ u3⟩
          · exact Or.inr ⟨K, W, u1, u2, u3, q12.trans (w7.trans u4), hgo _ u5⟩
        · by_cases c3 : T e = nI 47
          · obtain ⟨F2, t3, t4, t5, w1, w2, w3, w4, w5, w6, w7⟩ := y3 c1 c3
            have hF2 := q1.trans w1
            have hc2 : CL A2 F2 T t := CL_c hc fi1 hF2 fi2.1 fi2.2.1 fi2.2.2
            obtain ⟨A', F', o1, o2, o3, o4⟩ := ih (e + 1) (k + 1) w A2 F2 t3 t4 t5 (by omega) c1 (by omega) (by omega) hc2 w2 w3 w4 w5 w6
            have hgo : ∀ Q, MRun T t nB nl nb nx A2 (e + 1) (k + 1) w Q → MRun T t nB nl nb nx A p k w Q := by
              intro Q hQ P' B G hm hM g5 g6 g7 hag
              obtain ⟨B1, G1, r1, r2, r3, r4, r5, r6, r7, r8, r9, r10⟩ := hmod P' B G hm hM g5 g6 g7 hag
              have i1 := m_isAt (P := P') r7 s5 r4 (nI 47) (nI 47)
              have i2 := m_isAt (P := P') r7 s5 r4 (nI 44) (nI 44)
              rw [b01_t ⟨c1, eq_nn.mpr c3⟩] at i1
              rw [b01_f (fun z => c2 (eq_nn.mp z.2))] at i2
              obtain ⟨B', G', o5, o6, o7, o8, o9⟩ := hQ P' B1 (up G1 19205 (nI (e + 1))) (ML_f r7 (fun k hk => up_ne _ _ (by omega))) r8 (up_eq _ _ _) (by simp (disch := (first | omega | fail)) only [st_e, sf_e, Nat.reduceAdd, Nat.reduceMul, up_eq, up_ne, cpA_o, cpF_o]; exact r5) (by simp (disch := (first | omega | fail)) only [st_e, sf_e, Nat.reduceAdd, Nat.reduceMul, up_eq, up_ne, cpA_o, cpF_o]; exact r6) (r9 w (Nat.le_refl _))
              refine ⟨B', G', fun j z1 z2 z3 => (o5 j z1 z2 z3).trans (r1 j z1 z2 z3), fun k hk => by rw [o6 k hk, up_ne _ _ (by omega)]; exact r2 k hk, o7, ?_, o9⟩
              rw [r10, am_bv_s, b_Mod_readLetter_22]
              simp (maxSteps := 2000000) (disch := (first | omega | (simp (disch := omega) only [up_eq, up_ne, cpA_o, cpF_o, List.length_set] <;> omega) | fail)) only [ob_s, am_bi_s, am_bv_s, am_bl_s, ↓bif_d, lits, nI_addS, nI_mulS, nI_subS, nI_lt', nI_le', nI_eq', ↓rd_nI, ↓wrH, up_eq, up_ne, up_up, up_sw, List.set_set, g_seq, g_sne, Nat.reduceEqDiff, ↓reduceIte, List.length_set, Nat.add_sub_cancel_left, Nat.add_sub_cancel, ite_true, ite_false, if_true, if_false, not_true_eq_false, not_false_eq_true, Bool.and_true, Bool.true_and, true_or, or_true, false_or, or_false, and_true, true_and, and_false, false_and, Nat.not_lt_zero, hpRM, hpIM, hpFM, hpLM, hpSM, r5, n10, i1]
              rw [b_Mod_readLetter_51]
              simp (maxSteps := 2000000) (disch := (first | omega | (simp (disch := omega) only [up_eq, up_ne, cpA_o, cpF_o, List.length_set] <;> omega) | fail)) only [ob_s, am_bi_s, am_bv_s, am_bl_s, ↓bif_d, lits, nI_addS, nI_mulS, nI_subS, nI_lt', nI_le', nI_eq', ↓rd_nI, ↓wrH, up_eq, up_ne, up_up, up_sw, List.set_set, g_seq, g_sne, Nat.reduceEqDiff, ↓reduceIte, List.length_set, Nat.add_sub_cancel_left, Nat.add_sub_cancel, ite_true, ite_false, if_true, if_false, not_true_eq_false, not_false_eq_true, Bool.and_true, Bool.true_and, true_or, or_true, false_or, or_false, and_true, true_and, and_false, false_and, Nat.not_lt_zero, hpRM, hpIM, hpFM, hpLM, hpSM, n10, i2, r4, Nat.add_zero]
              exact o8
            refine ⟨A', F', fi1.trans o1, hF2.trans o2, o3, ?_⟩
            rcases o4 with ⟨f, u1, u2, u3⟩ | ⟨K, W, u1, u2, u3, u4, u5⟩
            · exact Or.inl ⟨f, u1, q12.trans (w7.trans u2), hgo _ u3⟩
            · exact Or.inr ⟨K, W, u1, u2, u3, q12.trans (w7.trans u4), hgo _ u5⟩
          · -- no sign that may stand here
            refine ⟨up A 187 ((A 187).set k (nI l)), F1, hA1, q1, ⟨hl1, hl2, hl3⟩, Or.inl ⟨e, s5, q12.trans (y4 c1 c2 c3), fun P' B G hm hM g5 g6 g7 hag => ?_⟩⟩
            obtain ⟨B1, G1, r1, r2, r3, r4, r5, r6, r7, r8, r9, r10⟩ := hmod P' B G hm hM g5 g6 g7 hag
            have i1 := m_isAt (P := P') r7 s5 r4 (nI 47) (nI 47)
            have i2 := m_isAt (P := P') r7 s5 r4 (nI 44) (nI 44)
            rw [b01_f (fun z => c3 (eq_nn.mp z.2))] at i1
            rw [b01_f (fun z => c2 (eq_nn.mp z.2))] at i2
            have g3 := r7.1
            refine ⟨B1, up G1 19206 (nI 0), r1, fun k hk => by rw [up_ne _ _ (by omega)]; exact r2 k hk, r3, ?_, up_eq _ _ _, by simp (disch := (first | omega | fail)) only [st_e, sf_e, Nat.reduceAdd, Nat.reduceMul, up_eq, up_ne, cpA_o, cpF_o]; exact r4⟩
            rw [r10, am_bv_s, b_Mod_readLetter_22]
            simp (maxSteps := 2000000) (disch := (first | omega | (simp (disch := omega) only [up_eq, up_ne, cpA_o, cpF_o, List.length_set] <;> omega) | fail)) only [ob_s, am_bi_s, am_bv_s, am_bl_s, ↓bif_d, lits, nI_addS, nI_mulS, nI_subS, nI_lt', nI_le', nI_eq', ↓rd_nI, ↓wrH, up_eq, up_ne, up_up, up_sw, List.set_set, g_seq, g_sne, Nat.reduceEqDiff, ↓reduceIte, List.length_set, Nat.add_sub_cancel_left, Nat.add_sub_cancel, ite_true, ite_false, if_true, if_false, not_true_eq_false, not_false_eq_true, Bool.and_true, Bool.true_and, true_or, or_true, false_or, or_false, and_true, true_and, and_false, false_and, Nat.not_lt_zero, hpRM, hpIM, hpFM, hpLM, hpSM, r5, n10, i1, i2]
            rw [b_Mod_readLetter_88]
            simp (maxSteps := 2000000) (disch := (first | omega | (simp (disch := omega) only [up_eq, up_ne, cpA_o, cpF_o, List.length_set] <;> omega) | fail)) only [ob_s, am_bi_s, am_bv_s, am_bl_s, ↓bif_d, lits, nI_addS, nI_mulS, nI_subS, nI_lt', nI_le', nI_eq', ↓rd_nI, ↓wrH, up_eq, up_ne, up_up, up_sw, List.set_set, g_seq, g_sne, Nat.reduceEqDiff, ↓reduceIte, List.length_set, Nat.add_sub_cancel_left, Nat.add_sub_cancel, ite_true, ite_false, if_true, if_false, not_true_eq_false, not_false_eq_true, Bool.and_true, Bool.true_and, true_or, or_true, false_or, or_false, and_true, true_and, and_false, false_and, Nat.not_lt_zero, hpRM, hpIM, hpFM, hpLM, hpSM, r5, n10, r4, g3, c0]
end X

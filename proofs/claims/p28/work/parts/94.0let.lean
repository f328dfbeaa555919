/-! LETTERS: the text, and how the class reads it -/
def dgt (T : Nat → Int32) (t j : Nat) : Prop := j < t ∧ ¬ T j < nI 48 ∧ ¬ nI 57 < T j
def dvl (T : Nat → Int32) (j : Nat) : Nat := (T j).toNatClampNeg - 48
theorem dgt_v {T : Nat → Int32} {t j : Nat} (h : dgt T t j) : T j = nI (48 + dvl T j) ∧ dvl T j ≤ 9 := by
  obtain ⟨n, n1, n2, n3⟩ := (rg_iff (v := T j) (lo := 48) (hi := 57) (by omega) (by omega)).mpr (fun z => z.elim h.2.1 h.2.2)
  unfold dvl
  rw [n3, nI_clamp (by omega)]
  exact ⟨by congr 1; omega, by omega⟩
theorem dgt_0 {T : Nat → Int32} {t j : Nat} (h : dgt T t j) : T j = nI 48 ↔ dvl T j = 0 := by
  obtain ⟨h1, h2⟩ := dgt_v h
  rw [h1, nI_eq' (by omega) (by omega)]
  omega
noncomputable def scn (T : Nat → Int32) (t : Nat) : Nat → Nat → Nat → Nat × Nat
  | 0, e, v => (e, v)
  | n + 1, e, v => cif (dgt T t e) (scn T t n (e + 1) (10 * v + dvl T e)) (e, v)
theorem scn_s (T : Nat → Int32) (t n e v : Nat) : scn T t (n + 1) e v = cif (dgt T t e) (scn T t n (e + 1) (10 * v + dvl T e)) (e, v) := rfl
theorem scn_0 (T : Nat → Int32) (t e v : Nat) : scn T t 0 e v = (e, v) := rfl
theorem scn_spec (T : Nat → Int32) (t : Nat) : ∀ n e v, e ≤ t → e ≤ (scn T t n e v).1 ∧ (scn T t n e v).1 ≤ t ∧ (scn T t n e v).1 ≤ e + n ∧ (dgt T t (scn T t n e v).1 → (scn T t n e v).1 = e + n) ∧ (v + 1 ≤ 10 ^ (7 - n) → n ≤ 7 → (scn T t n e v).2 < 10 ^ 7) ∧ v ≤ (scn T t n e v).2 ∧ (0 < n → dgt T t e → ¬ dvl T e = 0 → 0 < (scn T t n e v).2) := by
  intro n
  induction n with
  | zero =>
    intro e v he
    rw [scn_0]
    exact ⟨Nat.le_refl _, he, Nat.le_refl _, fun _ => rfl, fun h _ => by show v < 10 ^ 7; exact h, Nat.le_refl _, fun z => absurd z (Nat.lt_irrefl _)⟩
  | succ n ih =>
    intro e v he
    rw [scn_s]
    by_cases c : dgt T t e
    · rw [cif_t c]
      obtain ⟨d1, d2⟩ := dgt_v c
      obtain ⟨q1, q2, q3, q4, q5, q6, q7⟩ := ih (e + 1) (10 * v + dvl T e) c.1
      refine ⟨by omega, q2, by omega, fun z => by have := q4 z; omega, fun h hn => ?_, by omega, fun _ _ hd => by omega⟩
      refine q5 ?_ (by omega)
      have hp : 10 ^ (7 - n) = 10 ^ (7 - (n + 1)) * 10 := by
        rw [← Nat.pow_succ]
        congr 1
        omega
      rw [hp]
      omega
    · rw [cif_f c]
      refine ⟨Nat.le_refl _, he, by show e ≤ _; omega, fun z => absurd z c, fun h hn => ?_, Nat.le_refl _, fun _ z => absurd z c⟩
      show v < 10 ^ 7
      have : 10 ^ (7 - (n + 1)) ≤ 10 ^ 7 := Nat.pow_le_pow_right (by omega) (by omega)
      omega
noncomputable def numL (T : Nat → Int32) (t p : Nat) : Nat × Nat := cif (p < t ∧ T p = nI 48) (p + 1, 0) (scn T t 2 p 0)
noncomputable def numA (T : Nat → Int32) (t p : Nat) : Nat × Nat := cif (p < t ∧ T p = nI 48) (p, 0) (scn T t 7 p 0)
theorem dgt_48 {T : Nat → Int32} {t j : Nat} (h : j < t) (h2 : T j = nI 48) : dgt T t j ∧ dvl T j = 0 := by
  have : dgt T t j := ⟨h, by rw [h2]; decide, by rw [h2]; decide⟩
  exact ⟨this, (dgt_0 this).mp h2⟩
theorem numL_spec (T : Nat → Int32) (t : Nat) {p : Nat} (hp : p ≤ t) : p ≤ (numL T t p).1 ∧ (numL T t p).1 ≤ t ∧ (numL T t p).1 ≤ p + 2 ∧ (numL T t p).2 < 10 ^ 7 ∧ (dgt T t (numL T t p).1 → ¬ (numL T t p).1 = p ∧ (((numL T t p).1 = p + 1 ∧ (numL T t p).2 = 0) ∨ ((numL T t p).1 = p + 2 ∧ 0 < (numL T t p).2))) := by
  unfold numL
  by_cases c : p < t ∧ T p = nI 48
  · rw [cif_t c]
    exact ⟨Nat.le_succ p, c.1, by show p + 1 ≤ p + 2; omega, by show 0 < 10 ^ 7; omega, fun _ => ⟨by show ¬ p + 1 = p; omega, Or.inl ⟨rfl, rfl⟩⟩⟩
  · rw [cif_f c]
    obtain ⟨q1, q2, q3, q4, q5, q6, q7⟩ := scn_spec T t 2 p 0 hp
    refine ⟨q1, q2, q3, q5 (by omega) (by omega), fun z => ?_⟩
    have := q4 z
    refine ⟨by omega, Or.inr ⟨this, ?_⟩⟩
    have hd : dgt T t p := by
      apply Classical.byContradiction
      intro w
      rw [scn_s, cif_f w] at this
      have : p = p + 2 := this
      omega
    exact q7 (by omega) hd (fun w => c ⟨hd.1, (dgt_0 hd).mpr w⟩)
theorem numA_spec (T : Nat → Int32) (t : Nat) {p : Nat} (hp : p ≤ t) : p ≤ (numA T t p).1 ∧ (numA T t p).1 ≤ t ∧ (numA T t p).1 ≤ p + 7 ∧ (numA T t p).2 < 10 ^ 7 ∧ (dgt T t (numA T t p).1 → ¬ (numA T t p).1 = p → (numA T t p).1 = p + 7) ∧ (¬ (numA T t p).1 = p → 0 < (numA T t p).2) ∧ (dgt T t (numA T t p).1 → (numA T t p).1 = p → dvl T p = 0) := by
  unfold numA
  by_cases c : p < t ∧ T p = nI 48
  · rw [cif_t c]
    exact ⟨Nat.le_refl p, hp, by show p ≤ p + 7; omega, by show 0 < 10 ^ 7; omega, fun _ z => absurd rfl z, fun z => absurd rfl z, fun _ _ => (dgt_48 c.1 c.2).2⟩
  · rw [cif_f c]
    obtain ⟨q1, q2, q3, q4, q5, q6, q7⟩ := scn_spec T t 7 p 0 hp
    refine ⟨q1, q2, q3, q5 (by omega) (by omega), fun z _ => q4 z, fun z => ?_, fun z w => ?_⟩
    · have hd : dgt T t p := by
        apply Classical.byContradiction
        intro w
        rw [scn_s, cif_f w] at z
        exact z rfl
      exact q7 (by omega) hd (fun w => c ⟨hd.1, (dgt_0 hd).mpr w⟩)
    · have := q4 z
      omega
/-- what an alternative gives: a fault, or a lot, an amount and where it ends -/
noncomputable def altR (T : Nat → Int32) (t nl p : Nat) : Nat ⊕ (Nat × Nat × Nat) :=
  cif (¬ (numL T t p).1 = p ∧ ¬ dgt T t (numL T t p).1 ∧ (numL T t p).2 < nl)
    (cif ((numL T t p).1 < t ∧ T (numL T t p).1 = nI 61)
      (cif (¬ (numA T t ((numL T t p).1 + 1)).1 = (numL T t p).1 + 1 ∧ ¬ dgt T t (numA T t ((numL T t p).1 + 1)).1 ∧ (numA T t ((numL T t p).1 + 1)).2 ≤ 1000000)
        (.inr ((numL T t p).2, (numA T t ((numL T t p).1 + 1)).2, (numA T t ((numL T t p).1 + 1)).1))
        (.inl (cif (¬ (numA T t ((numL T t p).1 + 1)).1 = (numL T t p).1 + 1 ∧ dgt T t (numA T t ((numL T t p).1 + 1)).1) (numA T t ((numL T t p).1 + 1)).1 ((numL T t p).1 + 1))))
      (.inl (numL T t p).1))
    (.inl (cif (¬ (numL T t p).1 = p ∧ dgt T t (numL T t p).1) (numL T t p).1 p))
def CL (A : Nat → List Int32) (F : Nat → Int32) (T : Nat → Int32) (t : Nat) : Prop := F 18401 = nI t ∧ t ≤ 80 ∧ (A 185).length = 80 ∧ (∀ j, j < t → g (A 185) j = T j) ∧ (A 187).length = 20 ∧ (A 189).length = 20 ∧ (A 191).length = 20
def LfA (A A' : Nat → List Int32) : Prop := ∀ j, j ≠ 187 → j ≠ 189 → j ≠ 191 → A' j = A j
def LfF (F F' : Nat → Int32) : Prop := ∀ k, (k < 18405 ∨ 18409 < k) → F' k = F k
theorem LfA.trans {A A1 A2 : Nat → List Int32} (h1 : LfA A A1) (h2 : LfA A1 A2) : LfA A A2 := fun j z1 z2 z3 => (h2 j z1 z2 z3).trans (h1 j z1 z2 z3)
theorem LfF.trans {F F1 F2 : Nat → Int32} (h1 : LfF F F1) (h2 : LfF F1 F2) : LfF F F2 := fun k z => (h2 k z).trans (h1 k z)
theorem CL_c {A A' : Nat → List Int32} {F F' : Nat → Int32} {T : Nat → Int32} {t : Nat} (h : CL A F T t) (hA : LfA A A') (hF : LfF F F') (l1 : (A' 187).length = 20) (l2 : (A' 189).length = 20) (l3 : (A' 191).length = 20) : CL A' F' T t := by
  obtain ⟨h1, h2, h3, h4, -⟩ := h
  refine ⟨by rw [hF _ (by omega)]; exact h1, h2, ?_, ?_, l1, l2, l3⟩
  · rw [hA 185 (by omega) (by omega) (by omega)]; exact h3
  · rw [hA 185 (by omega) (by omega) (by omega)]; exact h4
theorem CL_f {A : Nat → List Int32} {F F' : Nat → Int32} {T : Nat → Int32} {t : Nat} (h : CL A F T t) (hF : LfF F F') : CL A F' T t := CL_c h (fun _ _ _ _ => rfl) hF h.2.2.2.2.1 h.2.2.2.2.2.1 h.2.2.2.2.2.2
section X
variable {A : Nat → List Int32} {F : Nat → Int32} {P : Nat → Nat} {T : Nat → Int32} {t : Nat}
/-- at the end of the text -/
theorem c_end (hc : CL A F T t) (x : Int32) (u3 u4 u5 : Value) : am_ev m_Letter_read (21, [.ref 184, .int x, .int (nI t), u3, u4, u5], [], heap A F P) = am_bi (am_cl m_Letter_readEnd [.ref 184, .int x] (heap A F P)) (fun w h => some (some (.int w), h)) := by
  obtain ⟨h1, h2, h3, h4, h5, h6, h7⟩ := hc
  have hle : t ≤ t := Nat.le_refl _
  rw [b_Letter_read_21, hpI_184_1, h1]
  simp only [ob_s, ↓bif_d, nI_le' (show t < 2 ^ 31 by omega) (show t < 2 ^ 31 by omega), hle, if_true]
/-- a digit -/
theorem c_dig (hc : CL A F T t) {e : Nat} (hd : dgt T t e) (x : Int32) (u3 u4 u5 : Value) : am_ev m_Letter_read (21, [.ref 184, .int x, .int (nI e), u3, u4, u5], [], heap A F P) = am_bi (am_cl m_Letter_readDigit [.ref 184, .int (nI (dvl T e)), .int (nI e)] (heap A F P)) (fun w h => if w = -nI 1 then am_ev m_Letter_read (21, [.ref 184, .int x, .int (nI (e + 1)), .int (T e), .int (nI 1), .int w], [], h) else some (some (.int w), h)) := by
  obtain ⟨h1, h2, h3, h4, h5, h6, h7⟩ := hc
  have he := hd.1
  obtain ⟨d1, d2⟩ := dgt_v hd
  have eg := h4 e he
  rw [d1] at eg
  have hle : ¬ t ≤ e := by omega
  have hle2 : ¬ (A 185).length ≤ e := by omega
  have hln : ∀ A F P, am_len (heap A F P) 185 = some (nI (A 185).length) := fun A F P => rfl
  have hs : nI (48 + dvl T e) - nI 48 = nI (dvl T e) := by rw [nI_subS (by omega)]; congr 1; omega
  have c1 : ¬ 48 + dvl T e < 48 := by omega
  have c2 : ¬ 57 < 48 + dvl T e := by omega
  rw [b_Letter_read_21, hpI_184_1, h1, d1]
  simp only [ob_s, ↓bif_d, nI_le' (show t < 2 ^ 31 by omega) (show e < 2 ^ 31 by omega), hle, if_false]
  simp (maxSteps := 2000000) (disch := (first | omega | (simp (disch := omega) only [up_eq, up_ne, cpA_o, cpF_o, List.length_set] <;> omega) | fail)) only [ob_s, am_bi_s, am_bv_s, am_bl_s, ↓bif_d, lits, nI_addS, nI_mulS, nI_subS, nI_lt', nI_le', nI_eq', ↓rd_nI, ↓wrH, up_eq, up_ne, up_up, up_sw, List.set_set, g_seq, g_sne, Nat.reduceEqDiff, ↓reduceIte, List.length_set, Nat.add_sub_cancel_left, Nat.add_sub_cancel, ite_true, ite_false, if_true, if_false, not_true_eq_false, not_false_eq_true, Bool.and_true, Bool.true_and, true_or, or_true, false_or, or_false, and_true, true_and, and_false, false_and, Nat.not_lt_zero, hpRX, hpIX, hpFX, hpLX, hpSX, ↓rgX, ↓rpX, Nat.reduceLeDiff, Nat.reduceLT, Nat.reduceAdd, Nat.reduceMul, Nat.reduceSub, hln, hle2, eg, c1, c2, hs]
/-- another sign -/
theorem c_mark (hc : CL A F T t) {e : Nat} (he : e < t) (hd : ¬ dgt T t e) (x : Int32) (u3 u4 u5 : Value) : am_ev m_Letter_read (21, [.ref 184, .int x, .int (nI e), u3, u4, u5], [], heap A F P) = am_bi (am_cl m_Letter_readMark [.ref 184, .int (T e), .int (nI e), .int x] (heap A F P)) (fun w h => if w = -nI 1 then am_ev m_Letter_read (21, [.ref 184, .int x, .int (nI (e + 1)), .int (T e), .int (nI 0), .int w], [], h) else some (some (.int w), h)) := by
  obtain ⟨h1, h2, h3, h4, h5, h6, h7⟩ := hc
  have eg := h4 e he
  have hle : ¬ t ≤ e := by omega
  have hle2 : ¬ (A 185).length ≤ e := by omega
  have hln : ∀ A F P, am_len (heap A F P) 185 = some (nI (A 185).length) := fun A F P => rfl
  have b61 := fun x1 x2 x3 u4 u5 h => b_Letter_read_61 184 x1 x2 x3 u4 u5 h
  rw [b_Letter_read_21, hpI_184_1, h1]
  simp only [ob_s, ↓bif_d, nI_le' (show t < 2 ^ 31 by omega) (show e < 2 ^ 31 by omega), hle, if_false]
  by_cases c1 : T e < nI 48
  · simp (maxSteps := 2000000) (disch := (first | omega | (simp (disch := omega) only [up_eq, up_ne, cpA_o, cpF_o, List.length_set] <;> omega) | fail)) only [ob_s, am_bi_s, am_bv_s, am_bl_s, ↓bif_d, lits, nI_addS, nI_mulS, nI_subS, nI_lt', nI_le', nI_eq', ↓rd_nI, ↓wrH, up_eq, up_ne, up_up, up_sw, List.set_set, g_seq, g_sne, Nat.reduceEqDiff, ↓reduceIte, List.length_set, Nat.add_sub_cancel_left, Nat.add_sub_cancel, ite_true, ite_false, if_true, if_false, not_true_eq_false, not_false_eq_true, Bool.and_true, Bool.true_and, true_or, or_true, false_or, or_false, and_true, true_and, and_false, false_and, Nat.not_lt_zero, hpRX, hpIX, hpFX, hpLX, hpSX, ↓rgX, ↓rpX, Nat.reduceLeDiff, Nat.reduceLT, Nat.reduceAdd, Nat.reduceMul, Nat.reduceSub, hln, hle2, eg, c1, b61]
  · by_cases c2 : nI 57 < T e
    · simp (maxSteps := 2000000) (disch := (first | omega | (simp (disch := omega) only [up_eq, up_ne, cpA_o, cpF_o, List.length_set] <;> omega) | fail)) only [ob_s, am_bi_s, am_bv_s, am_bl_s, ↓bif_d, lits, nI_addS, nI_mulS, nI_subS, nI_lt', nI_le', nI_eq', ↓rd_nI, ↓wrH, up_eq, up_ne, up_up, up_sw, List.set_set, g_seq, g_sne, Nat.reduceEqDiff, ↓reduceIte, List.length_set, Nat.add_sub_cancel_left, Nat.add_sub_cancel, ite_true, ite_false, if_true, if_false, not_true_eq_false, not_false_eq_true, Bool.and_true, Bool.true_and, true_or, or_true, false_or, or_false, and_true, true_and, and_false, false_and, Nat.not_lt_zero, hpRX, hpIX, hpFX, hpLX, hpSX, ↓rgX, ↓rpX, Nat.reduceLeDiff, Nat.reduceLT, Nat.reduceAdd, Nat.reduceMul, Nat.reduceSub, hln, hle2, eg, c1, c2, b61]
    · exact absurd ⟨he, c1, c2⟩ hd
/-- digits, as far as they go -/
theorem c_scan (x : Int32) {κ D : Nat} (hκ : (κ = 0 ∧ D = 2) ∨ (κ = 1 ∧ D = 7)) : ∀ n e d v (F : Nat → Int32) (u3 u4 u5 : Value), d + n = D → e ≤ t → CL A F T t → F 18407 = nI κ → F 18408 = nI v → F 18409 = nI d → (d = 0 → dgt T t e → ¬ dvl T e = 0) → (0 < d → 0 < v) → v < 10 ^ d → ∃ (F' : Nat → Int32) (u3' u4' u5' : Value), (∀ k, k ≠ 18408 → k ≠ 18409 → F' k = F k) ∧ F' 18408 = nI (scn T t n e v).2 ∧ F' 18409 = nI (d + ((scn T t n e v).1 - e)) ∧ am_ev m_Letter_read (21, [.ref 184, .int x, .int (nI e), u3, u4, u5], [], heap A F P) = am_ev m_Letter_read (21, [.ref 184, .int x, .int (nI (scn T t n e v).1), u3', u4', u5'], [], heap A F' P) := by
  intro n
  induction n with
  | zero =>
    intro e d v F u3 u4 u5 hd he hc f7 f8 f9 _ _ _
    rw [scn_0]
    exact ⟨F, u3, u4, u5, fun _ _ _ => rfl, f8, by rw [f9]; show nI d = nI (d + (e - e)); congr 1; omega, rfl⟩
  | succ n ih =>
    intro e d v F u3 u4 u5 hd he hc f7 f8 f9 g1 g2 g3
    rw [scn_s]
    by_cases c : dgt T t e
    · rw [cif_t c]
      have hc1 : CL A (up (up F 18408 (nI (v * 10 + dvl T e))) 18409 (nI (d + 1))) T t := CL_f hc (fun k hk => by rw [up_ne _ _ (by omega), up_ne _ _ (by omega)])
      have hpos : 0 < 10 * v + dvl T e := by
        rcases Nat.eq_zero_or_pos d with z | z
        · have := g1 z c; omega
        · have := g2 z; omega
      obtain ⟨F', u3', u4', u5', q1, q2, q3, q4⟩ := ih (e + 1) (d + 1) (10 * v + dvl T e) (up (up F 18408 (nI (v * 10 + dvl T e))) 18409 (nI (d + 1))) (.int (T e)) (.int (nI 1)) (.int (-nI 1)) (by omega) c.1 hc1 (by simp (disch := (first | omega | fail)) only [st_e, sf_e, Nat.reduceAdd, Nat.reduceMul, up_eq, up_ne, cpA_o, cpF_o]; exact f7) (by simp (disch := (first | omega | fail)) only [st_e, sf_e, Nat.reduceAdd, Nat.reduceMul, up_eq, up_ne, cpA_o, cpF_o]; congr 1; omega) (by simp (disch := (first | omega | fail)) only [st_e, sf_e, Nat.reduceAdd, Nat.reduceMul, up_eq, up_ne, cpA_o, cpF_o]) (fun z => by omega) (fun _ => hpos) (by have := Nat.pow_succ 10 d; have := (dgt_v c).2; omega)
      obtain ⟨s1, s2, s3, -⟩ := scn_spec T t n (e + 1) (10 * v + dvl T e) c.1
      refine ⟨F', u3', u4', u5', fun k z1 z2 => by rw [q1 k z1 z2, up_ne _ _ z2, up_ne _ _ z1], q2, by rw [q3]; congr 1; omega, ?_⟩
      rw [c_dig hc c, ← q4]
      have d9 := (dgt_v c).2
      have b22 := fun x1 x2 h => b_Letter_readDigit_22 184 x1 x2 h
      have b45 := fun x1 x2 h => b_Letter_readDigit_45 184 x1 x2 h
      have hrd : am_cl m_Letter_readDigit [.ref 184, .int (nI (dvl T e)), .int (nI e)] (heap A F P) = some (some (.int (-nI 1)), heap A (up (up F 18408 (nI (v * 10 + dvl T e))) 18409 (nI (d + 1))) P) := by
        rw [e_Letter_readDigit 184 _ _ _ rfl]
        rcases hκ with ⟨k1, k2⟩ | ⟨k1, k2⟩
        · subst k1
          have hd2 : d < 2 := by omega
          by_cases z : d = 1
          · have hv : ¬ v = 0 := by have := g2 (by omega); omega
            subst z
            have hv9 : v < 10 := by omega
            simp (maxSteps := 2000000) (disch := (first | omega | (simp (disch := omega) only [up_eq, up_ne, cpA_o, cpF_o, List.length_set] <;> omega) | fail)) only [ob_s, am_bi_s, am_bv_s, am_bl_s, ↓bif_d, lits, nI_addS, nI_mulS, nI_subS, nI_lt', nI_le', nI_eq', ↓rd_nI, ↓wrH, up_eq, up_ne, up_up, up_sw, List.set_set, g_seq, g_sne, Nat.reduceEqDiff, ↓reduceIte, List.length_set, Nat.add_sub_cancel_left, Nat.add_sub_cancel, ite_true, ite_false, if_true, if_false, not_true_eq_false, not_false_eq_true, Bool.and_true, Bool.true_and, true_or, or_true, false_or, or_false, and_true, true_and, and_false, false_and, Nat.not_lt_zero, hpRX, hpIX, hpFX, hpLX, hpSX, ↓rgX, ↓rpX, Nat.reduceLeDiff, Nat.reduceLT, Nat.reduceAdd, Nat.reduceMul, Nat.reduceSub, f7, f8, f9, hv, b45, Nat.reduceLT]
          · simp (maxSteps := 2000000) (disch := (first | omega | (simp (disch := omega) only [up_eq, up_ne, cpA_o, cpF_o, List.length_set] <;> omega) | fail)) only [ob_s, am_bi_s, am_bv_s, am_bl_s, ↓bif_d, lits, nI_addS, nI_mulS, nI_subS, nI_lt', nI_le', nI_eq', ↓rd_nI, ↓wrH, up_eq, up_ne, up_up, up_sw, List.set_set, g_seq, g_sne, Nat.reduceEqDiff, ↓reduceIte, List.length_set, Nat.add_sub_cancel_left, Nat.add_sub_cancel, ite_true, ite_false, if_true, if_false, not_true_eq_false, not_false_eq_true, Bool.and_true, Bool.true_and, true_or, or_true, false_or, or_false, and_true, true_and, and_false, false_and, Nat.not_lt_zero, hpRX, hpIX, hpFX, hpLX, hpSX, ↓rgX, ↓rpX, Nat.reduceLeDiff, Nat.reduceLT, Nat.reduceAdd, Nat.reduceMul, Nat.reduceSub, f7, f8, f9, z, b45, hd2]
        · subst k1
          have hd7 : d < 7 := by omega
          by_cases z : d = 0
          · have hv := g1 z c
            subst z
            simp (maxSteps := 2000000) (disch := (first | omega | (simp (disch := omega) only [up_eq, up_ne, cpA_o, cpF_o, List.length_set] <;> omega) | fail)) only [ob_s, am_bi_s, am_bv_s, am_bl_s, ↓bif_d, lits, nI_addS, nI_mulS, nI_subS, nI_lt', nI_le', nI_eq', ↓rd_nI, ↓wrH, up_eq, up_ne, up_up, up_sw, List.set_set, g_seq, g_sne, Nat.reduceEqDiff, ↓reduceIte, List.length_set, Nat.add_sub_cancel_left, Nat.add_sub_cancel, ite_true, ite_false, if_true, if_false, not_true_eq_false, not_false_eq_true, Bool.and_true, Bool.true_and, true_or, or_true, false_or, or_false, and_true, true_and, and_false, false_and, Nat.not_lt_zero, hpRX, hpIX, hpFX, hpLX, hpSX, ↓rgX, ↓rpX, Nat.reduceLeDiff, Nat.reduceLT, Nat.reduceAdd, Nat.reduceMul, Nat.reduceSub, f7, f8, f9, hv, b22, Nat.reduceLT]
          · simp (maxSteps := 2000000) (disch := (first | omega | (simp (disch := omega) only [up_eq, up_ne, cpA_o, cpF_o, List.length_set] <;> omega) | fail)) only [ob_s, am_bi_s, am_bv_s, am_bl_s, ↓bif_d, lits, nI_addS, nI_mulS, nI_subS, nI_lt', nI_le', nI_eq', ↓rd_nI, ↓wrH, up_eq, up_ne, up_up, up_sw, List.set_set, g_seq, g_sne, Nat.reduceEqDiff, ↓reduceIte, List.length_set, Nat.add_sub_cancel_left, Nat.add_sub_cancel, ite_true, ite_false, if_true, if_false, not_true_eq_false, not_false_eq_true, Bool.and_true, Bool.true_and, true_or, or_true, false_or, or_false, and_true, true_and, and_false, false_and, Nat.not_lt_zero, hpRX, hpIX, hpFX, hpLX, hpSX, ↓rgX, ↓rpX, Nat.reduceLeDiff, Nat.reduceLT, Nat.reduceAdd, Nat.reduceMul, Nat.reduceSub, f7, f8, f9, z, b22, hd7]
      rw [hrd]
      simp only [am_bi_s, if_true]
    · rw [cif_f c]
      exact ⟨F, u3, u4, u5, fun _ _ _ => rfl, f8, by rw [f9]; show nI d = nI (d + (e - e)); congr 1; omega, rfl⟩
end X

/-! MONEY -/
def mPt (p s : Int32) : Int32 := nI (p.toNatClampNeg * s.toNatClampNeg / 1000)
noncomputable def mFe (r Bu : List Int32) (l : Nat) : Int32 := cif (g Bu l < nI 0 ∧ ¬ g r (78 + l) = nI 1) (g r 471) (nI 0)
noncomputable def mPart (r Bu Pr : List Int32) (k l : Nat) : Int32 := match k with
  | 0 => g Pr l
  | 1 => mPt (g Pr l) (g r 469)
  | 2 => mPt (g Pr l) (g r 470)
  | _ => mFe r Bu l
theorem mPt_N {p s : Nat} (hp : p ≤ 1000000) (hs : s ≤ 500) : p * s < 2 ^ 30 ∧ mPt (nI p) (nI s) = nI (p * s / 1000) := by
  have h : p * s ≤ 1000000 * 500 := Nat.mul_le_mul hp hs
  refine ⟨by omega, ?_⟩
  unfold mPt
  rw [nI_clamp (by omega), nI_clamp (by omega)]
theorem mPt_cls {p s : Int32} (hp : rg p 0 1000000) (hs : rg s 0 500) : p * s / nI 1000 = mPt p s := by
  obtain ⟨a, a1, a2, rfl⟩ := hp
  obtain ⟨b, b1, b2, rfl⟩ := hs
  obtain ⟨h, e⟩ := mPt_N a2 b2
  rw [e, nI_mulS, pk_div (by omega) (by omega) (by omega)]
theorem mPt_mod {p s : Int32} (hp : rg p 0 1000000) (hs : rg s 0 500) : Int64.toInt32 ((Int32.toInt64 p * Int32.toInt64 s) / 1000) = mPt p s := by
  obtain ⟨a, a1, a2, rfl⟩ := hp
  obtain ⟨b, b1, b2, rfl⟩ := hs
  obtain ⟨h, e⟩ := mPt_N a2 b2
  have e1 : (1000 : Int64) = lN 1000 := rfl
  rw [e, nI_l (by omega), nI_l (by omega), lN_mul, e1, pk_lDiv (by omega) (by omega) (by omega), lN_i]
noncomputable def fL (p : Nat → Prop) (f : Nat → Int32) : Nat → Nat → Int64 → Int64
  | 0, _, s => s
  | n + 1, k, s => fL p f n (k + 1) (cif (p k) (s + (f k).toInt64) s)
theorem fL_s (p : Nat → Prop) (f : Nat → Int32) (n k : Nat) (s : Int64) : fL p f (n + 1) k s = fL p f n (k + 1) (cif (p k) (s + (f k).toInt64) s) := rfl
theorem fL_c {p p' : Nat → Prop} {f f' : Nat → Int32} : ∀ n k s, (∀ j, k ≤ j → j < k + n → (p j ↔ p' j)) → (∀ j, k ≤ j → j < k + n → f j = f' j) → fL p f n k s = fL p' f' n k s := by
  intro n
  induction n with
  | zero => intro k s _ _; rfl
  | succ n ih =>
    intro k s h h'
    rw [fL_s, fL_s, propext (h k (Nat.le_refl _) (by omega)), h' k (Nat.le_refl _) (by omega)]
    exact ih (k + 1) _ (fun j h1 h2 => h j (by omega) (by omega)) (fun j h1 h2 => h' j (by omega) (by omega))
theorem lg_ring (s0 s2 s3 a b c : Int64) : (s0 - s2 - s3) + (a - b - c) = (s0 + a) - (s2 + b) - (s3 + c) := by grind
theorem fL_sub {p : Nat → Prop} {f f0 f2 f3 : Nat → Int32} : ∀ n k s0 s2 s3, (∀ j, k ≤ j → j < k + n → (f j).toInt64 = (f0 j).toInt64 - (f2 j).toInt64 - (f3 j).toInt64) → fL p f n k (s0 - s2 - s3) = fL p f0 n k s0 - fL p f2 n k s2 - fL p f3 n k s3 := by
  intro n
  induction n with
  | zero => intro k s0 s2 s3 _; rfl
  | succ n ih =>
    intro k s0 s2 s3 h
    rw [fL_s, fL_s, fL_s, fL_s]
    by_cases c : p k
    · rw [cif_t c, cif_t c, cif_t c, cif_t c, h k (Nat.le_refl _) (by omega), lg_ring]
      exact ih (k + 1) _ _ _ (fun j h1 h2 => h j (by omega) (by omega))
    · rw [cif_f c, cif_f c, cif_f c, cif_f c]
      exact ih (k + 1) _ _ _ (fun j h1 h2 => h j (by omega) (by omega))
theorem sub3_l {p c f : Nat} (hp : p ≤ 1000000) (hc : c ≤ p) (hf : f ≤ 1000) : (nI p - nI c - nI f).toInt64 = (nI p).toInt64 - (nI c).toInt64 - (nI f).toInt64 := by
  rw [nI_subS hc, nI_l (by omega), nI_l (by omega), nI_l (by omega), lN_sub hc]
  apply Int64.toInt_inj.mp
  rw [Int32.toInt_toInt64, pk_sub_toInt (by omega) (by omega), Int64.toInt_sub, pk_lT (by omega), pk_lT (by omega), Int.bmod_eq_of_le (by omega) (by omega)]
noncomputable def pF (r Bu Pr : List Int32) (b : Nat) : Nat → Nat → Int32 → Int32
  | 0, _, s => s
  | n + 1, k, s => pF r Bu Pr b n (k + 1) (cif (g Bu k = nI b) (s + (g Pr k + mPt (g Pr k) (g r 469))) s)
theorem pF_s (r Bu Pr : List Int32) (b n k : Nat) (s : Int32) : pF r Bu Pr b (n + 1) k s = pF r Bu Pr b n (k + 1) (cif (g Bu k = nI b) (s + (g Pr k + mPt (g Pr k) (g r 469))) s) := rfl
section X
variable {A : Nat → List Int32} {F : Nat → Int32} {P : Nat → Nat} {r : List Int32} {nB nl nb nx q t : Nat} {L B Fi Se Mn Bu Pr : List Int32}
/-- a part of the money, the class's -/
theorem c_part (hC : Cx A F r nB nl nb nx) (hW : LenW A) (hS : SaI r nB nl nb nx L B Fi Se Mn Bu Pr nl) (hK : ClS A r nB nl nx L B Fi Se Mn Bu Pr nl) {k l : Nat} (hk : k < 4) (hl : l < nl) : am_cl m_Money_part [.ref 183, .int (nI k), .int (nI l)] (heap A F P) = some (some (.int (mPart r Bu Pr k l)), heap A F P) := by
  have hpr := SaI_pr hC hS hl
  obtain ⟨hM, hB, ⟨n1, n2, n3, n4⟩, l1, hCL, hCM, hCX, hCS, hS0, hS1, hS2, hS3⟩ := id hC
  obtain ⟨c5, c7, c10, c12, c14, c16, c18, c21, c23, c25, c27, c29, c31, c33⟩ := LenS2 l1
  have hnl : nl ≤ 20 := hM.1.2.2.2.2.2.2.2.1
  have hnb : nb ≤ 8 := hM.1.2.2.2.2.2.2.2.2.1
  have hnx : nx ≤ 60 := hM.1.2.2.2.2.2.2.2.2.2
  have hnB : nB ≤ 8 := hM.1.2.2.2.2.2.2.1
  obtain ⟨w166, w168, w170, w172, w174, w176, w178, w180, w182⟩ := id hW
  obtain ⟨d1, d2, d3, d4, d5, d6⟩ := hK.1 l hl
  have h5 : (-nI 5 : Int32) < nI 0 := by decide
  have s1 : g (A 33) 1 = g r 469 := hCS 1 (by omega)
  have s2 : g (A 33) 2 = g r 470 := hCS 2 (by omega)
  have s3 : g (A 33) 3 = g r 471 := hCS 3 (by omega)
  have p1 := mPt_cls hpr hS1
  have p2 := mPt_cls hpr hS2
  have how := fun x A F P => e_Money_owesFee 183 x (heap A F P) rfl
  have : k = 0 ∨ k = 1 ∨ k = 2 ∨ k = 3 := by omega
  rcases this with rfl | rfl | rfl | rfl
  · rw [e_Money_part 183 _ _ _ rfl]
    simp (maxSteps := 2000000) (disch := (first | omega | (simp (disch := omega) only [up_eq, up_ne, cpA_o, cpF_o, List.length_set] <;> omega) | fail)) only [ob_s, am_bi_s, am_bv_s, am_bl_s, ↓bif_d, lits, nI_addS, nI_mulS, nI_subS, nI_lt', nI_le', nI_eq', ↓rd_nI, ↓wrH, up_eq, up_ne, up_up, up_sw, List.set_set, g_seq, g_sne, Nat.reduceEqDiff, ↓reduceIte, List.length_set, Nat.add_sub_cancel_left, Nat.add_sub_cancel, ite_true, ite_false, if_true, if_false, not_true_eq_false, not_false_eq_true, Bool.and_true, Bool.true_and, true_or, or_true, false_or, or_false, and_true, true_and, and_false, false_and, Nat.not_lt_zero, hpRX, hpIX, hpFX, hpLX, hpSX, ↓rgX, ↓rpX, Nat.reduceLeDiff, Nat.reduceLT, Nat.reduceAdd, Nat.reduceMul, Nat.reduceSub, d2]
    rfl
  · rw [e_Money_part 183 _ _ _ rfl]
    simp (maxSteps := 2000000) (disch := (first | omega | (simp (disch := omega) only [up_eq, up_ne, cpA_o, cpF_o, List.length_set] <;> omega) | fail)) only [ob_s, am_bi_s, am_bv_s, am_bl_s, ↓bif_d, lits, nI_addS, nI_mulS, nI_subS, nI_lt', nI_le', nI_eq', ↓rd_nI, ↓wrH, up_eq, up_ne, up_up, up_sw, List.set_set, g_seq, g_sne, Nat.reduceEqDiff, ↓reduceIte, List.length_set, Nat.add_sub_cancel_left, Nat.add_sub_cancel, ite_true, ite_false, if_true, if_false, not_true_eq_false, not_false_eq_true, Bool.and_true, Bool.true_and, true_or, or_true, false_or, or_false, and_true, true_and, and_false, false_and, Nat.not_lt_zero, hpRX, hpIX, hpFX, hpLX, hpSX, ↓rgX, ↓rpX, Nat.reduceLeDiff, Nat.reduceLT, Nat.reduceAdd, Nat.reduceMul, Nat.reduceSub, d2, s1, p1]
    rfl
  · rw [e_Money_part 183 _ _ _ rfl]
    simp (maxSteps := 2000000) (disch := (first | omega | (simp (disch := omega) only [up_eq, up_ne, cpA_o, cpF_o, List.length_set] <;> omega) | fail)) only [ob_s, am_bi_s, am_bv_s, am_bl_s, ↓bif_d, lits, nI_addS, nI_mulS, nI_subS, nI_lt', nI_le', nI_eq', ↓rd_nI, ↓wrH, up_eq, up_ne, up_up, up_sw, List.set_set, g_seq, g_sne, Nat.reduceEqDiff, ↓reduceIte, List.length_set, Nat.add_sub_cancel_left, Nat.add_sub_cancel, ite_true, ite_false, if_true, if_false, not_true_eq_false, not_false_eq_true, Bool.and_true, Bool.true_and, true_or, or_true, false_or, or_false, and_true, true_and, and_false, false_and, Nat.not_lt_zero, hpRX, hpIX, hpFX, hpLX, hpSX, ↓rgX, ↓rpX, Nat.reduceLeDiff, Nat.reduceLT, Nat.reduceAdd, Nat.reduceMul, Nat.reduceSub, d2, s2, p2]
    rfl
  · show _ = some (some (Value.int (mFe r Bu l)), heap A F P)
    rw [e_Money_part 183 _ _ _ rfl]
    by_cases z1 : g r (78 + l) = nI 1
    · have e : mSt r Mn Bu l = nI 3 := by unfold mSt; rw [cif_t z1]
      have e2 : mFe r Bu l = nI 0 := by unfold mFe; rw [cif_f (fun w => w.2 z1)]
      rw [e] at d3
      rw [e2]
      simp (maxSteps := 2000000) (disch := (first | omega | (simp (disch := omega) only [up_eq, up_ne, cpA_o, cpF_o, List.length_set] <;> omega) | fail)) only [ob_s, am_bi_s, am_bv_s, am_bl_s, ↓bif_d, lits, nI_addS, nI_mulS, nI_subS, nI_lt', nI_le', nI_eq', ↓rd_nI, ↓wrH, up_eq, up_ne, up_up, up_sw, List.set_set, g_seq, g_sne, Nat.reduceEqDiff, ↓reduceIte, List.length_set, Nat.add_sub_cancel_left, Nat.add_sub_cancel, ite_true, ite_false, if_true, if_false, not_true_eq_false, not_false_eq_true, Bool.and_true, Bool.true_and, true_or, or_true, false_or, or_false, and_true, true_and, and_false, false_and, Nat.not_lt_zero, hpRX, hpIX, hpFX, hpLX, hpSX, ↓rgX, ↓rpX, Nat.reduceLeDiff, Nat.reduceLT, Nat.reduceAdd, Nat.reduceMul, Nat.reduceSub, d2, d3, how]
    · by_cases z2 : g Bu l < nI 0
      · have e2 : mFe r Bu l = g r 471 := by unfold mFe; rw [cif_t ⟨z2, z1⟩]
        rw [e2]
        by_cases z3 : g Mn l = nI 0
        · have e : mSt r Mn Bu l = nI 1 := by unfold mSt; rw [cif_f z1, cif_f (fun w => w z2), cif_t z3]
          rw [e] at d3
          simp (maxSteps := 2000000) (disch := (first | omega | (simp (disch := omega) only [up_eq, up_ne, cpA_o, cpF_o, List.length_set] <;> omega) | fail)) only [ob_s, am_bi_s, am_bv_s, am_bl_s, ↓bif_d, lits, nI_addS, nI_mulS, nI_subS, nI_lt', nI_le', nI_eq', ↓rd_nI, ↓wrH, up_eq, up_ne, up_up, up_sw, List.set_set, g_seq, g_sne, Nat.reduceEqDiff, ↓reduceIte, List.length_set, Nat.add_sub_cancel_left, Nat.add_sub_cancel, ite_true, ite_false, if_true, if_false, not_true_eq_false, not_false_eq_true, Bool.and_true, Bool.true_and, true_or, or_true, false_or, or_false, and_true, true_and, and_false, false_and, Nat.not_lt_zero, hpRX, hpIX, hpFX, hpLX, hpSX, ↓rgX, ↓rpX, Nat.reduceLeDiff, Nat.reduceLT, Nat.reduceAdd, Nat.reduceMul, Nat.reduceSub, d2, d3, how, s3]
        · have e : mSt r Mn Bu l = nI 2 := by unfold mSt; rw [cif_f z1, cif_f (fun w => w z2), cif_f z3]
          rw [e] at d3
          simp (maxSteps := 2000000) (disch := (first | omega | (simp (disch := omega) only [up_eq, up_ne, cpA_o, cpF_o, List.length_set] <;> omega) | fail)) only [ob_s, am_bi_s, am_bv_s, am_bl_s, ↓bif_d, lits, nI_addS, nI_mulS, nI_subS, nI_lt', nI_le', nI_eq', ↓rd_nI, ↓wrH, up_eq, up_ne, up_up, up_sw, List.set_set, g_seq, g_sne, Nat.reduceEqDiff, ↓reduceIte, List.length_set, Nat.add_sub_cancel_left, Nat.add_sub_cancel, ite_true, ite_false, if_true, if_false, not_true_eq_false, not_false_eq_true, Bool.and_true, Bool.true_and, true_or, or_true, false_or, or_false, and_true, true_and, and_false, false_and, Nat.not_lt_zero, hpRX, hpIX, hpFX, hpLX, hpSX, ↓rgX, ↓rpX, Nat.reduceLeDiff, Nat.reduceLT, Nat.reduceAdd, Nat.reduceMul, Nat.reduceSub, d2, d3, how, s3]
      · have e : mSt r Mn Bu l = nI 0 := by unfold mSt; rw [cif_f z1, cif_t z2]
        have e2 : mFe r Bu l = nI 0 := by unfold mFe; rw [cif_f (fun w => z2 w.1)]
        rw [e] at d3
        rw [e2]
        simp (maxSteps := 2000000) (disch := (first | omega | (simp (disch := omega) only [up_eq, up_ne, cpA_o, cpF_o, List.length_set] <;> omega) | fail)) only [ob_s, am_bi_s, am_bv_s, am_bl_s, ↓bif_d, lits, nI_addS, nI_mulS, nI_subS, nI_lt', nI_le', nI_eq', ↓rd_nI, ↓wrH, up_eq, up_ne, up_up, up_sw, List.set_set, g_seq, g_sne, Nat.reduceEqDiff, ↓reduceIte, List.length_set, Nat.add_sub_cancel_left, Nat.add_sub_cancel, ite_true, ite_false, if_true, if_false, not_true_eq_false, not_false_eq_true, Bool.and_true, Bool.true_and, true_or, or_true, false_or, or_false, and_true, true_and, and_false, false_and, Nat.not_lt_zero, hpRX, hpIX, hpFX, hpLX, hpSX, ↓rgX, ↓rpX, Nat.reduceLeDiff, Nat.reduceLT, Nat.reduceAdd, Nat.reduceMul, Nat.reduceSub, d2, d3, how]
theorem c_total5 (hC : Cx A F r nB nl nb nx) (hW : LenW A) (hS : SaI r nB nl nb nx L B Fi Se Mn Bu Pr nl) (hK : ClS A r nB nl nx L B Fi Se Mn Bu Pr nl) {c : Nat} (hc : c < 4) (x : Int32) : ∀ n k s, k + n = nl → am_ev m_Money_total (5, [.ref 183, .int (nI c), .int x, .long s, .float 0, .int (nI k)], [], heap A F P) = some (some (.long (fL (fun l => x = -nI 1 ∨ x = g r (18 + l)) (mPart r Bu Pr c) n k s)), heap A F P) := by
  have hpt := fun l hl => c_part (P := P) (k := c) (l := l) hC hW hS hK hc hl
  obtain ⟨hM, hB, ⟨n1, n2, n3, n4⟩, l1, hCL, hCM, hCX, hCS, hS0, hS1, hS2, hS3⟩ := id hC
  obtain ⟨c5, c7, c10, c12, c14, c16, c18, c21, c23, c25, c27, c29, c31, c33⟩ := LenS2 l1
  have hnl : nl ≤ 20 := hM.1.2.2.2.2.2.2.2.1
  have hnb : nb ≤ 8 := hM.1.2.2.2.2.2.2.2.2.1
  have hnx : nx ≤ 60 := hM.1.2.2.2.2.2.2.2.2.2
  have hnB : nB ≤ 8 := hM.1.2.2.2.2.2.2.1
  intro n
  induction n with
  | zero =>
    intro k s hk
    have hle : nl ≤ k := by omega
    rw [b_Money_total_5]
    simp (maxSteps := 2000000) (disch := (first | omega | (simp (disch := omega) only [up_eq, up_ne, cpA_o, cpF_o, List.length_set] <;> omega) | fail)) only [ob_s, am_bi_s, am_bv_s, am_bl_s, ↓bif_d, lits, nI_addS, nI_mulS, nI_subS, nI_lt', nI_le', nI_eq', ↓rd_nI, ↓wrH, up_eq, up_ne, up_up, up_sw, List.set_set, g_seq, g_sne, Nat.reduceEqDiff, ↓reduceIte, List.length_set, Nat.add_sub_cancel_left, Nat.add_sub_cancel, ite_true, ite_false, if_true, if_false, not_true_eq_false, not_false_eq_true, Bool.and_true, Bool.true_and, true_or, or_true, false_or, or_false, and_true, true_and, and_false, false_and, Nat.not_lt_zero, hpRX, hpIX, hpFX, hpLX, hpSX, ↓rgX, ↓rpX, Nat.reduceLeDiff, Nat.reduceLT, Nat.reduceAdd, Nat.reduceMul, Nat.reduceSub, n2, hle]
    rfl
  | succ n ih =>
    intro k s hk
    have hle : ¬ nl ≤ k := by omega
    have e10 := (hCL k (by omega)).1
    have hp := hpt k (by omega)
    rw [b_Money_total_5, fL_s]
    by_cases c1 : x = -nI 1
    · have ih := ih (k + 1) (s + (mPart r Bu Pr c k).toInt64) (by omega)
      rw [cif_t (p := x = -nI 1 ∨ x = g r (18 + k)) (Or.inl c1), ← ih]
      subst c1
      simp (maxSteps := 2000000) (disch := (first | omega | (simp (disch := omega) only [up_eq, up_ne, cpA_o, cpF_o, List.length_set] <;> omega) | fail)) only [ob_s, am_bi_s, am_bv_s, am_bl_s, ↓bif_d, lits, nI_addS, nI_mulS, nI_subS, nI_lt', nI_le', nI_eq', ↓rd_nI, ↓wrH, up_eq, up_ne, up_up, up_sw, List.set_set, g_seq, g_sne, Nat.reduceEqDiff, ↓reduceIte, List.length_set, Nat.add_sub_cancel_left, Nat.add_sub_cancel, ite_true, ite_false, if_true, if_false, not_true_eq_false, not_false_eq_true, Bool.and_true, Bool.true_and, true_or, or_true, false_or, or_false, and_true, true_and, and_false, false_and, Nat.not_lt_zero, hpRX, hpIX, hpFX, hpLX, hpSX, ↓rgX, ↓rpX, Nat.reduceLeDiff, Nat.reduceLT, Nat.reduceAdd, Nat.reduceMul, Nat.reduceSub, n2, hle, hp]
    · by_cases c2 : x = g r (18 + k)
      · have ih := ih (k + 1) (s + (mPart r Bu Pr c k).toInt64) (by omega)
        rw [cif_t (p := x = -nI 1 ∨ x = g r (18 + k)) (Or.inr c2), ← ih]
        rw [c2] at c1
        rw [c2]
        simp (maxSteps := 2000000) (disch := (first | omega | (simp (disch := omega) only [up_eq, up_ne, cpA_o, cpF_o, List.length_set] <;> omega) | fail)) only [ob_s, am_bi_s, am_bv_s, am_bl_s, ↓bif_d, lits, nI_addS, nI_mulS, nI_subS, nI_lt', nI_le', nI_eq', ↓rd_nI, ↓wrH, up_eq, up_ne, up_up, up_sw, List.set_set, g_seq, g_sne, Nat.reduceEqDiff, ↓reduceIte, List.length_set, Nat.add_sub_cancel_left, Nat.add_sub_cancel, ite_true, ite_false, if_true, if_false, not_true_eq_false, not_false_eq_true, Bool.and_true, Bool.true_and, true_or, or_true, false_or, or_false, and_true, true_and, and_false, false_and, Nat.not_lt_zero, hpRX, hpIX, hpFX, hpLX, hpSX, ↓rgX, ↓rpX, Nat.reduceLeDiff, Nat.reduceLT, Nat.reduceAdd, Nat.reduceMul, Nat.reduceSub, n2, hle, hp, c1, e10]
      · have ih := ih (k + 1) s (by omega)
        rw [cif_f (p := x = -nI 1 ∨ x = g r (18 + k)) (fun z => z.elim c1 c2), ← ih]
        simp (maxSteps := 2000000) (disch := (first | omega | (simp (disch := omega) only [up_eq, up_ne, cpA_o, cpF_o, List.length_set] <;> omega) | fail)) only [ob_s, am_bi_s, am_bv_s, am_bl_s, ↓bif_d, lits, nI_addS, nI_mulS, nI_subS, nI_lt', nI_le', nI_eq', ↓rd_nI, ↓wrH, up_eq, up_ne, up_up, up_sw, List.set_set, g_seq, g_sne, Nat.reduceEqDiff, ↓reduceIte, List.length_set, Nat.add_sub_cancel_left, Nat.add_sub_cancel, ite_true, ite_false, if_true, if_false, not_true_eq_false, not_false_eq_true, Bool.and_true, Bool.true_and, true_or, or_true, false_or, or_false, and_true, true_and, and_false, false_and, Nat.not_lt_zero, hpRX, hpIX, hpFX, hpLX, hpSX, ↓rgX, ↓rpX, Nat.reduceLeDiff, Nat.reduceLT, Nat.reduceAdd, Nat.reduceMul, Nat.reduceSub, n2, hle, c1, c2, e10]
theorem c_total (hC : Cx A F r nB nl nb nx) (hW : LenW A) (hS : SaI r nB nl nb nx L B Fi Se Mn Bu Pr nl) (hK : ClS A r nB nl nx L B Fi Se Mn Bu Pr nl) {c : Nat} (hc : c < 4) (x : Int32) : am_cl m_Money_total [.ref 183, .int (nI c), .int x] (heap A F P) = some (some (.long (fL (fun l => x = -nI 1 ∨ x = g r (18 + l)) (mPart r Bu Pr c) nl 0 0)), heap A F P) := by
  have h := c_total5 (P := P) hC hW hS hK hc x nl 0 0 (by omega)
  rw [e_Money_total 183 _ _ _ rfl]
  simp only [lits]
  exact h
theorem c_paid4 (hC : Cx A F r nB nl nb nx) (hW : LenW A) (hS : SaI r nB nl nb nx L B Fi Se Mn Bu Pr nl) (hK : ClS A r nB nl nx L B Fi Se Mn Bu Pr nl) {b : Nat} (hb : b < nb) : ∀ n k s, k + n = nl → am_ev m_Money_paidBy (4, [.ref 183, .int (nI b), .int s, .int (nI k)], [], heap A F P) = some (some (.int (pF r Bu Pr b n k s)), heap A F P) := by
  have hp0 := fun l hl => c_part (P := P) (k := 0) (l := l) hC hW hS hK (by omega) hl
  have hp1 := fun l hl => c_part (P := P) (k := 1) (l := l) hC hW hS hK (by omega) hl
  obtain ⟨hM, hB, ⟨n1, n2, n3, n4⟩, l1, hCL, hCM, hCX, hCS, hS0, hS1, hS2, hS3⟩ := id hC
  obtain ⟨c5, c7, c10, c12, c14, c16, c18, c21, c23, c25, c27, c29, c31, c33⟩ := LenS2 l1
  have hnl : nl ≤ 20 := hM.1.2.2.2.2.2.2.2.1
  have hnb : nb ≤ 8 := hM.1.2.2.2.2.2.2.2.2.1
  have hnx : nx ≤ 60 := hM.1.2.2.2.2.2.2.2.2.2
  have hnB : nB ≤ 8 := hM.1.2.2.2.2.2.2.1
  obtain ⟨w166, w168, w170, w172, w174, w176, w178, w180, w182⟩ := id hW
  intro n
  induction n with
  | zero =>
    intro k s hk
    have hle : nl ≤ k := by omega
    rw [b_Money_paidBy_4]
    simp (maxSteps := 2000000) (disch := (first | omega | (simp (disch := omega) only [up_eq, up_ne, cpA_o, cpF_o, List.length_set] <;> omega) | fail)) only [ob_s, am_bi_s, am_bv_s, am_bl_s, ↓bif_d, lits, nI_addS, nI_mulS, nI_subS, nI_lt', nI_le', nI_eq', ↓rd_nI, ↓wrH, up_eq, up_ne, up_up, up_sw, List.set_set, g_seq, g_sne, Nat.reduceEqDiff, ↓reduceIte, List.length_set, Nat.add_sub_cancel_left, Nat.add_sub_cancel, ite_true, ite_false, if_true, if_false, not_true_eq_false, not_false_eq_true, Bool.and_true, Bool.true_and, true_or, or_true, false_or, or_false, and_true, true_and, and_false, false_and, Nat.not_lt_zero, hpRX, hpIX, hpFX, hpLX, hpSX, ↓rgX, ↓rpX, Nat.reduceLeDiff, Nat.reduceLT, Nat.reduceAdd, Nat.reduceMul, Nat.reduceSub, n2, hle]
    rfl
  | succ n ih =>
    intro k s hk
    have hle : ¬ nl ≤ k := by omega
    have d1 := (hK.1 k (by omega)).1
    have q0 := hp0 k (by omega)
    have q1 := hp1 k (by omega)
    have e0 : mPart r Bu Pr 0 k = g Pr k := rfl
    have e1 : mPart r Bu Pr 1 k = mPt (g Pr k) (g r 469) := rfl
    rw [e0] at q0
    rw [e1] at q1
    rw [b_Money_paidBy_4, pF_s]
    by_cases c1 : g Bu k = nI b
    · have ih := ih (k + 1) (s + (g Pr k + mPt (g Pr k) (g r 469))) (by omega)
      rw [cif_t c1, ← ih]
      simp (maxSteps := 2000000) (disch := (first | omega | (simp (disch := omega) only [up_eq, up_ne, cpA_o, cpF_o, List.length_set] <;> omega) | fail)) only [ob_s, am_bi_s, am_bv_s, am_bl_s, ↓bif_d, lits, nI_addS, nI_mulS, nI_subS, nI_lt', nI_le', nI_eq', ↓rd_nI, ↓wrH, up_eq, up_ne, up_up, up_sw, List.set_set, g_seq, g_sne, Nat.reduceEqDiff, ↓reduceIte, List.length_set, Nat.add_sub_cancel_left, Nat.add_sub_cancel, ite_true, ite_false, if_true, if_false, not_true_eq_false, not_false_eq_true, Bool.and_true, Bool.true_and, true_or, or_true, false_or, or_false, and_true, true_and, and_false, false_and, Nat.not_lt_zero, hpRX, hpIX, hpFX, hpLX, hpSX, ↓rgX, ↓rpX, Nat.reduceLeDiff, Nat.reduceLT, Nat.reduceAdd, Nat.reduceMul, Nat.reduceSub, n2, hle, d1, c1, q0, q1]
    · have ih := ih (k + 1) s (by omega)
      rw [cif_f c1, ← ih]
      simp (maxSteps := 2000000) (disch := (first | omega | (simp (disch := omega) only [up_eq, up_ne, cpA_o, cpF_o, List.length_set] <;> omega) | fail)) only [ob_s, am_bi_s, am_bv_s, am_bl_s, ↓bif_d, lits, nI_addS, nI_mulS, nI_subS, nI_lt', nI_le', nI_eq', ↓rd_nI, ↓wrH, up_eq, up_ne, up_up, up_sw, List.set_set, g_seq, g_sne, Nat.reduceEqDiff, ↓reduceIte, List.length_set, Nat.add_sub_cancel_left, Nat.add_sub_cancel, ite_true, ite_false, if_true, if_false, not_true_eq_false, not_false_eq_true, Bool.and_true, Bool.true_and, true_or, or_true, false_or, or_false, and_true, true_and, and_false, false_and, Nat.not_lt_zero, hpRX, hpIX, hpFX, hpLX, hpSX, ↓rgX, ↓rpX, Nat.reduceLeDiff, Nat.reduceLT, Nat.reduceAdd, Nat.reduceMul, Nat.reduceSub, n2, hle, d1, c1]
theorem c_paid (hC : Cx A F r nB nl nb nx) (hW : LenW A) (hS : SaI r nB nl nb nx L B Fi Se Mn Bu Pr nl) (hK : ClS A r nB nl nx L B Fi Se Mn Bu Pr nl) {b : Nat} (hb : b < nb) : am_cl m_Money_paidBy [.ref 183, .int (nI b)] (heap A F P) = some (some (.int (pF r Bu Pr b nl 0 (nI 0))), heap A F P) := by
  have h := c_paid4 (P := P) hC hW hS hK hb nl 0 (nI 0) (by omega)
  rw [e_Money_paidBy 183 _ _ rfl]
  simp only [lits]
  exact h
end X

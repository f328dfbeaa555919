/-! THE TABLE OF STEPS -/
def bN (r : List Int32) (j : Nat) : Nat := (g r (1 + j)).toNatClampNeg
def sN (r : List Int32) (j : Nat) : Nat := (g r (9 + j)).toNatClampNeg
def Bnd (X Y r : List Int32) (nB : Nat) : Prop :=
  (∀ i, i < nB → ∃ j, j < nB ∧ g X i = nI (bN r j) ∧ g Y i = nI (sN r j)) ∧ (∀ j, j < nB → ∃ i, i < nB ∧ g X i = nI (bN r j)) ∧
  bN r 0 = 0 ∧ g X 0 = nI 0 ∧
  (∀ j, j < nB → bN r j ≤ 1000000 ∧ 1 ≤ sN r j ∧ sN r j ≤ 100000 ∧ g r (1 + j) = nI (bN r j) ∧ g r (9 + j) = nI (sN r j)) ∧
  (∀ i j, i < j → j < nB → bN r i < bN r j) ∧ 1 ≤ nB ∧ nB ≤ 8
theorem rg_N {v : Int32} {lo hi : Nat} (h : rg v lo hi) (hh : hi < 2 ^ 31) : lo ≤ v.toNatClampNeg ∧ v.toNatClampNeg ≤ hi ∧ v = nI v.toNatClampNeg := by
  obtain ⟨n, h1, h2, rfl⟩ := h
  rw [nI_clamp (by omega)]
  exact ⟨h1, h2, rfl⟩
theorem Bnd_of {a : Nat → List Int32} {r : List Int32} {nB : Nat} (h : SimB a r nB) (h1 : 1 ≤ nB) (h8 : nB ≤ 8) : Bnd (a 3) (a 5) r nB := by
  obtain ⟨b1, b2, b3, b4, b5, b6, b7⟩ := h
  have hv : ∀ j, j < nB → bN r j ≤ 1000000 ∧ 1 ≤ sN r j ∧ sN r j ≤ 100000 ∧ g r (1 + j) = nI (bN r j) ∧ g r (9 + j) = nI (sN r j) := by
    intro j hj
    obtain ⟨q1, q2⟩ := b5 j hj
    obtain ⟨-, w2, w3⟩ := rg_N q1 (by omega)
    obtain ⟨x1, x2, x3⟩ := rg_N q2 (by omega)
    exact ⟨w2, x1, x2, w3, x3⟩
  refine ⟨fun i hi => ?_, fun j hj => ?_, ?_, b3, hv, fun i j z1 z2 => ?_, h1, h8⟩
  · obtain ⟨j, hj, q1, q2⟩ := b1 i hi
    obtain ⟨-, -, -, w1, w2⟩ := hv j hj
    exact ⟨j, hj, by rw [q1, w1], by rw [q2, w2]⟩
  · obtain ⟨i, hi, q1, q2⟩ := b2 j hj
    obtain ⟨-, -, -, w1, w2⟩ := hv j hj
    exact ⟨i, hi, by rw [q1, w1]⟩
  · show (g r (1 + 0)).toNatClampNeg = 0
    rw [show g r (1 + 0) = nI 0 from b4]
    exact nI_clamp (by omega)
  · have h := b6 i j z1 z2
    obtain ⟨w1, -, -, w2, -⟩ := hv i (by omega)
    obtain ⟨x1, -, -, x2, -⟩ := hv j z2
    rw [w2, x2, nI_lt' (by omega) (by omega)] at h
    exact h
section B
variable {X Y r : List Int32} {nB : Nat}
theorem mBd_spec (hB : Bnd X Y r nB) {a : Nat} (ha : a < 2 ^ 31) : ∀ n k, k + n + 1 = nB → bN r k ≤ a → bN r (mBd r (nI a) n k) ≤ a ∧ (mBd r (nI a) n k + 1 < nB → a < bN r (mBd r (nI a) n k + 1)) := by
  obtain ⟨c1, c2, c3, c4, c5, c6, c7, c8⟩ := hB
  intro n
  induction n with
  | zero => intro k hk hb; exact ⟨hb, fun z => by have : k + 1 < nB := z; omega⟩
  | succ n ih =>
    intro k hk hb
    rw [mBd_s]
    obtain ⟨w1, -, -, w2, -⟩ := c5 (k + 1) (by omega)
    have e : g r (1 + k + 1) = nI (bN r (k + 1)) := w2
    rw [e]
    simp only [nI_lt' ha (show bN r (k + 1) < 2 ^ 31 by omega)]
    by_cases c : a < bN r (k + 1)
    · rw [if_pos c]
      exact ⟨hb, fun _ => c⟩
    · rw [if_neg c]
      exact ih (k + 1) (by omega) (by omega)
theorem mBand_spec (hB : Bnd X Y r nB) {a : Nat} (ha : a < 2 ^ 31) : mBand r nB (nI a) < nB ∧ bN r (mBand r nB (nI a)) ≤ a ∧ (mBand r nB (nI a) + 1 < nB → a < bN r (mBand r nB (nI a) + 1)) := by
  have h1 := hB.2.2.2.2.2.2.1
  exact ⟨mBand_lt r _ h1, mBd_spec hB ha (nB - 1) 0 (by omega) (by rw [hB.2.2.1]; omega)⟩
def flN (r : List Int32) (nB a : Nat) : Nat := bN r (mBand r nB (nI a)) + (a - bN r (mBand r nB (nI a))) / sN r (mBand r nB (nI a)) * sN r (mBand r nB (nI a))
def nxN (r : List Int32) (nB a : Nat) : Nat := if mBand r nB (nI a) + 1 < nB then (if flN r nB a + sN r (mBand r nB (nI a)) ≤ bN r (mBand r nB (nI a) + 1) then flN r nB a + sN r (mBand r nB (nI a)) else bN r (mBand r nB (nI a) + 1)) else flN r nB a + sN r (mBand r nB (nI a))
def ceN (r : List Int32) (nB a : Nat) : Nat := if flN r nB a = a then a else nxN r nB a
theorem flN_le (hB : Bnd X Y r nB) {a : Nat} (ha : a < 2 ^ 31) : flN r nB a ≤ a := by
  obtain ⟨h1, h2, h3⟩ := mBand_spec hB ha
  unfold flN
  have := Nat.div_mul_le_self (a - bN r (mBand r nB (nI a))) (sN r (mBand r nB (nI a)))
  omega
theorem nxN_le (hB : Bnd X Y r nB) {a : Nat} (ha : a < 2 ^ 31) : nxN r nB a ≤ a + 100000 := by
  have h := flN_le hB ha
  obtain ⟨h1, h2, h3⟩ := mBand_spec hB ha
  obtain ⟨w1, w2, w3, -⟩ := hB.2.2.2.2.1 _ h1
  unfold nxN
  split
  · split
    · omega
    · omega
  · omega
theorem mFl_N (hB : Bnd X Y r nB) {a : Nat} (ha : a < 2 ^ 31) : mFl r nB (nI a) = nI (flN r nB a) := by
  obtain ⟨h1, h2, h3⟩ := mBand_spec hB ha
  obtain ⟨w1, w2, w3, w4, w5⟩ := hB.2.2.2.2.1 _ h1
  unfold mFl
  rw [w4, w5]
  have hd := Nat.div_mul_le_self (a - bN r (mBand r nB (nI a))) (sN r (mBand r nB (nI a)))
  rw [nI_subS h2, pk_div (by omega) (by omega) (by omega), nI_mulS, nI_subS hd, nI_subS (by omega)]
  unfold flN
  congr 1
  omega
theorem mNx_N (hB : Bnd X Y r nB) {a : Nat} (ha : a ≤ 10000000) : mNx r nB (nI a) = nI (nxN r nB a) := by
  obtain ⟨h1, h2, h3⟩ := mBand_spec hB (a := a) (by omega)
  obtain ⟨w1, w2, w3, w4, w5⟩ := hB.2.2.2.2.1 _ h1
  have hf := flN_le hB (a := a) (by omega)
  unfold mNx nxN
  rw [mFl_N hB (by omega), w5, nI_addS]
  by_cases c : mBand r nB (nI a) + 1 < nB
  · obtain ⟨x1, x2, x3, x4, x5⟩ := hB.2.2.2.2.1 _ c
    have e : g r (1 + mBand r nB (nI a) + 1) = nI (bN r (mBand r nB (nI a) + 1)) := x4
    rw [if_pos c, if_pos c, e]
    simp only [nI_le' (show flN r nB a + sN r (mBand r nB (nI a)) < 2 ^ 31 by omega) (show bN r (mBand r nB (nI a) + 1) < 2 ^ 31 by omega)]
    split <;> rfl
  · rw [if_neg c, if_neg c]
theorem mCe_N (hB : Bnd X Y r nB) {a : Nat} (ha : a ≤ 10000000) : mCe r nB (nI a) = nI (ceN r nB a) := by
  have hf := flN_le hB (a := a) (by omega)
  unfold mCe ceN
  rw [mFl_N hB (by omega), mNx_N hB ha]
  simp only [nI_eq' (show flN r nB a < 2 ^ 31 by omega) (show a < 2 ^ 31 by omega)]
  split <;> rfl
/-- the band of an amount is the one with the greatest beginning that is not above it -/
theorem band_u (hB : Bnd X Y r nB) {a j : Nat} (ha : a < 2 ^ 31) (hj : j < nB) (h : bN r j ≤ a) (hm : bN r (mBand r nB (nI a)) ≤ bN r j) : j = mBand r nB (nI a) := by
  obtain ⟨h1, h2, h3⟩ := mBand_spec hB ha
  obtain ⟨c1, c2, c3, c4, c5, c6, c7, c8⟩ := hB
  rcases Nat.lt_trichotomy j (mBand r nB (nI a)) with z | z | z
  · have := c6 _ _ z h1; omega
  · exact z
  · have h4 := h3 (by omega)
    rcases Nat.eq_or_lt_of_le (show mBand r nB (nI a) + 1 ≤ j from z) with y | y
    · rw [← y] at h; omega
    · have := c6 _ _ y hj; omega
theorem band_o (hB : Bnd X Y r nB) {a j : Nat} (ha : a < 2 ^ 31) (hj : j < nB) (h : a < bN r j) : mBand r nB (nI a) + 1 < nB ∧ bN r (mBand r nB (nI a) + 1) ≤ bN r j := by
  obtain ⟨h1, h2, h3⟩ := mBand_spec hB ha
  obtain ⟨c1, c2, c3, c4, c5, c6, c7, c8⟩ := hB
  have : mBand r nB (nI a) < j := by
    rcases Nat.lt_trichotomy j (mBand r nB (nI a)) with z | z | z
    · have := c6 _ _ z h1; omega
    · rw [z] at h; omega
    · exact z
  refine ⟨by omega, ?_⟩
  rcases Nat.eq_or_lt_of_le (show mBand r nB (nI a) + 1 ≤ j from this) with y | y
  · rw [y]; exact Nat.le_refl _
  · exact Nat.le_of_lt (c6 _ _ y hj)
end B
section X
variable {A : Nat → List Int32} {F : Nat → Int32} {P : Nat → Nat} {r : List Int32} {nB : Nat}
theorem l_Steps_bandOf (hB : Bnd (A 5) (A 7) r nB) (h5 : (A 5).length = 8) (hF : F 302 = nI nB) {a : Nat} (ha : a < 2 ^ 31) :
    ∀ n i c (u : Value), i + n = nB → c < nB → (∃ j, j < nB ∧ g (A 5) c = nI (bN r j) ∧ bN r j ≤ a ∧ ∀ i', i' < i → ∀ j', j' < nB → g (A 5) i' = nI (bN r j') → bN r j' ≤ a → bN r j' ≤ bN r j) → ∃ c', c' < nB ∧ g (A 5) c' = nI (bN r (mBand r nB (nI a))) ∧ am_ev m_Steps_bandOf (4, [.ref 3, .int (nI a), .int (nI c), .int (nI i), u], [], heap A F P) = some (some (.int (nI c')), heap A F P) := by
  have hB' := hB
  obtain ⟨c1, c2, c3, c4, c5, c6, c7, c8⟩ := hB
  intro n
  induction n with
  | zero =>
    intro i c u hi hc hI
    obtain ⟨j, j1, j2, j3, j4⟩ := hI
    obtain ⟨h1, h2, h3⟩ := mBand_spec hB' ha
    obtain ⟨i', i1, i2⟩ := c2 _ h1
    have e := band_u hB' ha j1 j3 (j4 i' (by omega) _ h1 i2 h2)
    refine ⟨c, hc, by rw [← e]; exact j2, ?_⟩
    have hle : nB ≤ i := by omega
    rw [b_Steps_bandOf_4]
    simp (maxSteps := 2000000) (disch := (first | omega | (simp (disch := omega) only [up_eq, up_ne, cpA_o, List.length_set] <;> omega) | fail)) only [ob_s, am_bi_s, am_bv_s, am_bl_s, ↓bif_d, lits, nI_addS, nI_mulS, nI_subS, nI_lt', nI_le', nI_eq', ↓rd_nI, ↓wrH, up_eq, up_ne, up_up, up_sw, List.set_set, g_seq, g_sne, Nat.reduceEqDiff, ↓reduceIte, List.length_set, Nat.add_sub_cancel_left, Nat.add_sub_cancel, ite_true, ite_false, if_true, if_false, not_true_eq_false, not_false_eq_true, Bool.and_true, Bool.true_and, true_or, or_true, false_or, or_false, and_true, true_and, and_false, false_and, Nat.not_lt_zero, hpRX, hpIX, hpFX, hpLX, hpSX, ↓rgX, ↓rpX, Nat.reduceLeDiff, Nat.reduceLT, Nat.reduceAdd, Nat.reduceMul, Nat.reduceSub, hF, hle]
  | succ n ih =>
    intro i c u hi hc hI
    obtain ⟨j, j1, j2, j3, j4⟩ := hI
    have hle : ¬ nB ≤ i := by omega
    obtain ⟨k, k1, k2, k3⟩ := c1 i (by omega)
    have kb := (c5 k k1).1
    have jb := (c5 j j1).1
    have stay : (bN r k ≤ a → bN r k ≤ bN r j) → ∀ i', i' < i + 1 → ∀ j', j' < nB → g (A 5) i' = nI (bN r j') → bN r j' ≤ a → bN r j' ≤ bN r j := by
      intro hk i' hi' j' hj' he hl
      rcases Nat.lt_or_ge i' i with z | z
      · exact j4 i' z j' hj' he hl
      · have : i' = i := by omega
        subst this
        rw [k2, nI_eq' (by omega) (by have := (c5 j' hj').1; omega)] at he
        rw [← he] at hl ⊢
        exact hk hl
    rw [b_Steps_bandOf_4]
    by_cases d1 : a < bN r k
    · obtain ⟨c', q1, q2, q3⟩ := ih (i + 1) c (.int (nI (bN r k))) (by omega) hc ⟨j, j1, j2, j3, stay (fun z => by omega)⟩
      refine ⟨c', q1, q2, ?_⟩
      simp (maxSteps := 2000000) (disch := (first | omega | (simp (disch := omega) only [up_eq, up_ne, cpA_o, List.length_set] <;> omega) | fail)) only [ob_s, am_bi_s, am_bv_s, am_bl_s, ↓bif_d, lits, nI_addS, nI_mulS, nI_subS, nI_lt', nI_le', nI_eq', ↓rd_nI, ↓wrH, up_eq, up_ne, up_up, up_sw, List.set_set, g_seq, g_sne, Nat.reduceEqDiff, ↓reduceIte, List.length_set, Nat.add_sub_cancel_left, Nat.add_sub_cancel, ite_true, ite_false, if_true, if_false, not_true_eq_false, not_false_eq_true, Bool.and_true, Bool.true_and, true_or, or_true, false_or, or_false, and_true, true_and, and_false, false_and, Nat.not_lt_zero, hpRX, hpIX, hpFX, hpLX, hpSX, ↓rgX, ↓rpX, Nat.reduceLeDiff, Nat.reduceLT, Nat.reduceAdd, Nat.reduceMul, Nat.reduceSub, hF, hle, k2, d1, q3]
    · by_cases d2 : bN r k ≤ bN r j
      · obtain ⟨c', q1, q2, q3⟩ := ih (i + 1) c (.int (nI (bN r k))) (by omega) hc ⟨j, j1, j2, j3, stay (fun _ => d2)⟩
        refine ⟨c', q1, q2, ?_⟩
        simp (maxSteps := 2000000) (disch := (first | omega | (simp (disch := omega) only [up_eq, up_ne, cpA_o, List.length_set] <;> omega) | fail)) only [ob_s, am_bi_s, am_bv_s, am_bl_s, ↓bif_d, lits, nI_addS, nI_mulS, nI_subS, nI_lt', nI_le', nI_eq', ↓rd_nI, ↓wrH, up_eq, up_ne, up_up, up_sw, List.set_set, g_seq, g_sne, Nat.reduceEqDiff, ↓reduceIte, List.length_set, Nat.add_sub_cancel_left, Nat.add_sub_cancel, ite_true, ite_false, if_true, if_false, not_true_eq_false, not_false_eq_true, Bool.and_true, Bool.true_and, true_or, or_true, false_or, or_false, and_true, true_and, and_false, false_and, Nat.not_lt_zero, hpRX, hpIX, hpFX, hpLX, hpSX, ↓rgX, ↓rpX, Nat.reduceLeDiff, Nat.reduceLT, Nat.reduceAdd, Nat.reduceMul, Nat.reduceSub, hF, hle, k2, j2, d1, d2, q3]
      · obtain ⟨c', q1, q2, q3⟩ := ih (i + 1) i (.int (nI (bN r k))) (by omega) (by omega) ⟨k, k1, k2, by omega, fun i' hi' j' hj' he hl => by
          rcases Nat.lt_or_ge i' i with z | z
          · have := j4 i' z j' hj' he hl; omega
          · have : i' = i := by omega
            subst this
            rw [k2, nI_eq' (by omega) (by have := (c5 j' hj').1; omega)] at he
            omega⟩
        refine ⟨c', q1, q2, ?_⟩
        simp (maxSteps := 2000000) (disch := (first | omega | (simp (disch := omega) only [up_eq, up_ne, cpA_o, List.length_set] <;> omega) | fail)) only [ob_s, am_bi_s, am_bv_s, am_bl_s, ↓bif_d, lits, nI_addS, nI_mulS, nI_subS, nI_lt', nI_le', nI_eq', ↓rd_nI, ↓wrH, up_eq, up_ne, up_up, up_sw, List.set_set, g_seq, g_sne, Nat.reduceEqDiff, ↓reduceIte, List.length_set, Nat.add_sub_cancel_left, Nat.add_sub_cancel, ite_true, ite_false, if_true, if_false, not_true_eq_false, not_false_eq_true, Bool.and_true, Bool.true_and, true_or, or_true, false_or, or_false, and_true, true_and, and_false, false_and, Nat.not_lt_zero, hpRX, hpIX, hpFX, hpLX, hpSX, ↓rgX, ↓rpX, Nat.reduceLeDiff, Nat.reduceLT, Nat.reduceAdd, Nat.reduceMul, Nat.reduceSub, hF, hle, k2, j2, d1, d2, q3]
theorem s_Steps_bandOf (hB : Bnd (A 5) (A 7) r nB) (h5 : (A 5).length = 8) (hF : F 302 = nI nB) {a : Nat} (ha : a < 2 ^ 31) : ∃ c, c < nB ∧ g (A 5) c = nI (bN r (mBand r nB (nI a))) ∧ g (A 7) c = nI (sN r (mBand r nB (nI a))) ∧ am_cl m_Steps_bandOf [.ref 3, .int (nI a)] (heap A F P) = some (some (.int (nI c)), heap A F P) := by
  have hB' := hB
  obtain ⟨c1, c2, c3, c4, c5, c6, c7, c8⟩ := hB
  obtain ⟨c', q1, q2, q3⟩ := l_Steps_bandOf (F := F) (P := P) hB' h5 hF ha (nB - 1) 1 0 (.float 0) (by omega) (by omega) ⟨0, by omega, by rw [c4, c3], by rw [c3]; omega, fun i' hi' j' hj' he hl => by
    have : i' = 0 := by omega
    subst this
    rw [c4, nI_eq' (by omega) (by have := (c5 j' hj').1; omega)] at he
    omega⟩
  obtain ⟨h1, h2, h3⟩ := mBand_spec hB' ha
  obtain ⟨j, j1, j2, j3⟩ := c1 c' q1
  have w1 := (c5 j j1).1
  have w2 := (c5 _ h1).1
  have e : j = mBand r nB (nI a) := by
    rw [q2, nI_eq' (by omega) (by omega)] at j2
    exact band_u hB' ha j1 (by omega) (by omega)
  refine ⟨c', q1, q2, by rw [j3, e], ?_⟩
  rw [e_Steps_bandOf 3 _ _ rfl]
  simp only [lits]
  exact q3
theorem s_Steps_floor (hB : Bnd (A 5) (A 7) r nB) (h5 : (A 5).length = 8) (h7 : (A 7).length = 8) (hF : F 302 = nI nB) {a : Nat} (ha : a ≤ 10000000) : am_cl m_Steps_floor [.ref 3, .int (nI a)] (heap A F P) = some (some (.int (nI (flN r nB a))), heap A F P) := by
  obtain ⟨c, q1, q2, q3, q4⟩ := s_Steps_bandOf (F := F) (P := P) hB h5 hF (a := a) (by omega)
  obtain ⟨h1, h2, h3⟩ := mBand_spec hB (a := a) (by omega)
  obtain ⟨w1, w2, w3, w4, w5⟩ := hB.2.2.2.2.1 _ h1
  have h8 := hB.2.2.2.2.2.2.2
  have hn : ¬ sN r (mBand r nB (nI a)) ≤ 0 := by omega
  have hdv : am_dv (nI (a - bN r (mBand r nB (nI a)))) (nI (sN r (mBand r nB (nI a)))) = some (nI ((a - bN r (mBand r nB (nI a))) / sN r (mBand r nB (nI a)))) := by
    unfold am_dv
    rw [decide_eq_false (nI_ne0 (by omega) (by omega)), pk_div (by omega) (by omega) (by omega)]
    rfl
  rw [e_Steps_floor 3 _ _ rfl]
  simp (maxSteps := 2000000) (disch := (first | omega | (simp (disch := omega) only [up_eq, up_ne, cpA_o, List.length_set] <;> omega) | fail)) only [ob_s, am_bi_s, am_bv_s, am_bl_s, ↓bif_d, lits, nI_addS, nI_mulS, nI_subS, nI_lt', nI_le', nI_eq', ↓rd_nI, ↓wrH, up_eq, up_ne, up_up, up_sw, List.set_set, g_seq, g_sne, Nat.reduceEqDiff, ↓reduceIte, List.length_set, Nat.add_sub_cancel_left, Nat.add_sub_cancel, ite_true, ite_false, if_true, if_false, not_true_eq_false, not_false_eq_true, Bool.and_true, Bool.true_and, true_or, or_true, false_or, or_false, and_true, true_and, and_false, false_and, Nat.not_lt_zero, hpRX, hpIX, hpFX, hpLX, hpSX, ↓rgX, ↓rpX, Nat.reduceLeDiff, Nat.reduceLT, Nat.reduceAdd, Nat.reduceMul, Nat.reduceSub, q4, q2, q3, hn, hdv]
  rfl
theorem l_Steps_next (hB : Bnd (A 5) (A 7) r nB) (h5 : (A 5).length = 8) (hF : F 302 = nI nB) {a : Nat} (ha : a ≤ 10000000) (x2 x3 x4 : Int32) :
    ∀ n i v (u : Value), i + n = nB → v < 2 ^ 31 → v ≤ flN r nB a + sN r (mBand r nB (nI a)) → (∀ i', i' < i → ∀ j', j' < nB → g (A 5) i' = nI (bN r j') → a < bN r j' → v ≤ bN r j') → (v = flN r nB a + sN r (mBand r nB (nI a)) ∨ ∃ j', j' < nB ∧ a < bN r j' ∧ v = bN r j') → am_ev m_Steps_next (53, [.ref 3, .int (nI a), .int x2, .int x3, .int x4, .int (nI v), .int (nI i), u], [], heap A F P) = some (some (.int (nI (nxN r nB a))), heap A F P) := by
  have hB' := hB
  obtain ⟨c1, c2, c3, c4, c5, c6, c7, c8⟩ := hB
  intro n
  induction n with
  | zero =>
    intro i v u hi hv hs hI hO
    have hle : nB ≤ i := by omega
    have e : v = nxN r nB a := by
      obtain ⟨h1, h2, h3⟩ := mBand_spec hB' (a := a) (by omega)
      unfold nxN
      by_cases c : mBand r nB (nI a) + 1 < nB
      · rw [if_pos c]
        obtain ⟨i', i1, i2⟩ := c2 _ c
        have := hI i' (by omega) _ c i2 (h3 c)
        rcases hO with hO | ⟨j', j1, j2, j3⟩
        · split <;> omega
        · have := (band_o hB' (by omega) j1 j2).2
          split <;> omega
      · rw [if_neg c]
        rcases hO with hO | ⟨j', j1, j2, j3⟩
        · exact hO
        · exact absurd (band_o hB' (by omega) j1 j2).1 c
    rw [b_Steps_next_53]
    simp (maxSteps := 2000000) (disch := (first | omega | (simp (disch := omega) only [up_eq, up_ne, cpA_o, List.length_set] <;> omega) | fail)) only [ob_s, am_bi_s, am_bv_s, am_bl_s, ↓bif_d, lits, nI_addS, nI_mulS, nI_subS, nI_lt', nI_le', nI_eq', ↓rd_nI, ↓wrH, up_eq, up_ne, up_up, up_sw, List.set_set, g_seq, g_sne, Nat.reduceEqDiff, ↓reduceIte, List.length_set, Nat.add_sub_cancel_left, Nat.add_sub_cancel, ite_true, ite_false, if_true, if_false, not_true_eq_false, not_false_eq_true, Bool.and_true, Bool.true_and, true_or, or_true, false_or, or_false, and_true, true_and, and_false, false_and, Nat.not_lt_zero, hpRX, hpIX, hpFX, hpLX, hpSX, ↓rgX, ↓rpX, Nat.reduceLeDiff, Nat.reduceLT, Nat.reduceAdd, Nat.reduceMul, Nat.reduceSub, hF, hle]
    rw [e]
  | succ n ih =>
    intro i v u hi hv hs hI hO
    have hle : ¬ nB ≤ i := by omega
    obtain ⟨k, k1, k2, k3⟩ := c1 i (by omega)
    have kb := (c5 k k1).1
    have stay : ∀ v', v' ≤ v → (a < bN r k → v' ≤ bN r k) → ∀ i', i' < i + 1 → ∀ j', j' < nB → g (A 5) i' = nI (bN r j') → a < bN r j' → v' ≤ bN r j' := by
      intro v' hv' hk i' hi' j' hj' he hl
      rcases Nat.lt_or_ge i' i with z | z
      · have := hI i' z j' hj' he hl; omega
      · have : i' = i := by omega
        subst this
        rw [k2, nI_eq' (by omega) (by have := (c5 j' hj').1; omega)] at he
        have := hk (by omega)
        omega
    rw [b_Steps_next_53]
    by_cases d1 : bN r k ≤ a
    · have := ih (i + 1) v (.int (nI (bN r k))) (by omega) hv hs (stay v (Nat.le_refl _) (fun z => by omega)) hO
      simp (maxSteps := 2000000) (disch := (first | omega | (simp (disch := omega) only [up_eq, up_ne, cpA_o, List.length_set] <;> omega) | fail)) only [ob_s, am_bi_s, am_bv_s, am_bl_s, ↓bif_d, lits, nI_addS, nI_mulS, nI_subS, nI_lt', nI_le', nI_eq', ↓rd_nI, ↓wrH, up_eq, up_ne, up_up, up_sw, List.set_set, g_seq, g_sne, Nat.reduceEqDiff, ↓reduceIte, List.length_set, Nat.add_sub_cancel_left, Nat.add_sub_cancel, ite_true, ite_false, if_true, if_false, not_true_eq_false, not_false_eq_true, Bool.and_true, Bool.true_and, true_or, or_true, false_or, or_false, and_true, true_and, and_false, false_and, Nat.not_lt_zero, hpRX, hpIX, hpFX, hpLX, hpSX, ↓rgX, ↓rpX, Nat.reduceLeDiff, Nat.reduceLT, Nat.reduceAdd, Nat.reduceMul, Nat.reduceSub, hF, hle, k2, d1, this]
    · by_cases d2 : v ≤ bN r k
      · have := ih (i + 1) v (.int (nI (bN r k))) (by omega) hv hs (stay v (Nat.le_refl _) (fun z => d2)) hO
        simp (maxSteps := 2000000) (disch := (first | omega | (simp (disch := omega) only [up_eq, up_ne, cpA_o, List.length_set] <;> omega) | fail)) only [ob_s, am_bi_s, am_bv_s, am_bl_s, ↓bif_d, lits, nI_addS, nI_mulS, nI_subS, nI_lt', nI_le', nI_eq', ↓rd_nI, ↓wrH, up_eq, up_ne, up_up, up_sw, List.set_set, g_seq, g_sne, Nat.reduceEqDiff, ↓reduceIte, List.length_set, Nat.add_sub_cancel_left, Nat.add_sub_cancel, ite_true, ite_false, if_true, if_false, not_true_eq_false, not_false_eq_true, Bool.and_true, Bool.true_and, true_or, or_true, false_or, or_false, and_true, true_and, and_false, false_and, Nat.not_lt_zero, hpRX, hpIX, hpFX, hpLX, hpSX, ↓rgX, ↓rpX, Nat.reduceLeDiff, Nat.reduceLT, Nat.reduceAdd, Nat.reduceMul, Nat.reduceSub, hF, hle, k2, d1, d2, this]
      · have := ih (i + 1) (bN r k) (.int (nI (bN r k))) (by omega) (by omega) (by omega) (stay _ (by omega) (fun z => Nat.le_refl _)) (Or.inr ⟨k, k1, by omega, rfl⟩)
        simp (maxSteps := 2000000) (disch := (first | omega | (simp (disch := omega) only [up_eq, up_ne, cpA_o, List.length_set] <;> omega) | fail)) only [ob_s, am_bi_s, am_bv_s, am_bl_s, ↓bif_d, lits, nI_addS, nI_mulS, nI_subS, nI_lt', nI_le', nI_eq', ↓rd_nI, ↓wrH, up_eq, up_ne, up_up, up_sw, List.set_set, g_seq, g_sne, Nat.reduceEqDiff, ↓reduceIte, List.length_set, Nat.add_sub_cancel_left, Nat.add_sub_cancel, ite_true, ite_false, if_true, if_false, not_true_eq_false, not_false_eq_true, Bool.and_true, Bool.true_and, true_or, or_true, false_or, or_false, and_true, true_and, and_false, false_and, Nat.not_lt_zero, hpRX, hpIX, hpFX, hpLX, hpSX, ↓rgX, ↓rpX, Nat.reduceLeDiff, Nat.reduceLT, Nat.reduceAdd, Nat.reduceMul, Nat.reduceSub, hF, hle, k2, d1, d2, this]
theorem s_Steps_next (hB : Bnd (A 5) (A 7) r nB) (h5 : (A 5).length = 8) (h7 : (A 7).length = 8) (hF : F 302 = nI nB) {a : Nat} (ha : a ≤ 10000000) : am_cl m_Steps_next [.ref 3, .int (nI a)] (heap A F P) = some (some (.int (nI (nxN r nB a))), heap A F P) := by
  obtain ⟨c, q1, q2, q3, q4⟩ := s_Steps_bandOf (F := F) (P := P) hB h5 hF (a := a) (by omega)
  obtain ⟨h1, h2, h3⟩ := mBand_spec hB (a := a) (by omega)
  obtain ⟨w1, w2, w3, w4, w5⟩ := hB.2.2.2.2.1 _ h1
  have h8 := hB.2.2.2.2.2.2.2
  have hf := flN_le hB (a := a) (by omega)
  have hn : ¬ sN r (mBand r nB (nI a)) ≤ 0 := by omega
  have hdv : am_dv (nI (a - bN r (mBand r nB (nI a)))) (nI (sN r (mBand r nB (nI a)))) = some (nI ((a - bN r (mBand r nB (nI a))) / sN r (mBand r nB (nI a)))) := by
    unfold am_dv
    rw [decide_eq_false (nI_ne0 (by omega) (by omega)), pk_div (by omega) (by omega) (by omega)]
    rfl
  have hsum : bN r (mBand r nB (nI a)) + ((a - bN r (mBand r nB (nI a))) / sN r (mBand r nB (nI a)) + 1) * sN r (mBand r nB (nI a)) = flN r nB a + sN r (mBand r nB (nI a)) := by
    unfold flN
    rw [Nat.add_mul, Nat.one_mul, Nat.add_assoc]
  have hl := l_Steps_next (F := F) (P := P) hB h5 hF ha (nI c) (nI (bN r (mBand r nB (nI a)))) (nI (sN r (mBand r nB (nI a)))) nB 0 _ (.float 0) (by omega) (by omega) (Nat.le_refl _) (fun i' hi' => by omega) (Or.inl rfl)
  rw [e_Steps_next 3 _ _ rfl]
  simp (maxSteps := 2000000) (disch := (first | omega | (simp (disch := omega) only [up_eq, up_ne, cpA_o, List.length_set] <;> omega) | fail)) only [ob_s, am_bi_s, am_bv_s, am_bl_s, ↓bif_d, lits, nI_addS, nI_mulS, nI_subS, nI_lt', nI_le', nI_eq', ↓rd_nI, ↓wrH, up_eq, up_ne, up_up, up_sw, List.set_set, g_seq, g_sne, Nat.reduceEqDiff, ↓reduceIte, List.length_set, Nat.add_sub_cancel_left, Nat.add_sub_cancel, ite_true, ite_false, if_true, if_false, not_true_eq_false, not_false_eq_true, Bool.and_true, Bool.true_and, true_or, or_true, false_or, or_false, and_true, true_and, and_false, false_and, Nat.not_lt_zero, hpRX, hpIX, hpFX, hpLX, hpSX, ↓rgX, ↓rpX, Nat.reduceLeDiff, Nat.reduceLT, Nat.reduceAdd, Nat.reduceMul, Nat.reduceSub, q4, q2, q3, hn, hdv, hsum, hl]
theorem s_Steps_ceiling (hB : Bnd (A 5) (A 7) r nB) (h5 : (A 5).length = 8) (h7 : (A 7).length = 8) (hF : F 302 = nI nB) {a : Nat} (ha : a ≤ 10000000) : am_cl m_Steps_ceiling [.ref 3, .int (nI a)] (heap A F P) = some (some (.int (nI (ceN r nB a))), heap A F P) := by
  have q1 := s_Steps_floor (F := F) (P := P) hB h5 h7 hF ha
  have q2 := s_Steps_next (F := F) (P := P) hB h5 h7 hF ha
  have hf := flN_le hB (a := a) (by omega)
  rw [e_Steps_ceiling 3 _ _ rfl]
  simp (maxSteps := 2000000) (disch := (first | omega | (simp (disch := omega) only [up_eq, up_ne, cpA_o, List.length_set] <;> omega) | fail)) only [ob_s, am_bi_s, am_bv_s, am_bl_s, ↓bif_d, lits, nI_addS, nI_mulS, nI_subS, nI_lt', nI_le', nI_eq', ↓rd_nI, ↓wrH, up_eq, up_ne, up_up, up_sw, List.set_set, g_seq, g_sne, Nat.reduceEqDiff, ↓reduceIte, List.length_set, Nat.add_sub_cancel_left, Nat.add_sub_cancel, ite_true, ite_false, if_true, if_false, not_true_eq_false, not_false_eq_true, Bool.and_true, Bool.true_and, true_or, or_true, false_or, or_false, and_true, true_and, and_false, false_and, Nat.not_lt_zero, hpRX, hpIX, hpFX, hpLX, hpSX, ↓rgX, ↓rpX, Nat.reduceLeDiff, Nat.reduceLT, Nat.reduceAdd, Nat.reduceMul, Nat.reduceSub, q1, q2]
  unfold ceN
  by_cases c : flN r nB a = a
  · rw [if_neg (fun z => z c), if_pos c]
  · rw [if_pos c, if_neg c]
end X

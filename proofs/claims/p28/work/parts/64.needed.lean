/-! THE AMOUNT THAT IS NEEDED -/
def vld (r : List Int32) (nB v : Nat) : Prop := ∃ j m, j < nB ∧ v = bN r j + m * sN r j ∧ (j + 1 < nB → v ≤ bN r (j + 1))
section B
variable {X Y r : List Int32} {nB : Nat}
theorem vld_le (hB : Bnd X Y r nB) {v q : Nat} (hv : vld r nB v) (hq : q < 2 ^ 31) (h : v ≤ q) : v ≤ flN r nB q := by
  obtain ⟨j, m, j1, j2, j3⟩ := hv
  obtain ⟨h1, h2, h3⟩ := mBand_spec hB hq
  obtain ⟨w1, w2, w3, -⟩ := hB.2.2.2.2.1 _ h1
  have c6 := hB.2.2.2.2.2.1
  have hb : bN r (mBand r nB (nI q)) ≤ flN r nB q := by unfold flN; omega
  rcases Nat.lt_trichotomy j (mBand r nB (nI q)) with z | z | z
  · have h4 := j3 (by omega)
    rcases Nat.eq_or_lt_of_le (show j + 1 ≤ mBand r nB (nI q) from z) with y | y
    · rw [y] at h4; omega
    · have := c6 _ _ y h1; omega
  · unfold flN
    rw [← z] at w2 ⊢
    have h5 : m * sN r j ≤ q - bN r j := by omega
    have h6 : m ≤ (q - bN r j) / sN r j := (Nat.le_div_iff_mul_le (by omega)).mpr h5
    have h7 : m * sN r j ≤ (q - bN r j) / sN r j * sN r j := Nat.mul_le_mul_right _ h6
    omega
  · have h4 := h3 (by omega)
    have h5 : bN r (mBand r nB (nI q) + 1) ≤ bN r j := by
      rcases Nat.eq_or_lt_of_le (show mBand r nB (nI q) + 1 ≤ j from z) with y | y
      · rw [y]; exact Nat.le_refl _
      · exact Nat.le_of_lt (c6 _ _ y j1)
    omega
theorem vld_fl (hB : Bnd X Y r nB) {a : Nat} (ha : a < 2 ^ 31) : vld r nB (flN r nB a) := by
  obtain ⟨h1, h2, h3⟩ := mBand_spec hB ha
  have hle := flN_le hB ha
  exact ⟨_, _, h1, rfl, fun z => by have := h3 z; omega⟩
theorem vld_nx (hB : Bnd X Y r nB) {a : Nat} (ha : a < 2 ^ 31) : vld r nB (nxN r nB a) := by
  obtain ⟨h1, h2, h3⟩ := mBand_spec hB ha
  have c6 := hB.2.2.2.2.2.1
  have e : flN r nB a + sN r (mBand r nB (nI a)) = bN r (mBand r nB (nI a)) + ((a - bN r (mBand r nB (nI a))) / sN r (mBand r nB (nI a)) + 1) * sN r (mBand r nB (nI a)) := by
    unfold flN
    rw [Nat.add_mul, Nat.one_mul, Nat.add_assoc]
  unfold nxN
  by_cases c : mBand r nB (nI a) + 1 < nB
  · rw [if_pos c]
    by_cases d : flN r nB a + sN r (mBand r nB (nI a)) ≤ bN r (mBand r nB (nI a) + 1)
    · rw [if_pos d]
      exact ⟨_, _, h1, e, fun _ => d⟩
    · rw [if_neg d]
      exact ⟨mBand r nB (nI a) + 1, 0, c, by rw [Nat.zero_mul]; rfl, fun z => Nat.le_of_lt (c6 _ _ (Nat.lt_succ_self _) z)⟩
  · rw [if_neg c]
    exact ⟨_, _, h1, e, fun z => absurd z c⟩
theorem vld_ce (hB : Bnd X Y r nB) {a : Nat} (ha : a < 2 ^ 31) : vld r nB (ceN r nB a) := by
  unfold ceN
  by_cases c : flN r nB a = a
  · rw [if_pos c]
    have := vld_fl hB ha
    rw [c] at this
    exact this
  · rw [if_neg c]; exact vld_nx hB ha
end B
section O
variable {r L B : List Int32} {nB nb nx l : Nat}
theorem srt_ins {O : List Nat} {x p : Nat} (q1 : p ≤ O.length) (q5 : ∀ j, p ≤ j → j < O.length → mAh r nB L x (od O j)) (hlow : ∀ i, i < p → mAh r nB L (od O i) x) (hs : Srt r nB L O) : Srt r nB L (O.take p ++ x :: O.drop p) := by
  have hlen : (O.take p ++ x :: O.drop p).length = O.length + 1 := by
    rw [List.length_append, List.length_cons, List.length_take, List.length_drop]; omega
  intro i j hij hj
  rw [hlen] at hj
  rw [od_ins O x q1, od_ins O x q1]
  by_cases c1 : i < p
  · rw [if_pos c1]
    by_cases c2 : j < p
    · rw [if_pos c2]; exact hs i j hij (by omega)
    · rw [if_neg c2]
      by_cases c3 : j = p
      · rw [if_pos c3]; exact hlow i c1
      · rw [if_neg c3]; exact hs i (j - 1) (by omega) (by omega)
  · rw [if_neg c1, if_neg (show ¬ j < p by omega), if_neg (show ¬ j = p by omega)]
    by_cases c3 : i = p
    · rw [if_pos c3]; exact q5 (j - 1) (by omega) (by omega)
    · rw [if_neg c3]; exact hs (i - 1) (j - 1) (by omega) (by omega)
theorem srt_pos {O : List Nat} {x : Nat} (hne : ∀ y, y ∈ O → ¬ x = y) (hs : Srt r nB L O) : ∀ p, p ≤ O.length → (∀ j, p ≤ j → j < O.length → mAh r nB L x (od O j)) → ∃ p', p' ≤ O.length ∧ (∀ j, p' ≤ j → j < O.length → mAh r nB L x (od O j)) ∧ ∀ i, i < p' → mAh r nB L (od O i) x := by
  intro p
  induction p with
  | zero => intro hp h; exact ⟨0, hp, h, fun i hi => absurd hi (Nat.not_lt_zero _)⟩
  | succ p ih =>
    intro hp h
    by_cases c : mAh r nB L x (od O p)
    · exact ih (by omega) (fun j z1 z2 => by
        by_cases d : j = p
        · rw [d]; exact c
        · exact h j (by omega) z2)
    · refine ⟨p + 1, hp, h, fun i hi => ?_⟩
      have hlast : mAh r nB L (od O p) x := mAh_to (hne _ (od_mem (by omega))) c
      rcases Nat.eq_or_lt_of_le (show i ≤ p by omega) with z | z
      · rw [z]; exact hlast
      · exact mAh_tr (hs i p z (by omega)) hlast
/-- the bests can be put in order -/
theorem srt_ex {f : Nat → Int32} {N : Nat} (hd : ∀ i j, i < j → j < N → ¬ f j < nI 0 → ¬ (f i).toNatClampNeg = (f j).toNatClampNeg ∨ f i < nI 0) : ∀ n, n ≤ N → ∃ O : List Nat, O.Perm (bl f n) ∧ Srt r nB L O := by
  intro n
  induction n with
  | zero => exact fun _ => ⟨[], List.Perm.refl _, fun i j _ hj => absurd hj (Nat.not_lt_zero _)⟩
  | succ n ih =>
    intro hN
    obtain ⟨O, h1, h2⟩ := ih (by omega)
    rw [bl_s]
    by_cases c : f n < nI 0
    · rw [if_pos c]; exact ⟨O, h1, h2⟩
    · rw [if_neg c]
      have hne : ∀ y, y ∈ O → ¬ (f n).toNatClampNeg = y := by
        intro y hy he
        obtain ⟨b, b1, b2, b3⟩ := (bl_mem n).mp (h1.mem_iff.mp hy)
        rcases hd b n b1 (by omega) c with z | z
        · exact z (by rw [b3, he])
        · exact b2 z
      obtain ⟨p, p1, p2, p3⟩ := srt_pos hne h2 O.length (Nat.le_refl _) (fun j z1 z2 => by omega)
      refine ⟨O.take p ++ (f n).toNatClampNeg :: O.drop p, ?_, srt_ins p1 p2 p3 h2⟩
      have h3 := List.perm_middle (a := (f n).toNatClampNeg) (l₁ := O.take p) (l₂ := O.drop p)
      rw [List.take_append_drop] at h3
      exact h3.trans ((List.Perm.cons _ h1).trans (List.perm_append_singleton _ _).symm)
end O
def MaxOf (S : Nat → Prop) (f : Nat → Int32) (a m : Nat) : Prop := m ≤ 1200000 ∧ a ≤ m ∧ (∀ y, S y → ∃ n, f y = nI n ∧ n ≤ m) ∧ (m = a ∨ ∃ y, S y ∧ f y = nI m)
theorem MaxOf_u {S S' : Nat → Prop} {f : Nat → Int32} {a m m' : Nat} (hS : ∀ y, S y ↔ S' y) (h : MaxOf S f a m) (h' : MaxOf S' f a m') : m = m' := by
  obtain ⟨a1, a2, a3, a4⟩ := h
  obtain ⟨b1, b2, b3, b4⟩ := h'
  have k1 : m ≤ m' := by
    rcases a4 with z | ⟨y, y1, y2⟩
    · omega
    · obtain ⟨n, n1, n2⟩ := b3 y ((hS y).mp y1)
      rw [y2] at n1
      by_cases c : n < 2 ^ 31
      · rw [nI_eq' (by omega) c] at n1; omega
      · omega
  have k2 : m' ≤ m := by
    rcases b4 with z | ⟨y, y1, y2⟩
    · omega
    · obtain ⟨n, n1, n2⟩ := a3 y ((hS y).mpr y1)
      rw [y2] at n1
      by_cases c : n < 2 ^ 31
      · rw [nI_eq' (by omega) c] at n1; omega
      · omega
  omega
theorem MaxOf_step {S S' : Nat → Prop} {f : Nat → Int32} {a m n y : Nat} (h : MaxOf S f a m) (hn : n ≤ 1200000) (hf : f y = nI n) (hS : ∀ z, S' z ↔ (S z ∨ z = y)) : MaxOf S' f a (if m < n then n else m) := by
  obtain ⟨a1, a2, a3, a4⟩ := h
  refine ⟨by split <;> omega, by split <;> omega, fun z hz => ?_, ?_⟩
  · rcases (hS z).mp hz with w | w
    · obtain ⟨k, k1, k2⟩ := a3 z w
      exact ⟨k, k1, by split <;> omega⟩
    · subst w
      exact ⟨n, hf, by split <;> omega⟩
  · by_cases c : m < n
    · rw [if_pos c]
      exact Or.inr ⟨y, (hS y).mpr (Or.inr rfl), hf⟩
    · rw [if_neg c]
      rcases a4 with z | ⟨w, w1, w2⟩
      · exact Or.inl z
      · exact Or.inr ⟨w, (hS w).mpr (Or.inl w1), w2⟩
theorem MaxOf_c {S S' : Nat → Prop} {f : Nat → Int32} {a m : Nat} (h : MaxOf S f a m) (hS : ∀ y, S y ↔ S' y) : MaxOf S' f a m := by
  have e : S = S' := funext fun y => propext (hS y)
  rw [← e]
  exact h
/-- with what a bid is beaten by a new one -/
noncomputable def vB (r : List Int32) (nB : Nat) (L : List Int32) (b : Nat) (v : Int32) (y : Nat) : Int32 := cif (¬ byN r y = b ∧ v < g r (288 + y)) (mWo r nB L y) (mNx r nB (mWo r nB L y))
section X
variable {A : Nat → List Int32} {F : Nat → Int32} {P : Nat → Nat} {r : List Int32} {nB nl nb nx q t : Nat} {L B Fi Se Mn Bu Pr : List Int32}
theorem vB_N (hC : Cx A F r nB nl nb nx) (hS : SaI r nB nl nb nx L B Fi Se Mn Bu Pr nl) {y b : Nat} {v : Int32} (hy : y < nx) : ∃ w n, mWo r nB L y = nI w ∧ w ≤ 1000000 ∧ mNx r nB (mWo r nB L y) = nI (nxN r nB w) ∧ nxN r nB w ≤ 1100000 ∧ n ≤ 1200000 ∧ vB r nB L b v y = nI n ∧ vld r nB n := by
  have hM := hC.1
  have hB := hC.2.1
  obtain ⟨⟨y1, y2⟩, y3, y4⟩ := hM.2.2 y hy
  obtain ⟨p, q, a, p1, p2, q1, p3, q3, ea, hw, hwa⟩ := mWo_N (L := L) hC hy (SaI_left hC hS (lotN r y) (by omega) (byN r y) y3)
  have ha1 : a ≤ 1000000 := by rw [ea]; split <;> omega
  have hn := nxN_le hB (a := flN r nB a) (by omega)
  have hN : mNx r nB (mWo r nB L y) = nI (nxN r nB (flN r nB a)) := by rw [hw, mNx_N hB (by omega)]
  unfold vB
  by_cases c : ¬ byN r y = b ∧ v < g r (288 + y)
  · exact ⟨flN r nB a, flN r nB a, hw, by omega, hN, by omega, by omega, by rw [cif_t c, hw], vld_fl hB (by omega)⟩
  · exact ⟨flN r nB a, nxN r nB (flN r nB a), hw, by omega, hN, by omega, by omega, by rw [cif_f c, hN], vld_nx hB (by omega)⟩
/-- the class's greatest -/
theorem c_lw13 {k b a0 : Nat} {v : Int32} {O : List Nat} (hC : Cx A F r nB nl nb nx) (hW : LenW A) (hS : SaI r nB nl nb nx L B Fi Se Mn Bu Pr nl) (hK : ClS A r nB nl nx L B Fi Se Mn Bu Pr nl) (hk : k < nl) (hb : b < nb) (hOp : O.Perm (bl (fun j => g B (8 * k + j)) 8)) (hs : Srt r nB L O) : ∀ n p m (u6 u7 u8 : Value), p + n = O.length → MaxOf (fun y => ∃ j, j < p ∧ od O j = y) (vB r nB L b v) a0 m → ∃ m', MaxOf (fun y => y ∈ O) (vB r nB L b v) a0 m' ∧ am_ev m_Sale_leastWorth (13, [.ref 164, .int (nI b), .int (nI k), .int v, .int (nI m), .int (nI p), u6, u7, u8], [], heap A F P) = some (some (.int (nI m')), heap A F P) := by
  have hbd := fun p hp => cl_bid (P := P) (k := k) (p := p) hC hW hS hK hk hp
  have hbs := SaI_bs hC.1 hS hk
  obtain ⟨d1, d2, d3, d4, d5', d6⟩ := hK.1 k hk
  have emn := hS.2.2.2.2.2.1 k hk
  have hmn : mMn B k 8 0 = O.length := by rw [mMn_bl, hOp.length_eq]
  have hO8 : O.length ≤ 8 := by rw [hOp.length_eq]; exact bl_le _ 8
  rw [emn, hmn] at d4
  have hmem : ∀ y, y ∈ O → y < nx ∧ lotN r y = k := by
    intro y hy
    obtain ⟨j, j1, j2, j3⟩ := (bl_mem 8).mp (hOp.mem_iff.mp hy)
    have j2 : ¬ g B (8 * k + j) < nI 0 := j2
    have j3 : (g B (8 * k + j)).toNatClampNeg = y := j3
    rcases hbs j j1 with z | ⟨w, w1, w2, w3, w4⟩
    · exact absurd (by rw [z]; decide) j2
    · have hnx : nx ≤ 60 := hC.1.1.2.2.2.2.2.2.2.2.2
      rw [w2, nI_clamp (by omega)] at j3
      subst j3
      exact ⟨w1, w3⟩
  have hvN := fun y hy => vB_N (y := y) (b := b) (v := v) hC hS hy
  obtain ⟨hM, hB, ⟨n1, n2, n3, n4⟩, l1, hCL, hCM, hCX, hCS, hS0, hS1, hS2, hS3⟩ := id hC
  obtain ⟨c5, c7, c10, c12, c14, c16, c18, c21, c23, c25, c27, c29, c31, c33⟩ := LenS2 l1
  have hnl : nl ≤ 20 := hM.1.2.2.2.2.2.2.2.1
  have hnb : nb ≤ 8 := hM.1.2.2.2.2.2.2.2.2.1
  have hnx : nx ≤ 60 := hM.1.2.2.2.2.2.2.2.2.2
  have hnB : nB ≤ 8 := hM.1.2.2.2.2.2.2.1
  obtain ⟨w166, w168, w170, w172, w174, w176, w178, w180, w182⟩ := id hW
  have b88 := fun x1 x2 x3 x4 x5 x6 x7 u8 h => b_Sale_leastWorth_88 164 x1 x2 x3 x4 x5 x6 x7 u8 h
  intro n
  induction n with
  | zero =>
    intro p m u6 u7 u8 hp hm
    have hle : O.length ≤ p := by omega
    refine ⟨m, MaxOf_c hm (fun y => ⟨fun ⟨j, j1, j2⟩ => by rw [← j2]; exact od_mem (by omega), fun hy => by
      obtain ⟨j, j1, j2⟩ := mem_od hy
      exact ⟨j, by omega, j2⟩⟩), ?_⟩
    rw [b_Sale_leastWorth_13]
    simp (maxSteps := 2000000) (disch := (first | omega | (simp (disch := omega) only [up_eq, up_ne, cpA_o, cpF_o, List.length_set] <;> omega) | fail)) only [ob_s, am_bi_s, am_bv_s, am_bl_s, ↓bif_d, lits, nI_addS, nI_mulS, nI_subS, nI_lt', nI_le', nI_eq', ↓rd_nI, ↓wrH, up_eq, up_ne, up_up, up_sw, List.set_set, g_seq, g_sne, Nat.reduceEqDiff, ↓reduceIte, List.length_set, Nat.add_sub_cancel_left, Nat.add_sub_cancel, ite_true, ite_false, if_true, if_false, not_true_eq_false, not_false_eq_true, Bool.and_true, Bool.true_and, true_or, or_true, false_or, or_false, and_true, true_and, and_false, false_and, Nat.not_lt_zero, hpRX, hpIX, hpFX, hpLX, hpSX, ↓rgX, ↓rpX, Nat.reduceLeDiff, Nat.reduceLT, Nat.reduceAdd, Nat.reduceMul, Nat.reduceSub, d4, hle]
  | succ n ih =>
    intro p m u6 u7 u8 hp hm
    have hle : ¬ O.length ≤ p := by omega
    obtain ⟨y1, y2⟩ := hmem _ (od_mem (show p < O.length by omega))
    have hbp := hbd p (by omega)
    rw [mRk_od hnx (fun b hb => (hbs b hb).isB) hOp hs (show p < O.length by omega)] at hbp
    have hSt : ∀ z, (∃ j, j < p + 1 ∧ od O j = z) ↔ ((∃ j, j < p ∧ od O j = z) ∨ z = od O p) := fun z => ⟨fun ⟨j, j1, j2⟩ => by
      rcases Nat.lt_or_ge j p with w | w
      · exact Or.inl ⟨j, w, j2⟩
      · have : j = p := by omega
        subst this
        exact Or.inr j2.symm, fun w => w.elim (fun ⟨j, j1, j2⟩ => ⟨j, by omega, j2⟩) (fun w => ⟨p, by omega, w.symm⟩)⟩
    generalize od O p = y at hbp hSt y1 y2
    obtain ⟨w, nn, e1, e2, e3, e4, e5, e6, e7⟩ := hvN y y1
    have ew := (hK.2 y y1 (by omega)).1
    have eby := (hCX y y1).1
    have emk := (hCX y y1).2.2.2.1
    have hby := (hM.2.2 y y1).2.1
    have hm12 := hm.1
    have hmx := am_max_N (a := m) (b := nn) (by omega) (by omega)
    obtain ⟨m', q1, q2⟩ := ih (p + 1) (if m < nn then nn else m) (.int (nI y)) (.int (mWo r nB L y)) (.int (b01 (¬ byN r y = b ∧ v < g r (288 + y)))) (by omega) (MaxOf_step hm e5 e6 hSt)
    refine ⟨m', q1, ?_⟩
    have hnxt : am_cl m_Steps_next [.ref 3, .int (mWo r nB L y)] (heap A F P) = some (some (.int (mNx r nB (mWo r nB L y))), heap A F P) := by
      rw [e3, e1]
      exact s_Steps_next hB c5 c7 n1 (by omega)
    rw [← hmx, ← e6] at q2
    rw [b_Sale_leastWorth_13]
    by_cases c1 : byN r y = b
    · have ev : vB r nB L b v y = mNx r nB (mWo r nB L y) := by unfold vB; rw [cif_f (fun z => z.1 c1)]
      rw [b01_f (fun z => z.1 c1), ev] at q2
      simp (maxSteps := 2000000) (disch := (first | omega | (simp (disch := omega) only [up_eq, up_ne, cpA_o, cpF_o, List.length_set] <;> omega) | fail)) only [ob_s, am_bi_s, am_bv_s, am_bl_s, ↓bif_d, lits, nI_addS, nI_mulS, nI_subS, nI_lt', nI_le', nI_eq', ↓rd_nI, ↓wrH, up_eq, up_ne, up_up, up_sw, List.set_set, g_seq, g_sne, Nat.reduceEqDiff, ↓reduceIte, List.length_set, Nat.add_sub_cancel_left, Nat.add_sub_cancel, ite_true, ite_false, if_true, if_false, not_true_eq_false, not_false_eq_true, Bool.and_true, Bool.true_and, true_or, or_true, false_or, or_false, and_true, true_and, and_false, false_and, Nat.not_lt_zero, hpRX, hpIX, hpFX, hpLX, hpSX, ↓rgX, ↓rpX, Nat.reduceLeDiff, Nat.reduceLT, Nat.reduceAdd, Nat.reduceMul, Nat.reduceSub, d4, hle, hbp, ew, eby, c1, b88, hnxt, q2]
    · by_cases c2 : v < g r (288 + y)
      · have ev : vB r nB L b v y = mWo r nB L y := by unfold vB; rw [cif_t ⟨c1, c2⟩]
        have c3 : ¬ g r (288 + y) ≤ v := Int32.not_le.mpr c2
        rw [b01_t ⟨c1, c2⟩, ev] at q2
        simp (maxSteps := 2000000) (disch := (first | omega | (simp (disch := omega) only [up_eq, up_ne, cpA_o, cpF_o, List.length_set] <;> omega) | fail)) only [ob_s, am_bi_s, am_bv_s, am_bl_s, ↓bif_d, lits, nI_addS, nI_mulS, nI_subS, nI_lt', nI_le', nI_eq', ↓rd_nI, ↓wrH, up_eq, up_ne, up_up, up_sw, List.set_set, g_seq, g_sne, Nat.reduceEqDiff, ↓reduceIte, List.length_set, Nat.add_sub_cancel_left, Nat.add_sub_cancel, ite_true, ite_false, if_true, if_false, not_true_eq_false, not_false_eq_true, Bool.and_true, Bool.true_and, true_or, or_true, false_or, or_false, and_true, true_and, and_false, false_and, Nat.not_lt_zero, hpRX, hpIX, hpFX, hpLX, hpSX, ↓rgX, ↓rpX, Nat.reduceLeDiff, Nat.reduceLT, Nat.reduceAdd, Nat.reduceMul, Nat.reduceSub, d4, hle, hbp, ew, eby, c1, emk, c3, q2]
      · have ev : vB r nB L b v y = mNx r nB (mWo r nB L y) := by unfold vB; rw [cif_f (fun z => c2 z.2)]
        have c3 : g r (288 + y) ≤ v := Int32.not_lt.mp c2
        rw [b01_f (fun z => c2 z.2), ev] at q2
        simp (maxSteps := 2000000) (disch := (first | omega | (simp (disch := omega) only [up_eq, up_ne, cpA_o, cpF_o, List.length_set] <;> omega) | fail)) only [ob_s, am_bi_s, am_bv_s, am_bl_s, ↓bif_d, lits, nI_addS, nI_mulS, nI_subS, nI_lt', nI_le', nI_eq', ↓rd_nI, ↓wrH, up_eq, up_ne, up_up, up_sw, List.set_set, g_seq, g_sne, Nat.reduceEqDiff, ↓reduceIte, List.length_set, Nat.add_sub_cancel_left, Nat.add_sub_cancel, ite_true, ite_false, if_true, if_false, not_true_eq_false, not_false_eq_true, Bool.and_true, Bool.true_and, true_or, or_true, false_or, or_false, and_true, true_and, and_false, false_and, Nat.not_lt_zero, hpRX, hpIX, hpFX, hpLX, hpSX, ↓rgX, ↓rpX, Nat.reduceLeDiff, Nat.reduceLT, Nat.reduceAdd, Nat.reduceMul, Nat.reduceSub, d4, hle, hbp, ew, eby, c1, emk, c3, b88, hnxt, q2]
end X

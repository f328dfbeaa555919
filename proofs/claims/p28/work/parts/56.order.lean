/-! THE CLASS'S SALE: the bids that count are put in order -/
section O
variable {r L B : List Int32} {nB nb nx l : Nat}
theorem mAh_iff {x y : Nat} : mAh r nB L x y ↔ ((mWo r nB L y).toInt < (mWo r nB L x).toInt ∨ ((mWo r nB L x).toInt = (mWo r nB L y).toInt ∧ ((g r (288 + x)).toInt < (g r (288 + y)).toInt ∨ ((g r (288 + x)).toInt = (g r (288 + y)).toInt ∧ x < y)))) := by
  unfold mAh
  by_cases h1 : mWo r nB L x = mWo r nB L y
  · rw [if_pos h1, h1]
    by_cases h2 : g r (288 + x) = g r (288 + y)
    · rw [if_pos h2, h2]
      omega
    · have h2' : ¬ (g r (288 + x)).toInt = (g r (288 + y)).toInt := fun z => h2 (Int32.toInt_inj.mp z)
      rw [if_neg h2, Int32.lt_iff_toInt_lt]
      omega
  · have h1' : ¬ (mWo r nB L x).toInt = (mWo r nB L y).toInt := fun z => h1 (Int32.toInt_inj.mp z)
    rw [if_neg h1, Int32.lt_iff_toInt_lt]
    omega
theorem mAh_tr {x y z : Nat} (h1 : mAh r nB L x y) (h2 : mAh r nB L y z) : mAh r nB L x z := by
  rw [mAh_iff] at h1 h2 ⊢
  omega
theorem mAh_as {x y : Nat} (h1 : mAh r nB L x y) : ¬ mAh r nB L y x := by
  intro h2
  rw [mAh_iff] at h1 h2
  omega
theorem mAh_to {x y : Nat} (h : ¬ x = y) (h1 : ¬ mAh r nB L x y) : mAh r nB L y x := by
  rw [mAh_iff] at h1 ⊢
  omega
def od (O : List Nat) (j : Nat) : Nat := O.getD j 0
theorem od_at {O : List Nat} {j : Nat} (h : j < O.length) : od O j = O[j] := by
  unfold od
  rw [List.getD_eq_getElem?_getD, List.getElem?_eq_getElem h]; rfl
theorem od_mem {O : List Nat} {j : Nat} (h : j < O.length) : od O j ∈ O := by
  rw [od_at h]; exact List.getElem_mem h
theorem mem_od {O : List Nat} {y : Nat} (h : y ∈ O) : ∃ j, j < O.length ∧ od O j = y := by
  obtain ⟨j, hj, e⟩ := List.mem_iff_getElem.mp h
  exact ⟨j, hj, by rw [od_at hj]; exact e⟩
theorem od_ins (O : List Nat) (x : Nat) {p : Nat} (hp : p ≤ O.length) (j : Nat) : od (O.take p ++ x :: O.drop p) j = if j < p then od O j else if j = p then x else od O (j - 1) := by
  have hl : (O.take p).length = p := by rw [List.length_take]; omega
  unfold od
  rw [List.getD_eq_getElem?_getD, List.getD_eq_getElem?_getD, List.getD_eq_getElem?_getD, List.getElem?_append, hl]
  by_cases c : j < p
  · rw [if_pos c, if_pos c, List.getElem?_take, if_pos c]
  · rw [if_neg c, if_neg c, List.getElem?_cons]
    by_cases d : j = p
    · rw [if_pos d, if_pos (by omega)]; rfl
    · rw [if_neg d, if_neg (by omega), List.getElem?_drop]
      have : p + (j - p - 1) = j - 1 := by omega
      rw [this]
def Srt (r : List Int32) (nB : Nat) (L : List Int32) (O : List Nat) : Prop := ∀ i j, i < j → j < O.length → mAh r nB L (od O i) (od O j)
noncomputable def ahP (r : List Int32) (nB : Nat) (L : List Int32) (y z : Nat) : Bool := @decide (¬ z = y ∧ mAh r nB L z y) (Classical.propDecidable _)
theorem ahP_t {y z : Nat} : ahP r nB L y z = true ↔ (¬ z = y ∧ mAh r nB L z y) := by
  unfold ahP
  exact @decide_eq_true_iff _ (Classical.propDecidable _)
theorem mAh_ne {x y : Nat} (h : mAh r nB L x y) : ¬ x = y := fun z => by
  subst z
  exact mAh_as h h
/-- in a row that is in order, the bid at p has p ahead -/
theorem Srt_cnt {O : List Nat} (h : Srt r nB L O) {p : Nat} (hp : p < O.length) : O.countP (ahP r nB L (od O p)) = p := by
  have h1 : O.countP (ahP r nB L (od O p)) = (O.take p).countP (ahP r nB L (od O p)) + (O.drop p).countP (ahP r nB L (od O p)) := by
    rw [← List.countP_append, List.take_append_drop]
  have h2 : (O.take p).countP (ahP r nB L (od O p)) = (O.take p).length := List.countP_eq_length.mpr (fun a ha => by
    obtain ⟨i, hi, e⟩ := List.mem_iff_getElem.mp ha
    rw [List.getElem_take] at e
    rw [List.length_take] at hi
    have hlt := h i p (by omega) hp
    rw [od_at (show i < O.length by omega), e] at hlt
    exact ahP_t.mpr ⟨mAh_ne hlt, hlt⟩)
  have h3 : (O.drop p).countP (ahP r nB L (od O p)) = 0 := List.countP_eq_zero.mpr (fun a ha => by
    obtain ⟨i, hi, e⟩ := List.mem_iff_getElem.mp ha
    rw [List.getElem_drop] at e
    rw [List.length_drop] at hi
    intro z
    obtain ⟨z1, z2⟩ := ahP_t.mp z
    rcases Nat.eq_zero_or_pos i with q | q
    · subst q
      exact z1 (by rw [← e, od_at hp]; rfl)
    · have hlt := h p (p + i) (by omega) (by omega)
      rw [od_at (show p + i < O.length by omega), e] at hlt
      exact mAh_as hlt z2)
  rw [h1, h2, h3, List.length_take]
  omega
/-- the bests of the first n bidders -/
def bl (f : Nat → Int32) : Nat → List Nat
  | 0 => []
  | n + 1 => if f n < nI 0 then bl f n else bl f n ++ [(f n).toNatClampNeg]
theorem bl_s (f : Nat → Int32) (n : Nat) : bl f (n + 1) = if f n < nI 0 then bl f n else bl f n ++ [(f n).toNatClampNeg] := rfl
theorem bl_le (f : Nat → Int32) : ∀ n, (bl f n).length ≤ n := by
  intro n
  induction n with
  | zero => exact Nat.le_refl _
  | succ n ih =>
    rw [bl_s]
    split
    · omega
    · rw [List.length_append, List.length_singleton]; omega
theorem bl_mem {f : Nat → Int32} {y : Nat} : ∀ n, y ∈ bl f n ↔ ∃ b, b < n ∧ ¬ f b < nI 0 ∧ (f b).toNatClampNeg = y := by
  intro n
  induction n with
  | zero => exact ⟨fun z => absurd z List.not_mem_nil, fun ⟨b, z, _⟩ => absurd z (Nat.not_lt_zero _)⟩
  | succ n ih =>
    have key : (∃ b, b < n + 1 ∧ ¬ f b < nI 0 ∧ (f b).toNatClampNeg = y) ↔ ((∃ b, b < n ∧ ¬ f b < nI 0 ∧ (f b).toNatClampNeg = y) ∨ (¬ f n < nI 0 ∧ (f n).toNatClampNeg = y)) := by
      constructor
      · rintro ⟨b, z1, z2, z3⟩
        rcases Nat.lt_or_ge b n with z | z
        · exact Or.inl ⟨b, z, z2, z3⟩
        · have : b = n := by omega
          subst this
          exact Or.inr ⟨z2, z3⟩
      · rintro (⟨b, z1, z2, z3⟩ | ⟨z2, z3⟩)
        · exact ⟨b, by omega, z2, z3⟩
        · exact ⟨n, by omega, z2, z3⟩
    rw [key, ← ih, bl_s]
    by_cases c : f n < nI 0
    · rw [if_pos c]
      exact ⟨Or.inl, fun z => z.resolve_right (fun w => w.1 c)⟩
    · rw [if_neg c, List.mem_append, List.mem_singleton]
      exact ⟨fun z => z.imp id (fun w => ⟨c, w.symm⟩), fun z => z.imp id (fun w => w.2.symm)⟩
theorem bl_c {f f' : Nat → Int32} : ∀ n, (∀ j, j < n → f j = f' j) → bl f n = bl f' n := by
  intro n
  induction n with
  | zero => intro _; rfl
  | succ n ih =>
    intro h
    rw [bl_s, bl_s, ih (fun j hj => h j (by omega)), h n (by omega)]
theorem bl_mn (B : List Int32) (l : Nat) : ∀ n b, (bl (fun j => g B (8 * l + j)) b).length + mMn B l n b = (bl (fun j => g B (8 * l + j)) (b + n)).length := by
  intro n
  induction n with
  | zero => intro b; rfl
  | succ n ih =>
    intro b
    have h := ih (b + 1)
    have e : b + 1 + n = b + (n + 1) := by omega
    rw [e] at h
    rw [← h, mMn_s, bl_s]
    by_cases c : g B (8 * l + b) < nI 0
    · rw [if_pos c, if_pos c]; omega
    · rw [if_neg c, if_neg c, List.length_append, List.length_singleton]; omega
theorem bl_pl (hn : nx ≤ 60) (hB : ∀ b, b < 8 → isB (g B (8 * l + b)) nx) {x : Nat} (hx : x < nx) : ∀ n b, b + n ≤ 8 → (bl (fun j => g B (8 * l + j)) b).countP (ahP r nB L x) + mPl r nB L B l x n b = (bl (fun j => g B (8 * l + j)) (b + n)).countP (ahP r nB L x) := by
  intro n
  induction n with
  | zero => intro b _; rfl
  | succ n ih =>
    intro b hb
    have h := ih (b + 1) (by omega)
    have e : b + 1 + n = b + (n + 1) := by omega
    rw [e] at h
    rw [← h, mPl_s, bl_s]
    by_cases c : g B (8 * l + b) < nI 0
    · rw [if_pos c, cif_f (fun z => z.1 c)]; omega
    · rcases hB b (by omega) with z | ⟨y, y1, y2⟩
      · exact absurd (by rw [z]; decide) c
      · rw [if_neg c, List.countP_append, List.countP_singleton]
        have key : mAb r nB L B l x b ↔ ahP r nB L x (g B (8 * l + b)).toNatClampNeg = true := by
          rw [ahP_t]
          unfold mAb
          rw [y2, nI_clamp (by omega), nI_eq' (by omega) (by omega)]
          exact ⟨fun w => ⟨w.2.1, w.2.2⟩, fun w => ⟨by rw [nI_nlt0 (by omega)]; exact id, w.1, w.2⟩⟩
        by_cases d : mAb r nB L B l x b
        · rw [cif_t d, if_pos (key.mp d)]; omega
        · rw [cif_f d, if_neg (fun w => d (key.mpr w))]; omega
theorem mPl_bl (hn : nx ≤ 60) (hB : ∀ b, b < 8 → isB (g B (8 * l + b)) nx) {x : Nat} (hx : x < nx) : mPl r nB L B l x 8 0 = (bl (fun j => g B (8 * l + j)) 8).countP (ahP r nB L x) := by
  have h := bl_pl (r := r) (nB := nB) (L := L) hn hB hx 8 0 (by omega)
  have e : (bl (fun j => g B (8 * l + j)) 0).countP (ahP r nB L x) = 0 := rfl
  rw [e, Nat.zero_add, Nat.zero_add] at h
  exact h
theorem mMn_bl : mMn B l 8 0 = (bl (fun j => g B (8 * l + j)) 8).length := by
  have h := bl_mn B l 8 0
  have e : (bl (fun j => g B (8 * l + j)) 0).length = 0 := rfl
  rw [e, Nat.zero_add, Nat.zero_add] at h
  exact h
theorem mRk_none {p : Int32} : ∀ n b, (∀ j, b ≤ j → j < b + n → ¬ g B (8 * l + j) < nI 0 → ¬ nI (mPl r nB L B l (g B (8 * l + j)).toNatClampNeg 8 0) = p) → mRk r nB L B l p n b = -nI 5 := by
  intro n
  induction n with
  | zero => intro b _; rfl
  | succ n ih =>
    intro b h
    rw [mRk_s, cif_f (fun z => h b (Nat.le_refl _) (by omega) z.1 z.2)]
    exact ih (b + 1) (fun j h1 h2 => h j (by omega) (by omega))
theorem mRk_at {p v : Int32} : ∀ n b, (∀ j, b ≤ j → j < b + n → ¬ g B (8 * l + j) < nI 0 → nI (mPl r nB L B l (g B (8 * l + j)).toNatClampNeg 8 0) = p → g B (8 * l + j) = v) → (∃ j, b ≤ j ∧ j < b + n ∧ ¬ g B (8 * l + j) < nI 0 ∧ nI (mPl r nB L B l (g B (8 * l + j)).toNatClampNeg 8 0) = p) → mRk r nB L B l p n b = v := by
  intro n
  induction n with
  | zero => intro b _ ⟨j, h1, h2, _⟩; omega
  | succ n ih =>
    intro b h ⟨j, h1, h2, h3, h4⟩
    rw [mRk_s]
    by_cases c : ¬ g B (8 * l + b) < nI 0 ∧ nI (mPl r nB L B l (g B (8 * l + b)).toNatClampNeg 8 0) = p
    · rw [cif_t c]
      exact h b (Nat.le_refl _) (by omega) c.1 c.2
    · rw [cif_f c]
      refine ih (b + 1) (fun j h1 h2 => h j (by omega) (by omega)) ⟨j, ?_, by omega, h3, h4⟩
      rcases Nat.eq_or_lt_of_le h1 with z | z
      · subst z; exact absurd ⟨h3, h4⟩ c
      · exact z
/-- the reference's ranks, by a row of bests that is in order -/
theorem mRk_od {O : List Nat} (hn : nx ≤ 60) (hB : ∀ b, b < 8 → isB (g B (8 * l + b)) nx) (hO : O.Perm (bl (fun j => g B (8 * l + j)) 8)) (hs : Srt r nB L O) {p : Nat} (hp : p < O.length) : mRk r nB L B l (nI p) 8 0 = nI (od O p) := by
  have h8 : O.length ≤ 8 := by rw [hO.length_eq]; exact bl_le _ 8
  have hv : ∀ j, j < 8 → ¬ g B (8 * l + j) < nI 0 → ∃ y, y < nx ∧ g B (8 * l + j) = nI y ∧ y ∈ O := by
    intro j hj hc
    rcases hB j hj with z | ⟨y, y1, y2⟩
    · exact absurd (by rw [z]; decide) hc
    · exact ⟨y, y1, y2, hO.mem_iff.mpr ((bl_mem 8).mpr ⟨j, hj, hc, by rw [y2, nI_clamp (by omega)]⟩)⟩
  have hpl : ∀ i, i < O.length → od O i < nx → mPl r nB L B l (od O i) 8 0 = i := by
    intro i hi hx
    rw [mPl_bl hn hB hx, ← hO.countP_eq, Srt_cnt hs hi]
  refine mRk_at 8 0 (fun j _ hj hc he => ?_) ?_
  · obtain ⟨y, y1, y2, y3⟩ := hv j (by omega) hc
    obtain ⟨i, i1, i2⟩ := mem_od y3
    have e := hpl i i1 (by rw [i2]; exact y1)
    rw [i2] at e
    rw [y2, nI_clamp (by omega), e, nI_eq' (by omega) (by omega)] at he
    rw [y2, ← i2, he]
  · obtain ⟨b, b1, b2, b3⟩ := (bl_mem 8).mp (hO.mem_iff.mp (od_mem hp))
    obtain ⟨y, y1, y2, y3⟩ := hv b b1 b2
    have b3 : (g B (8 * l + b)).toNatClampNeg = od O p := b3
    refine ⟨b, Nat.zero_le _, by omega, b2, ?_⟩
    rw [b3, hpl p hp]
    rw [← b3, y2, nI_clamp (by omega)]
    exact y1
/-- beyond the bids that count there is none -/
theorem mRk_far (hn : nx ≤ 60) (hB : ∀ b, b < 8 → isB (g B (8 * l + b)) nx) {p : Int32} (hp : ∀ k, k < mMn B l 8 0 → ¬ nI k = p) : mRk r nB L B l p 8 0 = -nI 5 := by
  refine mRk_none 8 0 (fun j _ hj hc => ?_)
  rcases hB j (by omega) with z | ⟨y, y1, y2⟩
  · exact absurd (by rw [z]; decide) hc
  · rw [y2, nI_clamp (by omega)]
    refine hp _ ?_
    rw [mMn_bl, mPl_bl hn hB y1]
    have hy : y ∈ bl (fun j => g B (8 * l + j)) 8 := (bl_mem 8).mpr ⟨j, by omega, hc, by show (g B (8 * l + j)).toNatClampNeg = y; rw [y2, nI_clamp (by omega)]⟩
    have hle := List.countP_le_length (p := ahP r nB L y) (l := bl (fun j => g B (8 * l + j)) 8)
    rcases Nat.eq_or_lt_of_le hle with z | z
    · exact absurd rfl (ahP_t.mp (List.countP_eq_length.mp z y hy)).1
    · exact z
end O
section X
variable {A : Nat → List Int32} {F : Nat → Int32} {P : Nat → Nat} {r : List Int32} {nB nl nb nx : Nat} {L : List Int32}
theorem cs_before (hC : Cx A F r nB nl nb nx) (hW : LenW A) {x y : Nat} (hx : x < nx) (hy : y < nx) (w1 : g (A 178) x = mWo r nB L x) (w2 : g (A 178) y = mWo r nB L y) : am_cl m_Sale_goesBefore [.ref 164, .int (nI x), .int (nI y)] (heap A F P) = some (some (.int (b01 (mAh r nB L x y))), heap A F P) := by
  obtain ⟨hM, hB, ⟨n1, n2, n3, n4⟩, l1, hCL, hCM, hCX, hCS, hS0, hS1, hS2, hS3⟩ := id hC
  obtain ⟨c5, c7, c10, c12, c14, c16, c18, c21, c23, c25, c27, c29, c31, c33⟩ := LenS2 l1
  have hnl : nl ≤ 20 := hM.1.2.2.2.2.2.2.2.1
  have hnb : nb ≤ 8 := hM.1.2.2.2.2.2.2.2.2.1
  have hnx : nx ≤ 60 := hM.1.2.2.2.2.2.2.2.2.2
  have hnB : nB ≤ 8 := hM.1.2.2.2.2.2.2.1
  obtain ⟨w166, w168, w170, w172, w174, w176, w178, w180, w182⟩ := id hW
  have m1 := (hCX x hx).2.2.2.1
  have m2 := (hCX y hy).2.2.2.1
  rw [e_Sale_goesBefore 164 _ _ _ rfl]
  simp (maxSteps := 2000000) (disch := (first | omega | (simp (disch := omega) only [up_eq, up_ne, cpA_o, cpF_o, List.length_set] <;> omega) | fail)) only [ob_s, am_bi_s, am_bv_s, am_bl_s, ↓bif_d, lits, nI_addS, nI_mulS, nI_subS, nI_lt', nI_le', nI_eq', ↓rd_nI, ↓wrH, up_eq, up_ne, up_up, up_sw, List.set_set, g_seq, g_sne, Nat.reduceEqDiff, ↓reduceIte, List.length_set, Nat.add_sub_cancel_left, Nat.add_sub_cancel, ite_true, ite_false, if_true, if_false, not_true_eq_false, not_false_eq_true, Bool.and_true, Bool.true_and, true_or, or_true, false_or, or_false, and_true, true_and, and_false, false_and, Nat.not_lt_zero, hpRX, hpIX, hpFX, hpLX, hpSX, ↓rgX, ↓rpX, Nat.reduceLeDiff, Nat.reduceLT, Nat.reduceAdd, Nat.reduceMul, Nat.reduceSub, w1, w2, m1, m2]
  by_cases c1 : mWo r nB L x = mWo r nB L y
  · by_cases c2 : g r (288 + x) = g r (288 + y)
    · by_cases c3 : x < y
      · rw [b01_t (p := mAh r nB L x y) (by unfold mAh; rw [if_pos c1, if_pos c2]; exact c3), if_pos c1, if_pos c2, if_neg (by omega)]
      · rw [b01_f (p := mAh r nB L x y) (by unfold mAh; rw [if_pos c1, if_pos c2]; exact c3), if_pos c1, if_pos c2, if_pos (by omega)]
    · by_cases c3 : g r (288 + x) < g r (288 + y)
      · rw [b01_t (p := mAh r nB L x y) (by unfold mAh; rw [if_pos c1, if_neg c2]; exact c3), if_pos c1, if_neg c2, if_neg (Int32.not_le.mpr c3)]
      · rw [b01_f (p := mAh r nB L x y) (by unfold mAh; rw [if_pos c1, if_neg c2]; exact c3), if_pos c1, if_neg c2, if_pos (Int32.not_lt.mp c3)]
  · by_cases c3 : mWo r nB L y < mWo r nB L x
    · rw [b01_t (p := mAh r nB L x y) (by unfold mAh; rw [if_neg c1]; exact c3), if_neg c1, if_neg (Int32.not_le.mpr c3)]
    · rw [b01_f (p := mAh r nB L x y) (by unfold mAh; rw [if_neg c1]; exact c3), if_neg c1, if_pos (Int32.not_lt.mp c3)]
theorem lc_ins15 (hC : Cx A F r nB nl nb nx) (hW : LenW A) {x k : Nat} (hx : x < nx) (hk : k < nl) {O : List Nat} (h8 : O.length < 8) (hOx : ∀ y, y ∈ O → y < nx ∧ g (A 178) y = mWo r nB L y) (hwx : g (A 178) x = mWo r nB L x) (Or0 : List Int32) :
    ∀ p (Or : List Int32), p ≤ O.length → Or.length = 160 → (∀ j, j < p → g Or (8 * k + j) = nI (od O j)) → (∀ j, p ≤ j → j < O.length → g Or (8 * k + (j + 1)) = nI (od O j)) → (∀ j, p ≤ j → j < O.length → mAh r nB L x (od O j)) → (∀ j, j < 8 * k ∨ 8 * k + 8 ≤ j → g Or j = g Or0 j) →
    ∃ p' Or', p' ≤ O.length ∧ Or'.length = 160 ∧ (∀ j, j < p' → g Or' (8 * k + j) = nI (od O j)) ∧ (∀ j, p' ≤ j → j < O.length → g Or' (8 * k + (j + 1)) = nI (od O j)) ∧ (∀ j, p' ≤ j → j < O.length → mAh r nB L x (od O j)) ∧ (∀ j, j < 8 * k ∨ 8 * k + 8 ≤ j → g Or' j = g Or0 j) ∧ (∀ j, j + 1 = p' → ¬ mAh r nB L x (od O j)) ∧ am_ev m_Sale_insert (15, [.ref 164, .int (nI k), .int (nI x), .int (nI p), .int (nI (8 * k))], [], heap (up A 176 Or) F P) = am_ev m_Sale_insert (70, [.ref 164, .int (nI k), .int (nI x), .int (nI p'), .int (nI (8 * k))], [], heap (up A 176 Or') F P) := by
  classical
  obtain ⟨hM, hB, ⟨n1, n2, n3, n4⟩, l1, hCL, hCM, hCX, hCS, hS0, hS1, hS2, hS3⟩ := id hC
  obtain ⟨c5, c7, c10, c12, c14, c16, c18, c21, c23, c25, c27, c29, c31, c33⟩ := LenS2 l1
  have hnl : nl ≤ 20 := hM.1.2.2.2.2.2.2.2.1
  have hnb : nb ≤ 8 := hM.1.2.2.2.2.2.2.2.2.1
  have hnx : nx ≤ 60 := hM.1.2.2.2.2.2.2.2.2.2
  have hnB : nB ≤ 8 := hM.1.2.2.2.2.2.2.1
  obtain ⟨w166, w168, w170, w172, w174, w176, w178, w180, w182⟩ := id hW
  intro p
  induction p with
  | zero =>
    intro Or hp hOr i1 i2 i3 i4
    refine ⟨0, Or, hp, hOr, i1, i2, i3, i4, fun j hj => by omega, ?_⟩
    rw [b_Sale_insert_15]
    simp (maxSteps := 2000000) (disch := (first | omega | (simp (disch := omega) only [up_eq, up_ne, cpA_o, cpF_o, List.length_set] <;> omega) | fail)) only [ob_s, am_bi_s, am_bv_s, am_bl_s, ↓bif_d, lits, nI_addS, nI_mulS, nI_subS, nI_lt', nI_le', nI_eq', ↓rd_nI, ↓wrH, up_eq, up_ne, up_up, up_sw, List.set_set, g_seq, g_sne, Nat.reduceEqDiff, ↓reduceIte, List.length_set, Nat.add_sub_cancel_left, Nat.add_sub_cancel, ite_true, ite_false, if_true, if_false, not_true_eq_false, not_false_eq_true, Bool.and_true, Bool.true_and, true_or, or_true, false_or, or_false, and_true, true_and, and_false, false_and, Nat.not_lt_zero, hpRX, hpIX, hpFX, hpLX, hpSX, ↓rgX, ↓rpX, Nat.reduceLeDiff, Nat.reduceLT, Nat.reduceAdd, Nat.reduceMul, Nat.reduceSub, Nat.le_refl]
  | succ p ih =>
    intro Or hp hOr i1 i2 i3 i4
    have hle : ¬ p + 1 ≤ 0 := by omega
    have eix : 8 * k + (p + 1) - 1 = 8 * k + p := by omega
    have eg := i1 p (by omega)
    obtain ⟨o1, o2⟩ := hOx _ (od_mem (show p < O.length by omega))
    have hgb : am_cl m_Sale_goesBefore [.ref 164, .int (nI x), .int (nI (od O p))] (heap (up A 176 Or) F P) = some (some (.int (b01 (mAh r nB L x (od O p)))), heap (up A 176 Or) F P) :=
      cs_before (A := up A 176 Or) (Cx_c (fun j hj => up_ne _ _ (by omega)) (fun _ _ => rfl) hC) (by unfold LenW; simp (disch := (first | omega | fail)) only [st_e, sf_e, Nat.reduceAdd, Nat.reduceMul, up_eq, up_ne, cpA_o, cpF_o]; exact ⟨w166, w168, w170, w172, w174, hOr, w178, w180, w182⟩) hx o1 (by simp (disch := (first | omega | fail)) only [st_e, sf_e, Nat.reduceAdd, Nat.reduceMul, up_eq, up_ne, cpA_o, cpF_o]; exact hwx) (by simp (disch := (first | omega | fail)) only [st_e, sf_e, Nat.reduceAdd, Nat.reduceMul, up_eq, up_ne, cpA_o, cpF_o]; exact o2)
    by_cases ha : mAh r nB L x (od O p)
    · obtain ⟨p', Or', q1, q2, q3, q4, q5, q6, q7, q8⟩ := ih (Or.set (8 * k + (p + 1)) (nI (od O p))) (by omega) (by rw [List.length_set]; exact hOr) (fun j hj => by rw [g_sne (by omega) (by omega)]; exact i1 j (by omega)) (fun j z1 z2 => by
        by_cases c : j = p
        · subst c; exact g_seq (by omega)
        · rw [g_sne (by omega) (by omega)]; exact i2 j (by omega) z2) (fun j z1 z2 => by
        by_cases c : j = p
        · subst c; exact ha
        · exact i3 j (by omega) z2) (fun j hj => by rw [g_sne (by omega) (by omega)]; exact i4 j hj)
      refine ⟨p', Or', q1, q2, q3, q4, q5, q6, q7, ?_⟩
      have hm1 : nI (p + 1) + (-(nI 1)) = nI p := by
        have : nI (p + 1) + (-(nI 1)) = nI (p + 1) - nI 1 := (Int32.sub_eq_add_neg (nI (p + 1)) (nI 1)).symm
        rw [this, nI_subS (by omega), Nat.add_sub_cancel]
      rw [b_Sale_insert_15]
      simp (maxSteps := 2000000) (disch := (first | omega | (simp (disch := omega) only [up_eq, up_ne, cpA_o, cpF_o, List.length_set] <;> omega) | fail)) only [ob_s, am_bi_s, am_bv_s, am_bl_s, ↓bif_d, lits, nI_addS, nI_mulS, nI_subS, nI_lt', nI_le', nI_eq', ↓rd_nI, ↓wrH, up_eq, up_ne, up_up, up_sw, List.set_set, g_seq, g_sne, Nat.reduceEqDiff, ↓reduceIte, List.length_set, Nat.add_sub_cancel_left, Nat.add_sub_cancel, ite_true, ite_false, if_true, if_false, not_true_eq_false, not_false_eq_true, Bool.and_true, Bool.true_and, true_or, or_true, false_or, or_false, and_true, true_and, and_false, false_and, Nat.not_lt_zero, hpRX, hpIX, hpFX, hpLX, hpSX, ↓rgX, ↓rpX, Nat.reduceLeDiff, Nat.reduceLT, Nat.reduceAdd, Nat.reduceMul, Nat.reduceSub, hle, eix, eg, hgb, b01_0, ha, hm1, q8]
    · refine ⟨p + 1, Or, hp, hOr, i1, i2, i3, i4, fun j hj => ?_, ?_⟩
      · have : j = p := by omega
        rw [this]; exact ha
      · rw [b_Sale_insert_15]
        simp (maxSteps := 2000000) (disch := (first | omega | (simp (disch := omega) only [up_eq, up_ne, cpA_o, cpF_o, List.length_set] <;> omega) | fail)) only [ob_s, am_bi_s, am_bv_s, am_bl_s, ↓bif_d, lits, nI_addS, nI_mulS, nI_subS, nI_lt', nI_le', nI_eq', ↓rd_nI, ↓wrH, up_eq, up_ne, up_up, up_sw, List.set_set, g_seq, g_sne, Nat.reduceEqDiff, ↓reduceIte, List.length_set, Nat.add_sub_cancel_left, Nat.add_sub_cancel, ite_true, ite_false, if_true, if_false, not_true_eq_false, not_false_eq_true, Bool.and_true, Bool.true_and, true_or, or_true, false_or, or_false, and_true, true_and, and_false, false_and, Nat.not_lt_zero, hpRX, hpIX, hpFX, hpLX, hpSX, ↓rgX, ↓rpX, Nat.reduceLeDiff, Nat.reduceLT, Nat.reduceAdd, Nat.reduceMul, Nat.reduceSub, hle, eix, eg, hgb, b01_0, ha]
theorem cs_insert (hC : Cx A F r nB nl nb nx) (hW : LenW A) {x k : Nat} (hx : x < nx) (hk : k < nl) {O : List Nat} (h8 : O.length < 8) (hO : ∀ j, j < O.length → g (A 176) (8 * k + j) = nI (od O j)) (hcnt : g (A 172) k = nI O.length) (hOx : ∀ y, y ∈ O → y < nx ∧ g (A 178) y = mWo r nB L y) (hne : ∀ y, y ∈ O → ¬ x = y) (hwx : g (A 178) x = mWo r nB L x) (hs : Srt r nB L O) :
    ∃ Or' O', O'.Perm (x :: O) ∧ Srt r nB L O' ∧ Or'.length = 160 ∧ (∀ j, j < O'.length → g Or' (8 * k + j) = nI (od O' j)) ∧ (∀ j, j < 8 * k ∨ 8 * k + 8 ≤ j → g Or' j = g (A 176) j) ∧ am_cl m_Sale_insert [.ref 164, .int (nI k), .int (nI x)] (heap A F P) = some (none, heap (up (up A 172 ((A 172).set k (nI (O.length + 1)))) 176 Or') F P) := by
  have hl15 := lc_ins15 (P := P) hC hW hx hk h8 hOx hwx (A 176) O.length (A 176) (Nat.le_refl _)
  obtain ⟨hM, hB, ⟨n1, n2, n3, n4⟩, l1, hCL, hCM, hCX, hCS, hS0, hS1, hS2, hS3⟩ := id hC
  obtain ⟨c5, c7, c10, c12, c14, c16, c18, c21, c23, c25, c27, c29, c31, c33⟩ := LenS2 l1
  have hnl : nl ≤ 20 := hM.1.2.2.2.2.2.2.2.1
  have hnb : nb ≤ 8 := hM.1.2.2.2.2.2.2.2.2.1
  have hnx : nx ≤ 60 := hM.1.2.2.2.2.2.2.2.2.2
  have hnB : nB ≤ 8 := hM.1.2.2.2.2.2.2.1
  obtain ⟨w166, w168, w170, w172, w174, w176, w178, w180, w182⟩ := id hW
  obtain ⟨p, Or, q1, q2, q3, q4, q5, q6, q7, q8⟩ := hl15 w176 hO (fun j z1 z2 => by omega) (fun j z1 z2 => by omega) (fun j _ => rfl)
  rw [up_id] at q8
  have hlen : (O.take p ++ x :: O.drop p).length = O.length + 1 := by
    rw [List.length_append, List.length_cons, List.length_take, List.length_drop]; omega
  have hlow : ∀ i, i < p → mAh r nB L (od O i) x := by
    intro i hi
    have hlast : mAh r nB L (od O (p - 1)) x := mAh_to (hne _ (od_mem (by omega))) (q7 (p - 1) (by omega))
    rcases Nat.eq_or_lt_of_le (show i ≤ p - 1 by omega) with z | z
    · rw [z]; exact hlast
    · exact mAh_tr (hs i (p - 1) z (by omega)) hlast
  refine ⟨Or.set (8 * k + p) (nI x), O.take p ++ x :: O.drop p, ?_, fun i j hij hj => ?_, by rw [List.length_set]; exact q2, fun j hj => ?_, fun j hj => ?_, ?_⟩
  · have h1 := List.perm_middle (a := x) (l₁ := O.take p) (l₂ := O.drop p)
    rw [List.take_append_drop] at h1
    exact h1
  · rw [hlen] at hj
    rw [od_ins O x q1, od_ins O x q1]
    by_cases c1 : i < p
    · rw [if_pos c1]
      by_cases c2 : j < p
      · rw [if_pos c2]; exact hs i j hij (by omega)
      · rw [if_neg c2]
        by_cases c3 : j = p
        · rw [if_pos c3]; exact hlow i c1
        · rw [if_neg c3]; exact hs i (j - 1) (by omega) (by omega)
    · rw [if_neg c1, if_neg (show ¬ j < p by omega), if_neg (show ¬ j = p by omega)]
      by_cases c3 : i = p
      · rw [if_pos c3]; exact q5 (j - 1) (by omega) (by omega)
      · rw [if_neg c3]; exact hs (i - 1) (j - 1) (by omega) (by omega)
  · rw [hlen] at hj
    rw [od_ins O x q1]
    by_cases c1 : j < p
    · rw [if_pos c1, g_sne (by omega) (by omega)]; exact q3 j c1
    · rw [if_neg c1]
      by_cases c2 : j = p
      · rw [if_pos c2, c2, g_seq (by omega)]
      · rw [if_neg c2, g_sne (by omega) (by omega)]
        have := q4 (j - 1) (by omega) (by omega)
        have e : j - 1 + 1 = j := by omega
        rw [e] at this
        exact this
  · rw [g_sne (by omega) (by omega)]; exact q6 j hj
  · have hk8 : k * 8 = 8 * k := Nat.mul_comm _ _
    rw [e_Sale_insert 164 _ _ _ rfl]
    simp (maxSteps := 2000000) (disch := (first | omega | (simp (disch := omega) only [up_eq, up_ne, cpA_o, cpF_o, List.length_set] <;> omega) | fail)) only [ob_s, am_bi_s, am_bv_s, am_bl_s, ↓bif_d, lits, nI_addS, nI_mulS, nI_subS, nI_lt', nI_le', nI_eq', ↓rd_nI, ↓wrH, up_eq, up_ne, up_up, up_sw, List.set_set, g_seq, g_sne, Nat.reduceEqDiff, ↓reduceIte, List.length_set, Nat.add_sub_cancel_left, Nat.add_sub_cancel, ite_true, ite_false, if_true, if_false, not_true_eq_false, not_false_eq_true, Bool.and_true, Bool.true_and, true_or, or_true, false_or, or_false, and_true, true_and, and_false, false_and, Nat.not_lt_zero, hpRX, hpIX, hpFX, hpLX, hpSX, ↓rgX, ↓rpX, Nat.reduceLeDiff, Nat.reduceLT, Nat.reduceAdd, Nat.reduceMul, Nat.reduceSub, hcnt, hk8]
    rw [q8, b_Sale_insert_70]
    simp (maxSteps := 2000000) (disch := (first | omega | (simp (disch := omega) only [up_eq, up_ne, cpA_o, cpF_o, List.length_set] <;> omega) | fail)) only [ob_s, am_bi_s, am_bv_s, am_bl_s, ↓bif_d, lits, nI_addS, nI_mulS, nI_subS, nI_lt', nI_le', nI_eq', ↓rd_nI, ↓wrH, up_eq, up_ne, up_up, up_sw, List.set_set, g_seq, g_sne, Nat.reduceEqDiff, ↓reduceIte, List.length_set, Nat.add_sub_cancel_left, Nat.add_sub_cancel, ite_true, ite_false, if_true, if_false, not_true_eq_false, not_false_eq_true, Bool.and_true, Bool.true_and, true_or, or_true, false_or, or_false, and_true, true_and, and_false, false_and, Nat.not_lt_zero, hpRX, hpIX, hpFX, hpLX, hpSX, ↓rgX, ↓rpX, Nat.reduceLeDiff, Nat.reduceLT, Nat.reduceAdd, Nat.reduceMul, Nat.reduceSub, hcnt]
/-- the first b bidders' bests are in order -/
def OI (r : List Int32) (nB : Nat) (L : List Int32) (k : Nat) (A0 A : Nat → List Int32) (b : Nat) (O : List Nat) : Prop :=
  (∀ j, j ≠ 172 → j ≠ 176 → A j = A0 j) ∧ LenW A ∧ O.Perm (bl (fun j => g (A0 182) j) b) ∧ Srt r nB L O ∧ g (A 172) k = nI O.length ∧ (∀ j, j < O.length → g (A 176) (8 * k + j) = nI (od O j)) ∧ (∀ j, j < 8 * k ∨ 8 * k + 8 ≤ j → g (A 176) j = g (A0 176) j) ∧ (∀ l, l ≠ k → g (A 172) l = g (A0 172) l)
theorem lc_ob11 {A0 : Nat → List Int32} {k : Nat} (hC0 : Cx A0 F r nB nl nb nx) (hk : k < nl) (hBe : ∀ b, b < nb → g (A0 182) b = -nI 5 ∨ ∃ y, y < nx ∧ g (A0 182) b = nI y ∧ byN r y = b ∧ g (A0 178) y = mWo r nB L y) : ∀ n b (A : Nat → List Int32) (O : List Nat) (u : Value), b + n = nb → OI r nB L k A0 A b O → ∃ A' O', OI r nB L k A0 A' nb O' ∧ am_ev m_Sale_orderBids (11, [.ref 164, .int (nI k), .int (nI b), u], [], heap A F P) = some (none, heap A' F P) := by
  intro n
  induction n with
  | zero =>
    intro b A O u hb hO
    have hC : Cx A F r nB nl nb nx := Cx_c (fun j hj => hO.1 j (by omega) (by omega)) (fun _ _ => rfl) hC0
    obtain ⟨hM, hB, ⟨n1, n2, n3, n4⟩, l1, hCL, hCM, hCX, hCS, hS0, hS1, hS2, hS3⟩ := id hC
    obtain ⟨c5, c7, c10, c12, c14, c16, c18, c21, c23, c25, c27, c29, c31, c33⟩ := LenS2 l1
    have hnl : nl ≤ 20 := hM.1.2.2.2.2.2.2.2.1
    have hnb : nb ≤ 8 := hM.1.2.2.2.2.2.2.2.2.1
    have hnx : nx ≤ 60 := hM.1.2.2.2.2.2.2.2.2.2
    have hnB : nB ≤ 8 := hM.1.2.2.2.2.2.2.1
    have e : b = nb := by omega
    subst e
    have hle : b ≤ b := Nat.le_refl _
    refine ⟨A, O, hO, ?_⟩
    rw [b_Sale_orderBids_11]
    simp (maxSteps := 2000000) (disch := (first | omega | (simp (disch := omega) only [up_eq, up_ne, cpA_o, cpF_o, List.length_set] <;> omega) | fail)) only [ob_s, am_bi_s, am_bv_s, am_bl_s, ↓bif_d, lits, nI_addS, nI_mulS, nI_subS, nI_lt', nI_le', nI_eq', ↓rd_nI, ↓wrH, up_eq, up_ne, up_up, up_sw, List.set_set, g_seq, g_sne, Nat.reduceEqDiff, ↓reduceIte, List.length_set, Nat.add_sub_cancel_left, Nat.add_sub_cancel, ite_true, ite_false, if_true, if_false, not_true_eq_false, not_false_eq_true, Bool.and_true, Bool.true_and, true_or, or_true, false_or, or_false, and_true, true_and, and_false, false_and, Nat.not_lt_zero, hpRX, hpIX, hpFX, hpLX, hpSX, ↓rgX, ↓rpX, Nat.reduceLeDiff, Nat.reduceLT, Nat.reduceAdd, Nat.reduceMul, Nat.reduceSub, n3, hle]
  | succ n ih =>
    intro b A O u hb hO
    have hC : Cx A F r nB nl nb nx := Cx_c (fun j hj => hO.1 j (by omega) (by omega)) (fun _ _ => rfl) hC0
    obtain ⟨o1, hW, o3, o4, o5, o6, o7, o8⟩ := id hO
    obtain ⟨hM, hB, ⟨n1, n2, n3, n4⟩, l1, hCL, hCM, hCX, hCS, hS0, hS1, hS2, hS3⟩ := id hC
    obtain ⟨c5, c7, c10, c12, c14, c16, c18, c21, c23, c25, c27, c29, c31, c33⟩ := LenS2 l1
    have hnl : nl ≤ 20 := hM.1.2.2.2.2.2.2.2.1
    have hnb : nb ≤ 8 := hM.1.2.2.2.2.2.2.2.2.1
    have hnx : nx ≤ 60 := hM.1.2.2.2.2.2.2.2.2.2
    have hnB : nB ≤ 8 := hM.1.2.2.2.2.2.2.1
    obtain ⟨w166, w168, w170, w172, w174, w176, w178, w180, w182⟩ := id hW
    have hle : ¬ nb ≤ b := by omega
    have e182 : A 182 = A0 182 := o1 182 (by omega) (by omega)
    have e178 : A 178 = A0 178 := o1 178 (by omega) (by omega)
    have hlen : O.length ≤ b := by rw [o3.length_eq]; exact bl_le _ b
    rcases hBe b (by omega) with z | ⟨y, y1, y2, y3, y4⟩
    · have hO' : OI r nB L k A0 A (b + 1) O := by
        refine ⟨o1, hW, ?_, o4, o5, o6, o7, o8⟩
        rw [bl_s, if_pos (by rw [z]; decide)]
        exact o3
      have eb : g (A 182) b = -nI 5 := by rw [e182]; exact z
      obtain ⟨A', O', h1, h2⟩ := ih (b + 1) A O (.int (-nI 5)) (by omega) hO'
      refine ⟨A', O', h1, ?_⟩
      rw [b_Sale_orderBids_11]
      simp (maxSteps := 2000000) (disch := (first | omega | (simp (disch := omega) only [up_eq, up_ne, cpA_o, cpF_o, List.length_set] <;> omega) | fail)) only [ob_s, am_bi_s, am_bv_s, am_bl_s, ↓bif_d, lits, nI_addS, nI_mulS, nI_subS, nI_lt', nI_le', nI_eq', ↓rd_nI, ↓wrH, up_eq, up_ne, up_up, up_sw, List.set_set, g_seq, g_sne, Nat.reduceEqDiff, ↓reduceIte, List.length_set, Nat.add_sub_cancel_left, Nat.add_sub_cancel, ite_true, ite_false, if_true, if_false, not_true_eq_false, not_false_eq_true, Bool.and_true, Bool.true_and, true_or, or_true, false_or, or_false, and_true, true_and, and_false, false_and, Nat.not_lt_zero, hpRX, hpIX, hpFX, hpLX, hpSX, ↓rgX, ↓rpX, Nat.reduceLeDiff, Nat.reduceLT, Nat.reduceAdd, Nat.reduceMul, Nat.reduceSub, n3, hle, eb, h2]
    · have eb : g (A 182) b = nI y := by rw [e182]; exact y2
      have h5 : ¬ nI y = -nI 5 := nI_nm5 (by omega)
      have hmem : ∀ v, v ∈ O → ∃ j, j < b ∧ g (A0 182) j = nI v ∧ v < nx ∧ byN r v = j ∧ g (A0 178) v = mWo r nB L v := by
        intro v hv
        obtain ⟨j, j1, j2, j3⟩ := (bl_mem b).mp (o3.mem_iff.mp hv)
        rcases hBe j (by omega) with z | ⟨w, w1, w2, w3, w4⟩
        · exact absurd (by show g (A0 182) j < nI 0; rw [z]; decide) j2
        · have j3 : (g (A0 182) j).toNatClampNeg = v := j3
          rw [w2, nI_clamp (by omega)] at j3
          subst j3
          exact ⟨j, j1, w2, w1, w3, w4⟩
      obtain ⟨Or', O', p1, p2, p3, p4, p5, p6⟩ := cs_insert (P := P) hC hW (x := y) (k := k) (O := O) y1 hk (by omega) o6 o5 (fun v hv => by
          obtain ⟨j, j1, j2, j3, j4, j5⟩ := hmem v hv
          exact ⟨j3, by rw [e178]; exact j5⟩) (fun v hv => by
          obtain ⟨j, j1, j2, j3, j4, j5⟩ := hmem v hv
          intro w
          rw [← w, y3] at j4
          omega) (by rw [e178]; exact y4) o4
      have hl' : O'.length = O.length + 1 := by rw [p1.length_eq, List.length_cons]
      have hO' : OI r nB L k A0 (up (up A 172 ((A 172).set k (nI (O.length + 1)))) 176 Or') (b + 1) O' := by
        refine ⟨fun j z1 z2 => by rw [up_ne _ _ z2, up_ne _ _ z1]; exact o1 j z1 z2, ?_, ?_, p2, ?_, ?_, ?_, ?_⟩
        · unfold LenW; simp (disch := (first | omega | (simp (disch := omega) only [up_eq, up_ne, cpA_o, List.length_set] <;> omega) | fail)) only [st_e, sf_e, Nat.reduceAdd, Nat.reduceMul, up_eq, up_ne, cpA_o, cpF_o, g_seq, g_sne, List.length_set]; exact ⟨w166, w168, w170, w172, w174, p3, w178, w180, w182⟩
        · have hy0 : ¬ g (A0 182) b < nI 0 := by rw [y2]; exact nI_pos (by omega)
          rw [bl_s, if_neg hy0, y2, nI_clamp (by omega)]
          exact p1.trans ((List.Perm.cons y o3).trans (List.perm_append_singleton _ _).symm)
        · simp (disch := (first | omega | (simp (disch := omega) only [up_eq, up_ne, cpA_o, List.length_set] <;> omega) | fail)) only [st_e, sf_e, Nat.reduceAdd, Nat.reduceMul, up_eq, up_ne, cpA_o, cpF_o, g_seq, g_sne, List.length_set]
          rw [hl']
        · simp (disch := (first | omega | fail)) only [st_e, sf_e, Nat.reduceAdd, Nat.reduceMul, up_eq, up_ne, cpA_o, cpF_o]; exact p4
        · simp (disch := (first | omega | fail)) only [st_e, sf_e, Nat.reduceAdd, Nat.reduceMul, up_eq, up_ne, cpA_o, cpF_o]
          intro j hj
          rw [p5 j hj]; exact o7 j hj
        · simp (disch := (first | omega | fail)) only [st_e, sf_e, Nat.reduceAdd, Nat.reduceMul, up_eq, up_ne, cpA_o, cpF_o]
          intro l hl
          rw [g_sne (by omega) hl]; exact o8 l hl
      obtain ⟨A', O2, h1, h2⟩ := ih (b + 1) _ O' (.int (nI y)) (by omega) hO'
      refine ⟨A', O2, h1, ?_⟩
      rw [b_Sale_orderBids_11]
      simp (maxSteps := 2000000) (disch := (first | omega | (simp (disch := omega) only [up_eq, up_ne, cpA_o, cpF_o, List.length_set] <;> omega) | fail)) only [ob_s, am_bi_s, am_bv_s, am_bl_s, ↓bif_d, lits, nI_addS, nI_mulS, nI_subS, nI_lt', nI_le', nI_eq', ↓rd_nI, ↓wrH, up_eq, up_ne, up_up, up_sw, List.set_set, g_seq, g_sne, Nat.reduceEqDiff, ↓reduceIte, List.length_set, Nat.add_sub_cancel_left, Nat.add_sub_cancel, ite_true, ite_false, if_true, if_false, not_true_eq_false, not_false_eq_true, Bool.and_true, Bool.true_and, true_or, or_true, false_or, or_false, and_true, true_and, and_false, false_and, Nat.not_lt_zero, hpRX, hpIX, hpFX, hpLX, hpSX, ↓rgX, ↓rpX, Nat.reduceLeDiff, Nat.reduceLT, Nat.reduceAdd, Nat.reduceMul, Nat.reduceSub, n3, hle, eb, h5, p6, h2]
theorem cs_orderBids {k : Nat} (hC : Cx A F r nB nl nb nx) (hW : LenW A) (hk : k < nl) (hBe : ∀ b, b < nb → g (A 182) b = -nI 5 ∨ ∃ y, y < nx ∧ g (A 182) b = nI y ∧ byN r y = b ∧ g (A 178) y = mWo r nB L y) : ∃ A' O, OI r nB L k A A' nb O ∧ am_cl m_Sale_orderBids [.ref 164, .int (nI k)] (heap A F P) = some (none, heap A' F P) := by
  have h11 := lc_ob11 (P := P) hC hk hBe nb 0 (up A 172 ((A 172).set k (nI 0))) [] (.float 0) (by omega)
  obtain ⟨hM, hB, ⟨n1, n2, n3, n4⟩, l1, hCL, hCM, hCX, hCS, hS0, hS1, hS2, hS3⟩ := id hC
  obtain ⟨c5, c7, c10, c12, c14, c16, c18, c21, c23, c25, c27, c29, c31, c33⟩ := LenS2 l1
  have hnl : nl ≤ 20 := hM.1.2.2.2.2.2.2.2.1
  have hnb : nb ≤ 8 := hM.1.2.2.2.2.2.2.2.2.1
  have hnx : nx ≤ 60 := hM.1.2.2.2.2.2.2.2.2.2
  have hnB : nB ≤ 8 := hM.1.2.2.2.2.2.2.1
  obtain ⟨w166, w168, w170, w172, w174, w176, w178, w180, w182⟩ := id hW
  obtain ⟨A', O, h1, h2⟩ := h11 ⟨fun j z1 z2 => up_ne _ _ z1, by unfold LenW; simp (disch := (first | omega | (simp (disch := omega) only [up_eq, up_ne, cpA_o, List.length_set] <;> omega) | fail)) only [st_e, sf_e, Nat.reduceAdd, Nat.reduceMul, up_eq, up_ne, cpA_o, cpF_o, g_seq, g_sne, List.length_set]; exact hW, List.Perm.refl _, fun i j z1 z2 => absurd z2 (Nat.not_lt_zero _), by simp (disch := (first | omega | (simp (disch := omega) only [up_eq, up_ne, cpA_o, List.length_set] <;> omega) | fail)) only [st_e, sf_e, Nat.reduceAdd, Nat.reduceMul, up_eq, up_ne, cpA_o, cpF_o, g_seq, g_sne, List.length_set]; rfl, fun j hj => absurd hj (Nat.not_lt_zero _), fun j hj => by simp (disch := (first | omega | fail)) only [st_e, sf_e, Nat.reduceAdd, Nat.reduceMul, up_eq, up_ne, cpA_o, cpF_o], fun l hl => by simp (disch := (first | omega | fail)) only [st_e, sf_e, Nat.reduceAdd, Nat.reduceMul, up_eq, up_ne, cpA_o, cpF_o]; exact g_sne (by omega) hl⟩
  refine ⟨A', O, h1, ?_⟩
  rw [e_Sale_orderBids 164 _ _ rfl]
  simp (maxSteps := 2000000) (disch := (first | omega | (simp (disch := omega) only [up_eq, up_ne, cpA_o, cpF_o, List.length_set] <;> omega) | fail)) only [ob_s, am_bi_s, am_bv_s, am_bl_s, ↓bif_d, lits, nI_addS, nI_mulS, nI_subS, nI_lt', nI_le', nI_eq', ↓rd_nI, ↓wrH, up_eq, up_ne, up_up, up_sw, List.set_set, g_seq, g_sne, Nat.reduceEqDiff, ↓reduceIte, List.length_set, Nat.add_sub_cancel_left, Nat.add_sub_cancel, ite_true, ite_false, if_true, if_false, not_true_eq_false, not_false_eq_true, Bool.and_true, Bool.true_and, true_or, or_true, false_or, or_false, and_true, true_and, and_false, false_and, Nat.not_lt_zero, hpRX, hpIX, hpFX, hpLX, hpSX, ↓rgX, ↓rpX, Nat.reduceLeDiff, Nat.reduceLT, Nat.reduceAdd, Nat.reduceMul, Nat.reduceSub, h2]
end X

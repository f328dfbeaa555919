/-- the reference's arrays behind the lots below k: what each lot brought -/
def SaI (r : List Int32) (nB nl nb nx : Nat) (L B Fi Se Mn Bu Pr : List Int32) (k : Nat) : Prop :=
  (∀ b, b < nb → g L b = g r (99 + b)) ∧
  (∀ l, l < k → ∀ b, b < nb → g L (8 * (l + 1) + b) = g L (8 * l + b) - cif (g Bu l = nI b) (g Pr l) (nI 0)) ∧
  (∀ l, l < k → ∀ b, b < 8 → g B (8 * l + b) = mBs r nB L Bu Fi l b nx) ∧
  (∀ l, l < k → g Fi l = mRk r nB L B l (nI 0) 8 0) ∧
  (∀ l, l < k → g Se l = mRk r nB L B l (nI 1) 8 0) ∧
  (∀ l, l < k → g Mn l = nI (mMn B l 8 0)) ∧
  (∀ l, l < k → g Bu l = cif (mSold r nB L l (g Fi l)) (g r (168 + (g Fi l).toNatClampNeg)) (-nI 5)) ∧
  (∀ l, l < k → g Pr l = cif (mSold r nB L l (g Fi l)) (mPr r nB L l (g Fi l) (g Se l)) (nI 0))
def SaL (L B Fi Se Mn Bu Pr : List Int32) : Prop := L.length = 168 ∧ B.length = 160 ∧ Fi.length = 20 ∧ Se.length = 20 ∧ Mn.length = 20 ∧ Bu.length = 20 ∧ Pr.length = 20
-- what the pure functions rest on
theorem mWo_c {r : List Int32} {nB : Nat} {L L' : List Int32} {x : Nat} (h : g L' (8 * lotN r x + byN r x) = g L (8 * lotN r x + byN r x)) : mWo r nB L' x = mWo r nB L x := by
  unfold mWo; rw [h]
theorem mSv_c {r Bu Bu' Fi Fi' : List Int32} {x : Nat} (h1 : ∀ l, l < lotN r x → g Bu' l = g Bu l) (h2 : ∀ l, l < lotN r x → g Fi' l = g Fi l) : mSv r Bu' Fi' x ↔ mSv r Bu Fi x := by
  unfold mSv mSv1
  constructor
  · rintro ⟨a, l, h3, h4⟩
    exact ⟨a, l, h3, by rw [← h1 l h3, ← h2 l h3]; exact h4⟩
  · rintro ⟨a, l, h3, h4⟩
    exact ⟨a, l, h3, by rw [h1 l h3, h2 l h3]; exact h4⟩
theorem mCo_c {r : List Int32} {nB : Nat} {L L' Bu Bu' Fi Fi' : List Int32} {x : Nat} (h : g L' (8 * lotN r x + byN r x) = g L (8 * lotN r x + byN r x)) (h1 : ∀ l, l < lotN r x → g Bu' l = g Bu l) (h2 : ∀ l, l < lotN r x → g Fi' l = g Fi l) : mCo r nB L' Bu' Fi' x ↔ mCo r nB L Bu Fi x := by
  unfold mCo
  rw [mWo_c h, mSv_c h1 h2]
theorem mBs_c {r : List Int32} {nB nb nx : Nat} {L L' Bu Bu' Fi Fi' : List Int32} {l : Nat} (hn : nx ≤ 60) (hx : ∀ x, x < nx → byN r x < nb) (h : ∀ b, b < nb → g L' (8 * l + b) = g L (8 * l + b)) (h1 : ∀ j, j < l → g Bu' j = g Bu j) (h2 : ∀ j, j < l → g Fi' j = g Fi j) (b : Nat) : ∀ k, k ≤ nx → mBs r nB L' Bu' Fi' l b k = mBs r nB L Bu Fi l b k := by
  intro k
  induction k with
  | zero => intro _; rfl
  | succ k ih =>
    intro hk
    have hi := ih (by omega)
    rw [mBs_s, mBs_s, hi]
    by_cases c : g r (78 + l) = nI 0 ∧ lotN r k = l ∧ byN r k = b
    · obtain ⟨c1, c2, c3⟩ := c
      have hw : mWo r nB L' k = mWo r nB L k := mWo_c (by rw [c2]; exact h _ (hx k (by omega)))
      have hc : mCo r nB L' Bu' Fi' k ↔ mCo r nB L Bu Fi k := mCo_c (by rw [c2]; exact h _ (hx k (by omega))) (by rw [c2]; exact h1) (by rw [c2]; exact h2)
      rw [hw, propext hc]
      rcases mBs_spec r nB L Bu Fi l b k with q | ⟨y, q1, q2, -, q3, q4, -⟩
      · have e : ∀ z : Int32, (mBs r nB L Bu Fi l b k < nI 0 ∨ z < mWo r nB L k) = True := by
          intro z; rw [q]; simp only [eq_iff_iff, iff_true]; exact Or.inl (by decide)
        rw [e, e]
      · have hy : mWo r nB L' (mBs r nB L Bu Fi l b k).toNatClampNeg = mWo r nB L (mBs r nB L Bu Fi l b k).toNatClampNeg := by
          have hyb := hx y (by omega)
          rw [q2]
          rw [nI_clamp (by omega)]
          exact mWo_c (by rw [q3]; exact h _ hyb)
        rw [hy]
    · rw [cif_f (fun z => c ⟨z.1, z.2.1, z.2.2.1⟩), cif_f (fun z => c ⟨z.1, z.2.1, z.2.2.1⟩)]
/-- a bid of lot l, or none -/
def isL (r : List Int32) (nb nx l : Nat) (v : Int32) : Prop := v = -nI 5 ∨ ∃ y, y < nx ∧ v = nI y ∧ lotN r y = l ∧ byN r y < nb
theorem isL.isB {r : List Int32} {nb nx l : Nat} {v : Int32} (h : isL r nb nx l v) : isB v nx := by
  rcases h with h | ⟨y, h1, h2, -⟩
  · exact Or.inl h
  · exact Or.inr ⟨y, h1, h2⟩
theorem mBs_isL {r : List Int32} {nB nl nb nx : Nat} (hM : Mwf r nB nl nb nx) (L Bu Fi : List Int32) (l b : Nat) : isL r nb nx l (mBs r nB L Bu Fi l b nx) := by
  rcases mBs_spec r nB L Bu Fi l b nx with q | ⟨y, q1, q2, -, q3, -⟩
  · exact Or.inl q
  · exact Or.inr ⟨y, q1, q2, q3, (hM.2.2 y q1).2.1⟩
theorem mRk_isL {r : List Int32} {nB : Nat} {L B : List Int32} {l nb nx : Nat} {p : Int32} (hB : ∀ b, b < 8 → isL r nb nx l (g B (8 * l + b))) : ∀ n b, b + n ≤ 8 → isL r nb nx l (mRk r nB L B l p n b) := by
  intro n
  induction n with
  | zero => intro b _; exact Or.inl rfl
  | succ n ih =>
    intro b hb
    rw [mRk_s]
    by_cases q : ¬ g B (8 * l + b) < nI 0 ∧ nI (mPl r nB L B l (g B (8 * l + b)).toNatClampNeg 8 0) = p
    · rw [cif_t q]; exact hB b (by omega)
    · rw [cif_f q]; exact ih (b + 1) (by omega)
section C
variable {r : List Int32} {nB nb nx : Nat} {L L' B B' : List Int32} {l : Nat}
theorem mWo_l {y : Nat} (hL : ∀ b, b < nb → g L' (8 * l + b) = g L (8 * l + b)) (h1 : lotN r y = l) (h2 : byN r y < nb) : mWo r nB L' y = mWo r nB L y := mWo_c (by rw [h1]; exact hL _ h2)
theorem mPl_c (hn : nx ≤ 60) (hL : ∀ b, b < nb → g L' (8 * l + b) = g L (8 * l + b)) (hB : ∀ b, b < 8 → g B' (8 * l + b) = g B (8 * l + b)) (hO : ∀ b, b < 8 → isL r nb nx l (g B (8 * l + b))) {x : Nat} (hx1 : lotN r x = l) (hx2 : byN r x < nb) : ∀ n b, b + n ≤ 8 → mPl r nB L' B' l x n b = mPl r nB L B l x n b := by
  intro n
  induction n with
  | zero => intro b _; rfl
  | succ n ih =>
    intro b hb
    rw [mPl_s, mPl_s, ih (b + 1) (by omega)]
    have e : mAb r nB L' B' l x b ↔ mAb r nB L B l x b := by
      unfold mAb
      rw [hB b (by omega)]
      rcases hO b (by omega) with q | ⟨y, q1, q2, q3, q4⟩
      · have : (-nI 5 : Int32) < nI 0 := by decide
        rw [q]
        simp only [this, not_true_eq_false, false_and]
      · have e1 : mAh r nB L' y x ↔ mAh r nB L y x := by
          unfold mAh
          rw [mWo_l hL q3 q4, mWo_l hL hx1 hx2]
        rw [q2, nI_clamp (by omega), e1]
    rw [propext e]
theorem mRk_c (hn : nx ≤ 60) (hL : ∀ b, b < nb → g L' (8 * l + b) = g L (8 * l + b)) (hB : ∀ b, b < 8 → g B' (8 * l + b) = g B (8 * l + b)) (hO : ∀ b, b < 8 → isL r nb nx l (g B (8 * l + b))) (p : Int32) : ∀ n b, b + n ≤ 8 → mRk r nB L' B' l p n b = mRk r nB L B l p n b := by
  intro n
  induction n with
  | zero => intro b _; rfl
  | succ n ih =>
    intro b hb
    rw [mRk_s, mRk_s, ih (b + 1) (by omega), hB b (by omega)]
    rcases hO b (by omega) with q | ⟨y, q1, q2, q3, q4⟩
    · have h5 : (-nI 5 : Int32) < nI 0 := by decide
      rw [q, cif_f (fun z => z.1 h5), cif_f (fun z => z.1 h5)]
    · rw [q2, nI_clamp (by omega), mPl_c hn hL hB hO q3 q4 8 0 (by omega)]
theorem mSold_c (hn : nx ≤ 60) (hL : ∀ b, b < nb → g L' (8 * l + b) = g L (8 * l + b)) {v : Int32} (hv : isL r nb nx l v) : mSold r nB L' l v ↔ mSold r nB L l v := by
  unfold mSold
  rcases hv with q | ⟨y, q1, q2, q3, q4⟩
  · have : (-nI 5 : Int32) < nI 0 := by decide
    rw [q]
    simp only [this, not_true_eq_false, false_and]
  · rw [q2, nI_clamp (by omega), mWo_l hL q3 q4]
theorem mPr_c (hn : nx ≤ 60) (hL : ∀ b, b < nb → g L' (8 * l + b) = g L (8 * l + b)) {v w : Int32} (hv : isL r nb nx l v) (hv2 : ¬ v < nI 0) (hw : isL r nb nx l w) : mPr r nB L' l v w = mPr r nB L l v w := by
  unfold mPr
  rcases hv with q | ⟨y, q1, q2, q3, q4⟩
  · exact absurd (by rw [q]; decide) hv2
  · rcases hw with z | ⟨u, z1, z2, z3, z4⟩
    · have : (-nI 5 : Int32) < nI 0 := by decide
      rw [q2, z, nI_clamp (by omega), mWo_l hL q3 q4]
      simp only [this, if_true]
    · rw [q2, z2, nI_clamp (show y < 2 ^ 31 by omega), nI_clamp (show u < 2 ^ 31 by omega), mWo_l hL q3 q4, mWo_l hL z3 z4]
theorem mMn_c (hB : ∀ b, b < 8 → g B' (8 * l + b) = g B (8 * l + b)) : ∀ n b, b + n ≤ 8 → mMn B' l n b = mMn B l n b := by
  intro n
  induction n with
  | zero => intro b _; rfl
  | succ n ih =>
    intro b hb
    rw [mMn_s, mMn_s, ih (b + 1) (by omega), hB b (by omega)]
end C

/-- the best bid of bidder b for lot l among the first k -/
noncomputable def mBs (r : List Int32) (nB : Nat) (L Bu Fi : List Int32) (l b : Nat) : Nat → Int32
  | 0 => -nI 5
  | k + 1 => cif (g r (78 + l) = nI 0 ∧ lotN r k = l ∧ byN r k = b ∧ mCo r nB L Bu Fi k) (cif (mBs r nB L Bu Fi l b k < nI 0 ∨ mWo r nB L (mBs r nB L Bu Fi l b k).toNatClampNeg < mWo r nB L k) (nI k) (mBs r nB L Bu Fi l b k)) (mBs r nB L Bu Fi l b k)
theorem mBs_s (r : List Int32) (nB : Nat) (L Bu Fi : List Int32) (l b k : Nat) : mBs r nB L Bu Fi l b (k + 1) = cif (g r (78 + l) = nI 0 ∧ lotN r k = l ∧ byN r k = b ∧ mCo r nB L Bu Fi k) (cif (mBs r nB L Bu Fi l b k < nI 0 ∨ mWo r nB L (mBs r nB L Bu Fi l b k).toNatClampNeg < mWo r nB L k) (nI k) (mBs r nB L Bu Fi l b k)) (mBs r nB L Bu Fi l b k) := rfl
theorem mBs_spec (r : List Int32) (nB : Nat) (L Bu Fi : List Int32) (l b : Nat) : ∀ k, mBs r nB L Bu Fi l b k = -nI 5 ∨ ∃ y, y < k ∧ mBs r nB L Bu Fi l b k = nI y ∧ g r (78 + l) = nI 0 ∧ lotN r y = l ∧ byN r y = b ∧ mCo r nB L Bu Fi y := by
  intro k
  induction k with
  | zero => exact Or.inl rfl
  | succ k ih =>
    have old : mBs r nB L Bu Fi l b k = -nI 5 ∨ ∃ y, y < k + 1 ∧ mBs r nB L Bu Fi l b k = nI y ∧ g r (78 + l) = nI 0 ∧ lotN r y = l ∧ byN r y = b ∧ mCo r nB L Bu Fi y := by
      rcases ih with h | ⟨y, h1, h2⟩
      · exact Or.inl h
      · exact Or.inr ⟨y, by omega, h2⟩
    rw [mBs_s]
    by_cases h : g r (78 + l) = nI 0 ∧ lotN r k = l ∧ byN r k = b ∧ mCo r nB L Bu Fi k
    · rw [cif_t h]
      by_cases h2 : mBs r nB L Bu Fi l b k < nI 0 ∨ mWo r nB L (mBs r nB L Bu Fi l b k).toNatClampNeg < mWo r nB L k
      · rw [cif_t h2]
        exact Or.inr ⟨k, by omega, rfl, h⟩
      · rw [cif_f h2]
        exact old
    · rw [cif_f h]
      exact old
theorem mBs_isB (r : List Int32) (nB : Nat) (L Bu Fi : List Int32) (l b : Nat) {k nx : Nat} (h : k ≤ nx) : isB (mBs r nB L Bu Fi l b k) nx := by
  rcases mBs_spec r nB L Bu Fi l b k with q | ⟨y, h1, h2, -⟩
  · exact Or.inl q
  · exact Or.inr ⟨y, by omega, h2⟩
section M
variable {A : Nat → List Int32} {F : Nat → Int32} {P : Nat → Nat} {nB nl nb nx : Nat}
/-- what the second loop of findBest holds -/
def FbI (r : List Int32) (nB : Nat) (L Bu Fi B0 B : List Int32) (l k : Nat) : Prop := B.length = 160 ∧ (∀ j, j < 8 → g B (8 * l + j) = mBs r nB L Bu Fi l j k) ∧ ∀ j, j < 8 * l ∨ 8 * l + 8 ≤ j → g B j = g B0 j
end M

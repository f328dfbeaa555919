/-! THE REFERENCE'S SALE -/
def lotN (r : List Int32) (x : Nat) : Nat := (g r (108 + x)).toNatClampNeg
def byN (r : List Int32) (x : Nat) : Nat := (g r (168 + x)).toNatClampNeg
def Mwf (r : List Int32) (nB nl nb nx : Nat) : Prop := Mok r nB nl nb nx ∧ Mst r nB ∧ ∀ x, x < nx → (lotN r x < nl ∧ g r (108 + x) = nI (lotN r x)) ∧ byN r x < nb ∧ g r (168 + x) = nI (byN r x)
def mWo (r : List Int32) (nB : Nat) (L : List Int32) (x : Nat) : Int32 := mFl r nB (if g L (8 * lotN r x + byN r x) ≤ g r (228 + x) then g L (8 * lotN r x + byN r x) else g r (228 + x))
def mLa (r : List Int32) (x : Nat) : Prop := g r 468 < g r (288 + x)
def mSv1 (r Bu Fi : List Int32) (x l : Nat) : Bool := decide (g Bu l = g r (168 + x)) && decide (g r (348 + (g Fi l).toNatClampNeg) = g r (348 + x))
def mSv (r Bu Fi : List Int32) (x : Nat) : Prop := nI 0 < g r (348 + x) ∧ ∃ l, l < lotN r x ∧ mSv1 r Bu Fi x l = true
def mCo (r : List Int32) (nB : Nat) (L Bu Fi : List Int32) (x : Nat) : Prop := g r (408 + x) = nI 0 ∧ ¬ mLa r x ∧ ¬ mSv r Bu Fi x ∧ mCe r nB (g r (38 + lotN r x)) ≤ mWo r nB L x
def mAh (r : List Int32) (nB : Nat) (L : List Int32) (x y : Nat) : Prop := if mWo r nB L x = mWo r nB L y then (if g r (288 + x) = g r (288 + y) then x < y else g r (288 + x) < g r (288 + y)) else mWo r nB L y < mWo r nB L x
section M
variable {A : Nat → List Int32} {F : Nat → Int32} {P : Nat → Nat} {nB nl nb nx : Nat}
end M

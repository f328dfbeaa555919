def mAs (r : List Int32) (nB l : Nat) : Int32 := mCe r nB (if g r (38 + l) ≤ g r (58 + l) then g r (58 + l) else g r (38 + l))
/-- the bids that lie in a row of bests: none, or one of them -/
def isB (v : Int32) (nx : Nat) : Prop := v = -nI 5 ∨ ∃ y, y < nx ∧ v = nI y
def mAb (r : List Int32) (nB : Nat) (L B : List Int32) (l x b : Nat) : Prop := ¬ g B (8 * l + b) < nI 0 ∧ ¬ g B (8 * l + b) = nI x ∧ mAh r nB L (g B (8 * l + b)).toNatClampNeg x
/-- how many of the bests from b on come ahead of x -/
noncomputable def mPl (r : List Int32) (nB : Nat) (L B : List Int32) (l x : Nat) : Nat → Nat → Nat
  | 0, _ => 0
  | n + 1, b => cif (mAb r nB L B l x b) 1 0 + mPl r nB L B l x n (b + 1)
/-- the best at a place, from b on -/
noncomputable def mRk (r : List Int32) (nB : Nat) (L B : List Int32) (l : Nat) (p : Int32) : Nat → Nat → Int32
  | 0, _ => -nI 5
  | n + 1, b => cif (¬ g B (8 * l + b) < nI 0 ∧ nI (mPl r nB L B l (g B (8 * l + b)).toNatClampNeg 8 0) = p) (g B (8 * l + b)) (mRk r nB L B l p n (b + 1))
theorem mPl_s (r : List Int32) (nB : Nat) (L B : List Int32) (l x n b : Nat) : mPl r nB L B l x (n + 1) b = cif (mAb r nB L B l x b) 1 0 + mPl r nB L B l x n (b + 1) := rfl
theorem mRk_s (r : List Int32) (nB : Nat) (L B : List Int32) (l : Nat) (p : Int32) (n b : Nat) : mRk r nB L B l p (n + 1) b = cif (¬ g B (8 * l + b) < nI 0 ∧ nI (mPl r nB L B l (g B (8 * l + b)).toNatClampNeg 8 0) = p) (g B (8 * l + b)) (mRk r nB L B l p n (b + 1)) := rfl
theorem mPl_le (r : List Int32) (nB : Nat) (L B : List Int32) (l x : Nat) : ∀ n b, mPl r nB L B l x n b ≤ n := by
  intro n
  induction n with
  | zero => intro b; exact Nat.le_refl _
  | succ n ih =>
    intro b
    rw [mPl_s]
    have := ih (b + 1)
    by_cases q : mAb r nB L B l x b
    · rw [cif_t q]; omega
    · rw [cif_f q]; omega
section M
variable {A : Nat → List Int32} {F : Nat → Int32} {P : Nat → Nat} {nB nl nb nx : Nat}
end M

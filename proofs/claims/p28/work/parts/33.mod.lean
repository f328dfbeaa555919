section M
variable {A : Nat → List Int32} {F : Nat → Int32} {P : Nat → Nat} {nB nl nb nx : Nat}
/-- the place of a band, by its beginning -/
def mAt (r : List Int32) (x : Int32) : Nat → Nat → Int32
  | 0, _ => -nI 5
  | n + 1, k => if g r (1 + k) = x then nI k else mAt r x n (k + 1)
theorem mAt_s (r : List Int32) (x : Int32) (n k : Nat) : mAt r x (n + 1) k = if g r (1 + k) = x then nI k else mAt r x n (k + 1) := rfl
/-- the band of an amount -/
def mBd (r : List Int32) (a : Int32) : Nat → Nat → Nat
  | 0, k => k
  | n + 1, k => if a < g r (1 + k + 1) then k else mBd r a n (k + 1)
theorem mBd_s (r : List Int32) (a : Int32) (n k : Nat) : mBd r a (n + 1) k = if a < g r (1 + k + 1) then k else mBd r a n (k + 1) := rfl
theorem mBd_lt (r : List Int32) (a : Int32) : ∀ n k, mBd r a n k ≤ k + n := by
  intro n
  induction n with
  | zero => intro k; exact Nat.le_refl _
  | succ n ih =>
    intro k
    rw [mBd_s]
    split
    · omega
    · have := ih (k + 1); omega
def mBand (r : List Int32) (nB : Nat) (a : Int32) : Nat := mBd r a (nB - 1) 0
theorem mBand_lt (r : List Int32) {nB : Nat} (a : Int32) (h : 1 ≤ nB) : mBand r nB a < nB := by
  have := mBd_lt r a (nB - 1) 0
  unfold mBand
  omega
/-- the steps are none of them 0 -/
def Mst (r : List Int32) (nB : Nat) : Prop := ∀ k, k < nB → g r (9 + k) ≠ 0
def mFl (r : List Int32) (nB : Nat) (a : Int32) : Int32 := a - (a - g r (1 + mBand r nB a) - (a - g r (1 + mBand r nB a)) / g r (9 + mBand r nB a) * g r (9 + mBand r nB a))
theorem am_rm_s {x y : Int32} (h : y ≠ 0) : am_rm x y = some (x - x / y * y) := by
  unfold am_rm
  rw [decide_eq_false h]
  rfl
def mNx (r : List Int32) (nB : Nat) (a : Int32) : Int32 := if mBand r nB a + 1 < nB then (if mFl r nB a + g r (9 + mBand r nB a) ≤ g r (1 + mBand r nB a + 1) then mFl r nB a + g r (9 + mBand r nB a) else g r (1 + mBand r nB a + 1)) else mFl r nB a + g r (9 + mBand r nB a)
def mCe (r : List Int32) (nB : Nat) (a : Int32) : Int32 := if mFl r nB a = a then a else mNx r nB a
end M

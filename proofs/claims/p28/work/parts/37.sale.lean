/-- how many bests there are, from b on -/
def mMn (B : List Int32) (l : Nat) : Nat → Nat → Nat
  | 0, _ => 0
  | n + 1, b => (if g B (8 * l + b) < nI 0 then 0 else 1) + mMn B l n (b + 1)
theorem mMn_s (B : List Int32) (l n b : Nat) : mMn B l (n + 1) b = (if g B (8 * l + b) < nI 0 then 0 else 1) + mMn B l n (b + 1) := rfl
theorem mRk_isB {r : List Int32} {nB : Nat} {L B : List Int32} {l : Nat} {p : Int32} {nx : Nat} (hB : ∀ b, b < 8 → isB (g B (8 * l + b)) nx) : ∀ n b, b + n ≤ 8 → isB (mRk r nB L B l p n b) nx := by
  intro n
  induction n with
  | zero => intro b _; exact Or.inl rfl
  | succ n ih =>
    intro b hb
    rw [mRk_s]
    by_cases q : ¬ g B (8 * l + b) < nI 0 ∧ nI (mPl r nB L B l (g B (8 * l + b)).toNatClampNeg 8 0) = p
    · rw [cif_t q]; exact hB b (by omega)
    · rw [cif_f q]; exact ih (b + 1) (by omega)
/-- the price of a lot that is sold: its first and its second bid -/
def mPr (r : List Int32) (nB : Nat) (L : List Int32) (l : Nat) (fi se : Int32) : Int32 :=
  let p := if se < nI 0 then mAs r nB l else (if mAs r nB l ≤ mNx r nB (mWo r nB L se.toNatClampNeg) then mNx r nB (mWo r nB L se.toNatClampNeg) else mAs r nB l)
  if mWo r nB L fi.toNatClampNeg ≤ p then mWo r nB L fi.toNatClampNeg else p
def mSold (r : List Int32) (nB : Nat) (L : List Int32) (l : Nat) (fi : Int32) : Prop := ¬ fi < nI 0 ∧ ¬ mWo r nB L fi.toNatClampNeg < g r (58 + l)
section M
variable {A : Nat → List Int32} {F : Nat → Int32} {P : Nat → Nat} {nB nl nb nx : Nat}
end M

/-! NUMBERS: indices are nI k -/
theorem nI_addS (a b : Nat) : nI a + nI b = nI (a + b) := nI_add a b
theorem nI_mulS (a b : Nat) : nI a * nI b = nI (a * b) := pk_mul a b
theorem nI_subS {a b : Nat} (h : b ≤ a) : nI a - nI b = nI (a - b) := pk_sub h
theorem nI_lt' {a b : Nat} (ha : a < 2 ^ 31) (hb : b < 2 ^ 31) : (nI a < nI b) = (a < b) := propext (nI_ltI ha hb)
theorem nI_le' {a b : Nat} (ha : a < 2 ^ 31) (hb : b < 2 ^ 31) : (nI a ≤ nI b) = (a ≤ b) := propext (nI_leI ha hb)
theorem nI_eq' {a b : Nat} (ha : a < 2 ^ 31) (hb : b < 2 ^ 31) : (nI a = nI b) = (a = b) := propext (nI_eq ha hb)
theorem wrH {A : Nat → List Int32} {F : Nat → Int32} {P : Nat → Nat} {a k : Nat} {v : Int32} (h : k < (A a).length) (hl : (A a).length < 2 ^ 31) : (bif am_in (nI k) (A a).length then some (heap (up A a ((A a).set (nI k).toNatClampNeg v)) F P) else none) = some (heap (up A a ((A a).set k v)) F P) := by
  rw [am_in_lt' h hl, nI_clamp (by omega)]
  rfl
theorem s_Mod_in (v least most : Int32) (h : am_H) : am_cl m_Mod_in [.int v, .int least, .int most] h = some (some (.int (if v < least ∨ most < v then nI 0 else nI 1)), h) := by
  rw [e_Mod_in]
  simp only [bif_d]
  by_cases h1 : v < least
  · simp [h1, nI_0]
  · by_cases h2 : most < v
    · simp [h1, h2, Int32.not_le.mpr h2, nI_0]
    · simp [h1, h2, Int32.not_lt.mp h2]; rfl
theorem s_Mod_greater (x y : Int32) (h : am_H) : am_cl m_Mod_greater [.int x, .int y] h = some (some (.int (if x ≤ y then y else x)), h) := by
  rw [e_Mod_greater]
  simp only [bif_d]
  split <;> rfl
theorem s_Mod_lesser (x y : Int32) (h : am_H) : am_cl m_Mod_lesser [.int x, .int y] h = some (some (.int (if y ≤ x then y else x)), h) := by
  rw [e_Mod_lesser]
  simp only [bif_d]
  split <;> rfl
/-- an index from nought below n -/
def ix (x : Int32) (n : Nat) : Prop := ∃ k, k < n ∧ x = nI k
theorem ix_in {x : Int32} {n : Nat} (hn : n < 2 ^ 31) : (x < nI 0 ∨ nI n - nI 1 < x) ↔ ¬ ix x n := by
  constructor
  · rintro (h | h) ⟨k, hk, rfl⟩
    · rw [nI_lt' (by omega) (by omega)] at h; omega
    · rw [nI_subS (by omega), nI_lt' (by omega) (by omega)] at h; omega
  · intro h
    by_cases h0 : x < nI 0
    · exact Or.inl h0
    · obtain ⟨k, hk, rfl⟩ := nI_of h0
      refine Or.inr ?_
      rcases Nat.eq_zero_or_pos n with q | q
      · subst q
        have e : nI 0 - nI 1 = (-1 : Int32) := by decide
        rw [e]
        have h1 : (-1 : Int32) < nI 0 := by decide
        exact Int32.lt_of_lt_of_le h1 (nI_le (Nat.zero_le k) hk)
      · rw [nI_subS (by omega), nI_lt' (by omega) hk]
        rcases Nat.lt_or_ge k n with z | z
        · exact absurd ⟨k, z, rfl⟩ h
        · omega
/-- what is asked of the reference's row: its length, and its counts -/
def Mok (r : List Int32) (nB nl nb nx : Nat) : Prop := r.length = 472 ∧ g r 0 = nI nB ∧ g r 17 = nI nl ∧ g r 98 = nI nb ∧ g r 107 = nI nx ∧ 1 ≤ nB ∧ nB ≤ 8 ∧ nl ≤ 20 ∧ nb ≤ 8 ∧ nx ≤ 60
/-- f, from k on, n times -/
def fu {α : Type} (f : α → Nat → α) : Nat → Nat → α → α
  | 0, _, a => a
  | n + 1, k, a => fu f n (k + 1) (f a k)
theorem loop_fu {α : Type} {B : Nat → α → Option am_R} {E : α → Option am_R} {f : α → Nat → α} (I : Nat → α → Prop) (n : Nat) (hs : ∀ k a, k < n → I k a → B k a = B (k + 1) (f a k) ∧ I (k + 1) (f a k)) (he : ∀ a, I n a → B n a = E a) : ∀ m k a, k + m = n → I k a → B k a = E (fu f m k a) := by
  intro m
  induction m with
  | zero => intro k a hk hI; rw [Nat.add_zero] at hk; subst hk; exact he a hI
  | succ m ih =>
    intro k a hk hI
    obtain ⟨h1, h2⟩ := hs k a (by omega) hI
    rw [h1]
    exact ih (k + 1) _ (by omega) h2

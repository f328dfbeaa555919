/-! NUMBERS: indices are nI k -/
theorem nI_addS (a b : Nat) : nI a + nI b = nI (a + b) := nI_add a b
theorem nI_mulS (a b : Nat) : nI a * nI b = nI (a * b) := pk_mul a b
theorem nI_subS {a b : Nat} (h : b ≤ a) : nI a - nI b = nI (a - b) := pk_sub h
theorem nI_lt' {a b : Nat} (ha : a < 2 ^ 31) (hb : b < 2 ^ 31) : (nI a < nI b) = (a < b) := propext (nI_ltI ha hb)
theorem nI_le' {a b : Nat} (ha : a < 2 ^ 31) (hb : b < 2 ^ 31) : (nI a ≤ nI b) = (a ≤ b) := propext (nI_leI ha hb)
theorem nI_eq' {a b : Nat} (ha : a < 2 ^ 31) (hb : b < 2 ^ 31) : (nI a = nI b) = (a = b) := propext (nI_eq ha hb)
theorem wrH {A : Nat → List Int32} {F : Nat → Int32} {P : Nat → Nat} {a k : Nat} {v : Int32} {l : List Int32} (h : k < l.length) (hl : l.length < 2 ^ 31) : (bif am_in (nI k) l.length then some (heap (up A a (l.set (nI k).toNatClampNeg v)) F P) else none) = some (heap (up A a (l.set k v)) F P) := by
  rw [am_in_lt' h hl, nI_clamp (by omega)]
  rfl
/-- 1 for a truth, 0 else -/
noncomputable def b01 (p : Prop) : Int32 := @ite _ p (Classical.propDecidable p) (nI 1) (nI 0)
theorem b01_t {p : Prop} (h : p) : b01 p = nI 1 := by unfold b01; rw [if_pos h]
theorem b01_f {p : Prop} (h : ¬ p) : b01 p = nI 0 := by unfold b01; rw [if_neg h]
theorem b01_0 (p : Prop) : (b01 p = nI 0) = ¬ p := by
  by_cases h : p
  · rw [b01_t h]; simp only [h, not_true_eq_false, eq_iff_iff, iff_false]; decide
  · rw [b01_f h]; simp only [h, not_false_eq_true]
theorem b01_1 (p : Prop) : (b01 p = nI 1) = p := by
  by_cases h : p
  · rw [b01_t h]; simp only [h]
  · rw [b01_f h]; simp only [h, eq_iff_iff, iff_false]; decide
theorem b01_if (p : Prop) (d : Decidable p) : (if p then nI 1 else nI 0) = b01 p := by
  by_cases h : p
  · rw [b01_t h, if_pos h]
  · rw [b01_f h, if_neg h]
theorem b01_ifn (p : Prop) (d : Decidable p) : (if p then nI 0 else nI 1) = b01 (¬ p) := by
  by_cases h : p
  · rw [b01_f (fun z => z h), if_pos h]
  · rw [b01_t h, if_neg h]
theorem b01_or (p : Prop) : b01 p = nI 0 ∨ b01 p = nI 1 := by
  by_cases h : p
  · exact Or.inr (b01_t h)
  · exact Or.inl (b01_f h)
theorem b01_c {p q : Prop} (h : p ↔ q) : b01 p = b01 q := by rw [propext h]
theorem am_bz_01 {x : Int32} (h : x = nI 0 ∨ x = nI 1) : am_bz x = some x := by
  rcases h with h | h <;> subst h <;> rfl
theorem am_bz_b (p : Prop) : am_bz (b01 p) = some (b01 p) := am_bz_01 (b01_or p)
theorem am_bz_0 : am_bz (nI 0) = some (nI 0) := rfl
theorem am_bz_1 : am_bz (nI 1) = some (nI 1) := rfl
/-- an index from nought below n -/
def ix (x : Int32) (n : Nat) : Prop := ∃ k, k < n ∧ x = nI k
theorem ix_in {x : Int32} {n : Nat} (hn : n < 2 ^ 31) : (x < nI 0 ∨ nI n - nI 1 < x) ↔ ¬ ix x n := by
  constructor
  · rintro (h | h) ⟨k, hk, rfl⟩
    · rw [nI_lt' (by omega) (by omega)] at h; omega
    · rw [nI_subS (by omega), nI_lt' (by omega) (by omega)] at h; omega
  · intro h
    by_cases h0 : x < nI 0
    · exact Or.inl h0
    · obtain ⟨k, hk, rfl⟩ := nI_of h0
      refine Or.inr ?_
      rcases Nat.eq_zero_or_pos n with q | q
      · subst q
        have e : nI 0 - nI 1 = (-1 : Int32) := by decide
        rw [e]
        have h1 : (-1 : Int32) < nI 0 := by decide
        exact Int32.lt_of_lt_of_le h1 (nI_le (Nat.zero_le k) hk)
      · rw [nI_subS (by omega), nI_lt' (by omega) hk]
        rcases Nat.lt_or_ge k n with z | z
        · exact absurd ⟨k, z, rfl⟩ h
        · omega
/-- what is asked of the reference's row: its length, and its counts -/
def Mok (r : List Int32) (nB nl nb nx : Nat) : Prop := r.length = 472 ∧ g r 0 = nI nB ∧ g r 17 = nI nl ∧ g r 98 = nI nb ∧ g r 107 = nI nx ∧ 1 ≤ nB ∧ nB ≤ 8 ∧ nl ≤ 20 ∧ nb ≤ 8 ∧ nx ≤ 60
/-- f, from k on, n times -/
def fu {α : Type} (f : α → Nat → α) : Nat → Nat → α → α
  | 0, _, a => a
  | n + 1, k, a => fu f n (k + 1) (f a k)
theorem loop_fu {α : Type} {B : Nat → α → Option am_R} {E : α → Option am_R} {f : α → Nat → α} (I : Nat → α → Prop) (n : Nat) (hs : ∀ k a, k < n → I k a → B k a = B (k + 1) (f a k) ∧ I (k + 1) (f a k)) (he : ∀ a, I n a → B n a = E a) : ∀ m k a, k + m = n → I k a → B k a = E (fu f m k a) := by
  intro m
  induction m with
  | zero => intro k a hk hI; rw [Nat.add_zero] at hk; subst hk; exact he a hI
  | succ m ih =>
    intro k a hk hI
    obtain ⟨h1, h2⟩ := hs k a (by omega) hI
    rw [h1]
    exact ih (k + 1) _ (by omega) h2
noncomputable def cif {α : Type} (p : Prop) (a b : α) : α := @ite _ p (Classical.propDecidable p) a b
theorem cif_t {α : Type} {p : Prop} {a b : α} (h : p) : cif p a b = a := by unfold cif; rw [if_pos h]
theorem cif_f {α : Type} {p : Prop} {a b : α} (h : ¬ p) : cif p a b = b := by unfold cif; rw [if_neg h]
theorem up_eq {α : Type} (f : Nat → α) (k : Nat) (v : α) : up f k v k = v := by unfold up; rw [if_pos rfl]
theorem up_ne {α : Type} (f : Nat → α) {k j : Nat} (v : α) (h : j ≠ k) : up f k v j = f j := by unfold up; rw [if_neg h]
theorem up_up {α : Type} (f : Nat → α) (k : Nat) (v w : α) : up (up f k v) k w = up f k w := by
  funext j
  unfold up
  split <;> rfl
theorem up_sw {α : Type} (f : Nat → α) {j k : Nat} (v w : α) (h : k < j) : up (up f j v) k w = up (up f k w) j v := by
  funext i
  unfold up
  by_cases h1 : i = k
  · rw [if_pos h1, if_neg (by omega), if_pos h1]
  · simp only [if_neg h1]
theorem up_id {α : Type} (f : Nat → α) (k : Nat) : up f k (f k) = f := by
  funext j
  unfold up
  split
  · rename_i h; rw [h]
  · rfl
theorem m5_lt : ((-nI 5 : Int32) < nI 0) = True := by simp only [eq_iff_iff, iff_true]; decide
theorem nI_nlt0 {k : Nat} (h : k < 2 ^ 31) : (nI k < nI 0) = False := by simp only [eq_iff_iff, iff_false]; rw [nI_lt' h (by omega)]; omega
theorem g_seq {l : List Int32} {k : Nat} {v : Int32} (h : k < l.length) : g (l.set k v) k = v := by rw [g_set h, if_pos rfl]
theorem g_sne {l : List Int32} {k j : Nat} {v : Int32} (h : k < l.length) (hj : j ≠ k) : g (l.set k v) j = g l j := by rw [g_set h, if_neg hj]

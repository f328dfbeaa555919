/-! SUMS OF MONEY -/
theorem mPt_64 {p s : Int32} (hp : rg p 0 1000000) (hs : rg s 0 500) : (Int32.toInt64 p * Int32.toInt64 s) / 1000 = Int32.toInt64 (mPt p s) := by
  obtain ⟨a, a1, a2, rfl⟩ := hp
  obtain ⟨b, b1, b2, rfl⟩ := hs
  obtain ⟨h, e⟩ := mPt_N a2 b2
  have e1 : (1000 : Int64) = lN 1000 := rfl
  rw [e, nI_l (by omega), nI_l (by omega), lN_mul, e1, pk_lDiv (by omega) (by omega) (by omega), nI_l]
  have : a * b / 1000 ≤ a * b := Nat.div_le_self _ _
  omega
/-- the sum of f over the j from k on, n of them, with p -/
noncomputable def sm (p : Nat → Prop) (f : Nat → Nat) : Nat → Nat → Nat
  | 0, _ => 0
  | n + 1, k => cif (p k) (f k) 0 + sm p f n (k + 1)
theorem sm_s (p : Nat → Prop) (f : Nat → Nat) (n k : Nat) : sm p f (n + 1) k = cif (p k) (f k) 0 + sm p f n (k + 1) := rfl
theorem sm_le {p : Nat → Prop} {f : Nat → Nat} {M : Nat} : ∀ n k, (∀ j, k ≤ j → j < k + n → f j ≤ M) → sm p f n k ≤ n * M := by
  intro n
  induction n with
  | zero => intro k _; exact Nat.zero_le _
  | succ n ih =>
    intro k h
    rw [sm_s, Nat.add_mul, Nat.one_mul]
    have h1 := ih (k + 1) (fun j j1 j2 => h j (by omega) (by omega))
    have h2 := h k (Nat.le_refl _) (by omega)
    by_cases c : p k
    · rw [cif_t c]; omega
    · rw [cif_f c]; omega
theorem sm_add {p : Nat → Prop} {f f' : Nat → Nat} : ∀ n k, sm p (fun j => f j + f' j) n k = sm p f n k + sm p f' n k := by
  intro n
  induction n with
  | zero => intro k; rfl
  | succ n ih =>
    intro k
    rw [sm_s, sm_s, sm_s, ih]
    by_cases c : p k
    · rw [cif_t c, cif_t c, cif_t c]; omega
    · rw [cif_f c, cif_f c, cif_f c]; omega
theorem fL_N {p : Nat → Prop} {f : Nat → Int32} {f' : Nat → Nat} : ∀ n k s, (∀ j, k ≤ j → j < k + n → f j = nI (f' j) ∧ f' j < 2 ^ 31) → fL p f n k (lN s) = lN (s + sm p f' n k) := by
  intro n
  induction n with
  | zero => intro k s _; rfl
  | succ n ih =>
    intro k s h
    obtain ⟨h1, h2⟩ := h k (Nat.le_refl _) (by omega)
    have ih := fun s => ih (k + 1) s (fun j j1 j2 => h j (by omega) (by omega))
    rw [fL_s, sm_s]
    by_cases c : p k
    · rw [cif_t c, cif_t c, h1, nI_l h2, lN_add, ih, Nat.add_assoc]
    · rw [cif_f c, cif_f c, ih, Nat.zero_add]
/-- the sum of g over b, n of them from k on -/
def sN2 (g : Nat → Nat) : Nat → Nat → Nat
  | 0, _ => 0
  | n + 1, k => g k + sN2 g n (k + 1)
theorem sN2_c {g g' : Nat → Nat} : ∀ n k, (∀ j, k ≤ j → j < k + n → g j = g' j) → sN2 g n k = sN2 g' n k := by
  intro n
  induction n with
  | zero => intro k _; rfl
  | succ n ih =>
    intro k h
    show g k + sN2 g n (k + 1) = g' k + sN2 g' n (k + 1)
    rw [h k (Nat.le_refl _) (by omega), ih (k + 1) (fun j j1 j2 => h j (by omega) (by omega))]
theorem sN2_add (g g' : Nat → Nat) : ∀ n k, sN2 (fun b => g b + g' b) n k = sN2 g n k + sN2 g' n k := by
  intro n
  induction n with
  | zero => intro k; rfl
  | succ n ih =>
    intro k
    show (g k + g' k) + sN2 _ n (k + 1) = (g k + sN2 g n (k + 1)) + (g' k + sN2 g' n (k + 1))
    rw [ih (k + 1)]
    omega
/-- at most one of them: v where there is one -/
theorem sN2_one {q : Nat → Prop} {v : Nat} : ∀ n k, (∀ i j, k ≤ i → i < k + n → k ≤ j → j < k + n → q i → q j → i = j) → sN2 (fun b => cif (q b) v 0) n k = cif (∃ b, k ≤ b ∧ b < k + n ∧ q b) v 0 := by
  intro n
  induction n with
  | zero => intro k _; rw [cif_f (by rintro ⟨b, h1, h2, _⟩; omega)]; rfl
  | succ n ih =>
    intro k h
    have ih := ih (k + 1) (fun i j i1 i2 j1 j2 => h i j (by omega) (by omega) (by omega) (by omega))
    show cif (q k) v 0 + sN2 _ n (k + 1) = _
    rw [ih]
    by_cases c : q k
    · rw [cif_t c, cif_f, cif_t ⟨k, Nat.le_refl _, by omega, c⟩]
      · rfl
      · rintro ⟨b, b1, b2, b3⟩
        have := h k b (by omega) (by omega) (by omega) (by omega) c b3
        omega
    · rw [cif_f c, Nat.zero_add]
      by_cases d : ∃ b, k + 1 ≤ b ∧ b < k + 1 + n ∧ q b
      · rw [cif_t d, cif_t]
        obtain ⟨b, b1, b2, b3⟩ := d
        exact ⟨b, by omega, by omega, b3⟩
      · rw [cif_f d, cif_f]
        rintro ⟨b, b1, b2, b3⟩
        by_cases e : b = k
        · exact c (e ▸ b3)
        · exact d ⟨b, by omega, by omega, b3⟩
/-- sums over the lots, by their buyers -/
theorem sm_by {Q : Nat → Nat → Prop} {f : Nat → Nat} {nb : Nat} : ∀ n k, (∀ j, k ≤ j → j < k + n → ∀ i i', i < nb → i' < nb → Q i j → Q i' j → i = i') → sN2 (fun b => sm (Q b) f n k) nb 0 = sm (fun j => ∃ b, b < nb ∧ Q b j) f n k := by
  intro n
  induction n with
  | zero =>
    intro k _
    have : ∀ n k, sN2 (fun _ => 0) n k = 0 := by
      intro n
      induction n with
      | zero => intro k; rfl
      | succ n ih => intro k; show 0 + sN2 _ n (k + 1) = 0; rw [ih]
    exact this nb 0
  | succ n ih =>
    intro k h
    rw [sm_s, ← ih (k + 1) (fun j j1 j2 => h j (by omega) (by omega))]
    have e : sN2 (fun b => sm (Q b) f (n + 1) k) nb 0 = sN2 (fun b => cif (Q b k) (f k) 0) nb 0 + sN2 (fun b => sm (Q b) f n (k + 1)) nb 0 := sN2_add _ _ nb 0
    rw [e, sN2_one nb 0 (fun i j _ i2 _ j2 h1 h2 => h k (Nat.le_refl _) (by omega) i j (by omega) (by omega) h1 h2)]
    congr 1
    by_cases c : ∃ b, b < nb ∧ Q b k
    · rw [cif_t c, cif_t]
      obtain ⟨b, b1, b2⟩ := c
      exact ⟨b, Nat.zero_le _, by omega, b2⟩
    · rw [cif_f c, cif_f]
      rintro ⟨b, _, b1, b2⟩
      exact c ⟨b, by omega, b2⟩
theorem cN_sm (p : Nat → Prop) : ∀ n k, cN p n k = sm p (fun _ => 1) n k := by
  intro n
  induction n with
  | zero => intro k; rfl
  | succ n ih => intro k; rw [cN_s, sm_s, ih]
theorem sm_c {p p' : Nat → Prop} {f f' : Nat → Nat} : ∀ n k, (∀ j, k ≤ j → j < k + n → cif (p j) (f j) 0 = cif (p' j) (f' j) 0) → sm p f n k = sm p' f' n k := by
  intro n
  induction n with
  | zero => intro k _; rfl
  | succ n ih =>
    intro k h
    rw [sm_s, sm_s, h k (Nat.le_refl _) (by omega), ih (k + 1) (fun j j1 j2 => h j (by omega) (by omega))]
/-- five sums by a number from 0 to 4 -/
theorem lg_r5 (a b c d e x : Int64) : (((((a + x) + b) + c) + d) + e = ((((a + b) + c) + d) + e) + x) ∧ ((((a + (b + x)) + c) + d) + e = ((((a + b) + c) + d) + e) + x) ∧ ((((a + b) + (c + x)) + d) + e = ((((a + b) + c) + d) + e) + x) ∧ ((((a + b) + c) + (d + x)) + e = ((((a + b) + c) + d) + e) + x) ∧ ((((a + b) + c) + d) + (e + x) = ((((a + b) + c) + d) + e) + x) := by
  refine ⟨?_, ?_, ?_, ?_, ?_⟩ <;> grind
theorem fL_five {s : Nat → Int32} {f : Nat → Int32} : ∀ n k a b c d e, (∀ j, k ≤ j → j < k + n → ∃ i, i < 5 ∧ s j = nI i) → fL (fun j => s j = nI 0) f n k a + fL (fun j => s j = nI 1) f n k b + fL (fun j => s j = nI 2) f n k c + fL (fun j => s j = nI 3) f n k d + fL (fun j => s j = nI 4) f n k e = fL (fun _ => True) f n k (a + b + c + d + e) := by
  intro n
  induction n with
  | zero => intro k a b c d e _; rfl
  | succ n ih =>
    intro k a b c d e h
    obtain ⟨i, i1, i2⟩ := h k (Nat.le_refl _) (by omega)
    have ih := fun a b c d e => ih (k + 1) a b c d e (fun j j1 j2 => h j (by omega) (by omega))
    obtain ⟨r1, r2, r3, r4, r5⟩ := lg_r5 a b c d e (f k).toInt64
    rw [fL_s, fL_s, fL_s, fL_s, fL_s, fL_s, cif_t (p := True) trivial, ih]
    have hc : ∀ m, m < 5 → (s k = nI m ↔ i = m) := fun m hm => by rw [i2, nI_eq' (by omega) (by omega)]
    have : i = 0 ∨ i = 1 ∨ i = 2 ∨ i = 3 ∨ i = 4 := by omega
    rcases this with rfl | rfl | rfl | rfl | rfl
    · rw [cif_t ((hc 0 (by omega)).mpr rfl), cif_f (fun z => absurd ((hc 1 (by omega)).mp z) (by omega)), cif_f (fun z => absurd ((hc 2 (by omega)).mp z) (by omega)), cif_f (fun z => absurd ((hc 3 (by omega)).mp z) (by omega)), cif_f (fun z => absurd ((hc 4 (by omega)).mp z) (by omega)), r1]
    · rw [cif_t ((hc 1 (by omega)).mpr rfl), cif_f (fun z => absurd ((hc 0 (by omega)).mp z) (by omega)), cif_f (fun z => absurd ((hc 2 (by omega)).mp z) (by omega)), cif_f (fun z => absurd ((hc 3 (by omega)).mp z) (by omega)), cif_f (fun z => absurd ((hc 4 (by omega)).mp z) (by omega)), r2]
    · rw [cif_t ((hc 2 (by omega)).mpr rfl), cif_f (fun z => absurd ((hc 0 (by omega)).mp z) (by omega)), cif_f (fun z => absurd ((hc 1 (by omega)).mp z) (by omega)), cif_f (fun z => absurd ((hc 3 (by omega)).mp z) (by omega)), cif_f (fun z => absurd ((hc 4 (by omega)).mp z) (by omega)), r3]
    · rw [cif_t ((hc 3 (by omega)).mpr rfl), cif_f (fun z => absurd ((hc 0 (by omega)).mp z) (by omega)), cif_f (fun z => absurd ((hc 1 (by omega)).mp z) (by omega)), cif_f (fun z => absurd ((hc 2 (by omega)).mp z) (by omega)), cif_f (fun z => absurd ((hc 4 (by omega)).mp z) (by omega)), r4]
    · rw [cif_t ((hc 4 (by omega)).mpr rfl), cif_f (fun z => absurd ((hc 0 (by omega)).mp z) (by omega)), cif_f (fun z => absurd ((hc 1 (by omega)).mp z) (by omega)), cif_f (fun z => absurd ((hc 2 (by omega)).mp z) (by omega)), cif_f (fun z => absurd ((hc 3 (by omega)).mp z) (by omega)), r5]
theorem cN_five {s : Nat → Int32} : ∀ n k, (∀ j, k ≤ j → j < k + n → ∃ i, i < 5 ∧ s j = nI i) → cN (fun j => s j = nI 0) n k + cN (fun j => s j = nI 1) n k + cN (fun j => s j = nI 2) n k + cN (fun j => s j = nI 3) n k + cN (fun j => s j = nI 4) n k = n := by
  intro n
  induction n with
  | zero => intro k _; rfl
  | succ n ih =>
    intro k h
    obtain ⟨i, i1, i2⟩ := h k (Nat.le_refl _) (by omega)
    have ih := ih (k + 1) (fun j j1 j2 => h j (by omega) (by omega))
    have hc : ∀ m, m < 5 → (s k = nI m ↔ i = m) := fun m hm => by rw [i2, nI_eq' (by omega) (by omega)]
    have hv : ∀ m, m < 5 → cif (s k = nI m) 1 0 = if i = m then 1 else 0 := fun m hm => by
      by_cases z : i = m
      · rw [if_pos z, cif_t ((hc m hm).mpr z)]
      · rw [if_neg z, cif_f (fun w => z ((hc m hm).mp w))]
    rw [cN_s, cN_s, cN_s, cN_s, cN_s, hv 0 (by omega), hv 1 (by omega), hv 2 (by omega), hv 3 (by omega), hv 4 (by omega)]
    have : i = 0 ∨ i = 1 ∨ i = 2 ∨ i = 3 ∨ i = 4 := by omega
    rcases this with rfl | rfl | rfl | rfl | rfl <;> simp <;> omega

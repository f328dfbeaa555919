/-! THE KIND OF AN ANSWER -/
def kd (i : Nat) (v : Option Value) : Prop := (∃ x, v = some (.int x) ∧ ¬ am_ret i = some .long ∧ ¬ am_ret i = none) ∨ (∃ x, v = some (.long x) ∧ am_ret i = some .long) ∨ (v = none ∧ am_ret i = none)
def kd_ag (i : Nat) (a : Option am_A) : Prop := match a with
  | some (.inl r) => kd i r.1
  | some (.inr (.inr (.inr (.inr (.inr (.inr (.inr (.inr (.inr (.inr (_, _))))))))))) => ∀ x, kd i (some (.int x))
  | _ => True
theorem kd_inv (i j n pc : Nat) (L S : List Value) (h : am_H) : kd_ag i (am_inv j n pc L S h) := by
  unfold am_inv
  cases (Nat.blt 8 (am_cat (S.drop n)) || (Nat.blt S.length n || !(Nat.beq (am_cat (S.take n)) n)))
  · cases Nat.blt j 1000
    · show kd_ag i (match j, S with
        | 1000, .int y :: .int x :: r => am_Go (pc, L, .int (am_max x y) :: r, h)
        | 1001, .int y :: .int x :: r => am_Go (pc, L, .int (am_min x y) :: r, h)
        | 1002, .int n :: .int dp :: .ref b :: .int sp :: .ref a :: r => am_Wr (am_cp h a sp b dp n) (fun h => (pc, L, r, h))
        | 1003, .ref _ :: r => am_Go (pc, L, r, h)
        | _, _ => none)
      split <;> exact True.intro
    · show kd_ag i (match am_ret j with
        | some .long => am_Cl j (S.take n).reverse h (fun x h => (pc, L, .long x :: S.drop n, h))
        | some _ => am_Ci j (S.take n).reverse h (fun x h => (pc, L, .int x :: S.drop n, h))
        | none => am_Cv j (S.take n).reverse h (fun h => (pc, L, S.drop n, h)))
      split <;> exact True.intro
  · exact True.intro
theorem kd_step (i : Nat) (e : am_E) (L S : List Value) (h : am_H) : kd_ag i (am_step i e L S h) := by
  obtain ⟨pc, ins, len, a1, a2, a3, ci, cl, sw⟩ := e
  cases ins <;> dsimp only [am_step] <;> (repeat' split) <;> first
    | exact True.intro
    | exact kd_inv ..
    | (have q : am_ret i = some .boolean := by assumption
       exact fun x => Or.inl ⟨x, rfl, fun z => (by rw [q] at z; cases z), fun z => (by rw [q] at z; cases z)⟩)
    | (have q : am_ret i = some .int := by assumption
       exact Or.inl ⟨_, rfl, fun z => (by rw [q] at z; cases z), fun z => (by rw [q] at z; cases z)⟩)
    | (have q : am_ret i = some .long := by assumption
       exact Or.inr (Or.inl ⟨_, rfl, q⟩))
    | (have q : am_ret i = none := by assumption
       exact Or.inr (Or.inr ⟨rfl, q⟩))
    | (rename_i x y r; cases decide (x = 0) <;> exact True.intro)
theorem kd_act (i : Nat) (s : am_S) : kd_ag i (am_act i s) := by
  obtain ⟨pc, L, S, h⟩ := s
  show kd_ag i (match am_find (am_code i) pc with
    | some e => am_step i e L S h
    | none => none)
  split
  · exact kd_step ..
  · exact True.intro
theorem kd_run (n : Nat) : ∀ (i : Nat) (s : am_S) (r : am_R), am_run n i s = some r → kd i r.1 := by
  induction n with
  | zero => intro i s r h; cases h
  | succ n ih =>
    intro i s r hz
    have hg := kd_act i s
    have hz : am_do (fun j As h => bif am_rc j As h then am_run n j (0, am_l0 j As, [], h) else none) (am_run n i) (am_act i s) = some r := hz
    generalize am_act i s = a at hg hz
    match a, hg, hz with
    | some (.inl r0), hg, hz => cases hz; exact hg
    | some (.inr (.inl s)), hg, hz => exact ih _ _ _ hz
    | some (.inr (.inr (.inl (b, s, t)))), hg, hz =>
      cases b
      · exact ih _ _ _ hz
      · exact ih _ _ _ hz
    | some (.inr (.inr (.inr (.inl (x, t, d, L, S, h1))))), hg, hz =>
      exact am_sw_in (x := x) (t := t) (d := d) (K := fun pc => am_run n i (pc, L, S, h1)) (P := fun o => o = some r → kd i r.1) (fun p hp => ih _ _ _ hp) hz
    | some (.inr (.inr (.inr (.inr (.inl (o, f)))))), hg, hz =>
      cases o with
      | none => cases hz
      | some x => exact ih _ _ _ hz
    | some (.inr (.inr (.inr (.inr (.inr (.inl (o, f))))))), hg, hz =>
      cases o with
      | none => cases hz
      | some x => exact ih _ _ _ hz
    | some (.inr (.inr (.inr (.inr (.inr (.inr (.inl (o, f)))))))), hg, hz =>
      cases o with
      | none => cases hz
      | some x => exact ih _ _ _ hz
    | some (.inr (.inr (.inr (.inr (.inr (.inr (.inr (.inl (j, As, h1, f))))))))), hg, hz =>
      simp only [am_do] at hz
      generalize (bif am_rc j As h1 then am_run n j (0, am_l0 j As, [], h1) else none) = o at hz
      match o, hz with
      | some (some (.int x), h2), hz => exact ih _ _ _ hz
    | some (.inr (.inr (.inr (.inr (.inr (.inr (.inr (.inr (.inl (j, As, h1, f)))))))))), hg, hz =>
      simp only [am_do] at hz
      generalize (bif am_rc j As h1 then am_run n j (0, am_l0 j As, [], h1) else none) = o at hz
      match o, hz with
      | some (some (.long x), h2), hz => exact ih _ _ _ hz
    | some (.inr (.inr (.inr (.inr (.inr (.inr (.inr (.inr (.inr (.inl (j, As, h1, f))))))))))), hg, hz =>
      simp only [am_do] at hz
      generalize (bif am_rc j As h1 then am_run n j (0, am_l0 j As, [], h1) else none) = o at hz
      match o, hz with
      | some (none, h2), hz => exact ih _ _ _ hz
    | some (.inr (.inr (.inr (.inr (.inr (.inr (.inr (.inr (.inr (.inr (o, h1))))))))))), hg, hz =>
      cases o with
      | none => cases hz
      | some x => cases hz; exact hg x
theorem kd_cl {j : Nat} {As : List Value} {h : am_H} {r : am_R} (hz : am_cl j As h = some r) : kd j r.1 := by
  obtain ⟨n, hn⟩ := am_cl_iff.mp hz
  cases q : am_rc j As h <;> rw [q] at hn
  · cases hn
  · exact kd_run n _ _ _ hn
theorem kd_int {j : Nat} {As : List Value} {h h1 : am_H} {v : Value} {ty : FieldType} (hz : am_cl j As h = some (some v, h1)) (hj : am_ret j = some ty) (hty : ¬ ty = .long) : ∃ x, v = .int x := by
  rcases kd_cl hz with ⟨x, q, -⟩ | ⟨x, q, w⟩ | ⟨q, -⟩
  · exact ⟨x, Option.some.inj q⟩
  · rw [hj] at w; exact absurd (Option.some.inj w) hty
  · cases q
theorem kd_long {j : Nat} {As : List Value} {h h1 : am_H} {v : Value} (hz : am_cl j As h = some (some v, h1)) (hj : am_ret j = some .long) : ∃ x, v = .long x := by
  rcases kd_cl hz with ⟨x, q, w, -⟩ | ⟨x, q, w⟩ | ⟨q, -⟩
  · exact absurd hj w
  · exact ⟨x, Option.some.inj q⟩
  · cases q

/-! THE SCRIPT'S ARRAY IS NEVER WRITTEN -/
def f7_r (h h' : am_H) : Prop := ∀ l, h[0]? = some (.inl (7, l)) → h'[0]? = some (.inl (7, l))
theorem f7_r.rfl {h : am_H} : f7_r h h := fun _ z => z
theorem f7_r.trans {a b c : am_H} (h1 : f7_r a b) (h2 : f7_r b c) : f7_r a c := fun l z => h2 l (h1 l z)
theorem f7_set {h : am_H} {a : Nat} {c c' : am_C} (hc : h[a]? = some c) (hn : ∀ l, ¬ c = .inl (7, l)) : f7_r h (h.set a c') := by
  intro l z
  have : ¬ a = 0 := fun w => by
    subst w
    rw [hc] at z
    exact hn l (Option.some.inj z)
  rw [List.getElem?_set, if_neg this]
  exact z
theorem f7_pf {h h' : am_H} {a c k : Nat} {v : Value} (hh : am_pf h a c k v = some h') : f7_r h h' := by
  obtain ⟨fs, h1, -, rfl⟩ := am_pf_spec hh
  exact f7_set h1 (fun l z => by cases z)
theorem f7_as {h h' : am_H} {t a : Nat} {i v : Int32} (ht : ¬ t = 7) (hh : am_as h t a i v = some h') : f7_r h h' := by
  obtain ⟨l, h1, -, rfl⟩ := am_as_spec hh
  exact f7_set h1 (fun l z => by cases z; exact ht rfl)
theorem f7_qs {h h' : am_H} {a v : Nat} {i : Int32} (hh : am_qs h a i v = some h') : f7_r h h' := by
  obtain ⟨vs, fs, h1, -, -, rfl⟩ := am_qs_spec hh
  exact f7_set h1 (fun l z => by cases z)
theorem f7_cp {h h' : am_H} {a b : Nat} {sp dp n : Int32} (hh : am_cp h a sp b dp n = some h') : f7_r h h' := by
  obtain ⟨f, g, h1, h2, -, -, -, -, -, rfl⟩ := am_cp_spec hh
  exact f7_set h2 (fun l z => by cases z)
theorem f7_app {h : am_H} {c : am_C} : f7_r h (h ++ [c]) := by
  intro l z
  rw [List.getElem?_append_left (List.getElem?_eq_some_iff.mp z).1]
  exact z
theorem f7_na {h h' : am_H} {t : Nat} {n : Int32} (hh : am_na h t n = some h') : f7_r h h' := by
  obtain ⟨-, -, rfl⟩ := am_na_spec hh
  exact f7_app
theorem f7_nq {h h' : am_H} {c : Nat} {n : Int32} (hh : am_nq h c n = some h') : f7_r h h' := by
  obtain ⟨-, -, rfl⟩ := am_nq_spec hh
  exact f7_app
/-- an action's states have the same script -/
def f7_ag (h : am_H) (a : Option am_A) : Prop := match a with
  | none => True
  | some (.inl r) => f7_r h r.2
  | some (.inr (.inl s)) => f7_r h s.2.2.2
  | some (.inr (.inr (.inl (b, s, t)))) => f7_r h s.2.2.2 ∧ f7_r h t.2.2.2
  | some (.inr (.inr (.inr (.inl (x, t, d, L, S, h1))))) => f7_r h h1
  | some (.inr (.inr (.inr (.inr (.inl (o, f)))))) => ∀ x, o = some x → f7_r h (f x).2.2.2
  | some (.inr (.inr (.inr (.inr (.inr (.inl (o, f))))))) => ∀ x, o = some x → f7_r h (f x).2.2.2
  | some (.inr (.inr (.inr (.inr (.inr (.inr (.inl (o, f)))))))) => ∀ x, o = some x → f7_r h (f x).2.2.2
  | some (.inr (.inr (.inr (.inr (.inr (.inr (.inr (.inl (j, As, h1, f))))))))) => f7_r h h1 ∧ ∀ x h2, (f x h2).2.2.2 = h2
  | some (.inr (.inr (.inr (.inr (.inr (.inr (.inr (.inr (.inl (j, As, h1, f)))))))))) => f7_r h h1 ∧ ∀ x h2, (f x h2).2.2.2 = h2
  | some (.inr (.inr (.inr (.inr (.inr (.inr (.inr (.inr (.inr (.inl (j, As, h1, f))))))))))) => f7_r h h1 ∧ ∀ h2, (f h2).2.2.2 = h2
  | some (.inr (.inr (.inr (.inr (.inr (.inr (.inr (.inr (.inr (.inr (o, h1))))))))))) => f7_r h h1
theorem f7_inv (j n pc : Nat) (L S : List Value) (h : am_H) : f7_ag h (am_inv j n pc L S h) := by
  unfold am_inv
  cases (Nat.blt 8 (am_cat (S.drop n)) || (Nat.blt S.length n || !(Nat.beq (am_cat (S.take n)) n)))
  · cases Nat.blt j 1000
    · show f7_ag h (match j, S with
        | 1000, .int y :: .int x :: r => am_Go (pc, L, .int (am_max x y) :: r, h)
        | 1001, .int y :: .int x :: r => am_Go (pc, L, .int (am_min x y) :: r, h)
        | 1002, .int n :: .int dp :: .ref b :: .int sp :: .ref a :: r => am_Wr (am_cp h a sp b dp n) (fun h => (pc, L, r, h))
        | 1003, .ref _ :: r => am_Go (pc, L, r, h)
        | _, _ => none)
      split
      · exact f7_r.rfl
      · exact f7_r.rfl
      · exact fun x hx => f7_cp hx
      · exact f7_r.rfl
      · trivial
    · show f7_ag h (match am_ret j with
        | some .long => am_Cl j (S.take n).reverse h (fun x h => (pc, L, .long x :: S.drop n, h))
        | some _ => am_Ci j (S.take n).reverse h (fun x h => (pc, L, .int x :: S.drop n, h))
        | none => am_Cv j (S.take n).reverse h (fun h => (pc, L, S.drop n, h)))
      split
      · exact ⟨f7_r.rfl, fun _ _ => rfl⟩
      · exact ⟨f7_r.rfl, fun _ _ => rfl⟩
      · exact ⟨f7_r.rfl, fun _ => rfl⟩
  · trivial

theorem f7_bf {h h' : am_H} {b : Bool} {a c k : Nat} {v : Value} (hh : (bif b then am_pf h a c k v else none) = some h') : f7_r h h' := by
  cases b
  · cases hh
  · exact f7_pf hh
theorem f7_step (i : Nat) (e : am_E) (L S : List Value) (h : am_H) : f7_ag h (am_step i e L S h) := by
  obtain ⟨pc, ins, len, a1, a2, a3, ci, cl, sw⟩ := e
  cases ins <;> dsimp only [am_step] <;> (repeat' split) <;> first
    | exact f7_r.rfl
    | exact ⟨f7_r.rfl, f7_r.rfl⟩
    | exact fun x _ => f7_r.rfl
    | exact fun x hx => f7_pf hx
    | exact fun x hx => f7_bf hx
    | exact fun x hx => f7_as (by decide) hx
    | exact fun x hx => f7_qs hx
    | exact fun x hx => f7_na hx
    | exact fun x hx => f7_nq hx
    | exact f7_app
    | exact f7_inv ..
    | trivial
    | (rename_i x y r; cases decide (x = 0) <;> first | exact f7_r.rfl | trivial)
theorem f7_act (i : Nat) (s : am_S) : f7_ag s.2.2.2 (am_act i s) := by
  obtain ⟨pc, L, S, h⟩ := s
  show f7_ag h (match am_find (am_code i) pc with
    | some e => am_step i e L S h
    | none => none)
  split
  · exact f7_step ..
  · trivial
theorem f7_run (n : Nat) : ∀ (i : Nat) (s : am_S) (r : am_R), am_run n i s = some r → f7_r s.2.2.2 r.2 := by
  induction n with
  | zero => intro i s r h; cases h
  | succ n ih =>
    intro i s r hz
    have hg := f7_act i s
    have hz : am_do (fun j As h => bif am_rc j As h then am_run n j (0, am_l0 j As, [], h) else none) (am_run n i) (am_act i s) = some r := hz
    have hE : ∀ j As h r, (bif am_rc j As h then am_run n j (0, am_l0 j As, [], h) else none) = some r → f7_r h r.2 := by
      intro j As h r hr
      cases q : am_rc j As h <;> rw [q] at hr
      · cases hr
      · exact ih j _ r hr
    generalize am_act i s = a at hg hz
    match a, hg, hz with
    | some (.inl r0), hg, hz => cases hz; exact hg
    | some (.inr (.inl s)), hg, hz => exact hg.trans (ih _ _ _ hz)
    | some (.inr (.inr (.inl (b, s, t)))), hg, hz =>
      cases b
      · exact hg.2.trans (ih _ _ _ hz)
      · exact hg.1.trans (ih _ _ _ hz)
    | some (.inr (.inr (.inr (.inl (x, t, d, L, S, h1))))), hg, hz =>
      exact am_sw_in (x := x) (t := t) (d := d) (K := fun pc => am_run n i (pc, L, S, h1)) (P := fun o => o = some r → f7_r s.2.2.2 r.2) (fun p hp => f7_r.trans hg (ih _ _ _ hp)) hz
    | some (.inr (.inr (.inr (.inr (.inl (o, f)))))), hg, hz =>
      cases o with
      | none => cases hz
      | some x => exact (hg x rfl).trans (ih _ _ _ hz)
    | some (.inr (.inr (.inr (.inr (.inr (.inl (o, f))))))), hg, hz =>
      cases o with
      | none => cases hz
      | some x => exact (hg x rfl).trans (ih _ _ _ hz)
    | some (.inr (.inr (.inr (.inr (.inr (.inr (.inl (o, f)))))))), hg, hz =>
      cases o with
      | none => cases hz
      | some x => exact (hg x rfl).trans (ih _ _ _ hz)
    | some (.inr (.inr (.inr (.inr (.inr (.inr (.inr (.inl (j, As, h1, f))))))))), hg, hz =>
      have e := hE j As h1
      simp only [am_do] at hz
      generalize (bif am_rc j As h1 then am_run n j (0, am_l0 j As, [], h1) else none) = o at hz e
      match o, hz, e with
      | some (some (.int x), h2), hz, e =>
        have h3 := ih _ _ _ hz
        rw [hg.2 x h2] at h3
        exact hg.1.trans (f7_r.trans (e _ rfl) h3)
    | some (.inr (.inr (.inr (.inr (.inr (.inr (.inr (.inr (.inl (j, As, h1, f)))))))))), hg, hz =>
      have e := hE j As h1
      simp only [am_do] at hz
      generalize (bif am_rc j As h1 then am_run n j (0, am_l0 j As, [], h1) else none) = o at hz e
      match o, hz, e with
      | some (some (.long x), h2), hz, e =>
        have h3 := ih _ _ _ hz
        rw [hg.2 x h2] at h3
        exact hg.1.trans (f7_r.trans (e _ rfl) h3)
    | some (.inr (.inr (.inr (.inr (.inr (.inr (.inr (.inr (.inr (.inl (j, As, h1, f))))))))))), hg, hz =>
      have e := hE j As h1
      simp only [am_do] at hz
      generalize (bif am_rc j As h1 then am_run n j (0, am_l0 j As, [], h1) else none) = o at hz e
      match o, hz, e with
      | some (none, h2), hz, e =>
        have h3 := ih _ _ _ hz
        rw [hg.2 h2] at h3
        exact hg.1.trans (f7_r.trans (e _ rfl) h3)
    | some (.inr (.inr (.inr (.inr (.inr (.inr (.inr (.inr (.inr (.inr (o, h1))))))))))), hg, hz =>
      cases o with
      | none => cases hz
      | some x => cases hz; exact hg
/-- a call leaves the script as it was -/
theorem f7_cl {j : Nat} {As : List Value} {h : am_H} {r : am_R} (hz : am_cl j As h = some r) : f7_r h r.2 := by
  obtain ⟨n, hn⟩ := am_cl_iff.mp hz
  cases q : am_rc j As h <;> rw [q] at hn
  · cases hn
  · exact f7_run n _ _ _ hn
theorem f7_heap {A A1 : Nat → List Int32} {F F1 : Nat → Int32} {P P1 : Nat → Nat} {j : Nat} {As : List Value} {v : Option Value} (hz : am_cl j As (heap A F P) = some (v, heap A1 F1 P1)) : A1 0 = A 0 := by
  have h := f7_cl hz (A 0) rfl
  have e : (heap A1 F1 P1)[0]? = some (.inl (7, A1 0)) := rfl
  have h : (heap A1 F1 P1)[0]? = some (.inl (7, A 0)) := h
  rw [e] at h
  exact (Prod.mk.inj (Sum.inl.inj (Option.some.inj h))).2

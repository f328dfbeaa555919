/-! the abstract heap only grows -/
def am_sz (c : am_C) : Nat := match c with
  | .inl (_, l) => l.length
  | .inr (_, vs) => vs.length
def am_sl (h : am_H) : Nat := (h.map am_sz).sum
def am_gr_ (h h' : am_H) : Prop := h.length ≤ h'.length ∧ am_sl h ≤ am_sl h'
theorem am_gr_.rfl {h : am_H} : am_gr_ h h := ⟨Nat.le_refl _, Nat.le_refl _⟩
theorem am_gr_.trans {a b c : am_H} (h1 : am_gr_ a b) (h2 : am_gr_ b c) : am_gr_ a c := ⟨Nat.le_trans h1.1 h2.1, Nat.le_trans h1.2 h2.2⟩
theorem am_sl_set {h : am_H} {a : Nat} {c c' : am_C} (hc : h[a]? = some c) (hz : am_sz c' = am_sz c) : am_sl (h.set a c') = am_sl h := by
  induction h generalizing a with
  | nil => simp at hc
  | cons x r ih =>
    cases a with
    | zero =>
      have e : x = c := by simpa using hc
      subst e
      simp [am_sl, hz]
    | succ a =>
      have e := ih (a := a) (by simpa using hc)
      simp only [am_sl, List.set_cons_succ, List.map_cons, List.sum_cons] at e ⊢
      rw [e]
theorem am_sl_app (h : am_H) (c : am_C) : am_sl (h ++ [c]) = am_sl h + am_sz c := by simp [am_sl]
theorem am_set_eq {h : am_H} {a : Nat} {c c' : am_C} (hc : h[a]? = some c) (hz : am_sz c' = am_sz c) : (h.set a c').length = h.length ∧ am_sl (h.set a c') = am_sl h := ⟨by simp, am_sl_set hc hz⟩
theorem am_pf_spec {h h' : am_H} {a c k : Nat} {v : Value} (hh : am_pf h a c k v = some h') : ∃ fs, h[a]? = some (.inr (c, fs)) ∧ k < fs.length ∧ h' = h.set a (.inr (c, fs.set k v)) := by
  unfold am_pf at hh
  split at hh
  · rename_i c' fs e
    cases q : (Nat.beq c' c && Nat.blt k fs.length) <;> rw [q] at hh
    · cases hh
    · obtain ⟨q1, q2⟩ := Bool.and_eq_true_iff.mp q
      have q1 := Nat.eq_of_beq_eq_true q1
      subst q1
      cases hh
      exact ⟨fs, e, Nat.le_of_ble_eq_true q2, rfl⟩
  · cases hh
theorem am_as_spec {h h' : am_H} {t a : Nat} {i v : Int32} (hh : am_as h t a i v = some h') : ∃ l, h[a]? = some (.inl (t, l)) ∧ am_in i l.length = true ∧ h' = h.set a (.inl (t, l.set i.toNatClampNeg v)) := by
  unfold am_as at hh
  split at hh
  · rename_i t' l e
    cases q : (Nat.beq t' t && am_in i l.length) <;> rw [q] at hh
    · cases hh
    · obtain ⟨q1, q2⟩ := Bool.and_eq_true_iff.mp q
      have q1 := Nat.eq_of_beq_eq_true q1
      subst q1
      cases hh
      exact ⟨l, e, q2, rfl⟩
  · cases hh
theorem am_qs_spec {h h' : am_H} {a v : Nat} {i : Int32} (hh : am_qs h a i v = some h') : ∃ vs fs, h[a]? = some (.inr (am_qc + 100, vs)) ∧ am_in i vs.length = true ∧ h[v]? = some (.inr (am_qc, fs)) ∧ h' = h.set a (.inr (am_qc + 100, vs.set i.toNatClampNeg (.ref v))) := by
  unfold am_qs at hh
  split at hh
  · rename_i c vs e
    cases q : (Nat.beq c (am_qc + 100) && am_in i vs.length) <;> rw [q] at hh
    · cases hh
    · obtain ⟨q1, q2⟩ := Bool.and_eq_true_iff.mp q
      have hh : (match h[v]? with
        | some (.inr (c', _)) => bif Nat.beq (c' + 100) c then some (h.set a (.inr (c, vs.set i.toNatClampNeg (.ref v)))) else none
        | _ => none) = some h' := hh
      split at hh
      · rename_i c' fs e2
        cases q3 : Nat.beq (c' + 100) c <;> rw [q3] at hh
        · cases hh
        · have q3 := Nat.eq_of_beq_eq_true q3
          have q1 := Nat.eq_of_beq_eq_true q1
          have q4 : c' = am_qc := by omega
          subst q1
          subst q4
          cases hh
          exact ⟨vs, fs, e, q2, e2, rfl⟩
      · cases hh
  · cases hh
theorem am_na_spec {h h' : am_H} {t : Nat} {n : Int32} (hh : am_na h t n = some h') : ¬ n < 0 ∧ n.toNatClampNeg ≤ 1000000 ∧ h' = h ++ [.inl (t, List.replicate n.toNatClampNeg 0)] := by
  unfold am_na at hh
  cases q : (decide (n < 0) || Nat.blt 1000000 n.toNatClampNeg) <;> rw [q] at hh
  · obtain ⟨q1, q2⟩ := Bool.or_eq_false_iff.mp q
    cases hh
    refine ⟨of_decide_eq_false q1, ?_, rfl⟩
    have : ¬ 1000000 < n.toNatClampNeg := fun z => by
      have := Nat.ble_eq_true_of_le (show 1000000 + 1 ≤ n.toNatClampNeg from z)
      rw [show Nat.blt 1000000 n.toNatClampNeg = Nat.ble (1000000 + 1) n.toNatClampNeg from rfl, this] at q2
      cases q2
    omega
  · cases hh
theorem am_nq_spec {h h' : am_H} {c : Nat} {n : Int32} (hh : am_nq h c n = some h') : ¬ n < 0 ∧ n.toNatClampNeg ≤ 1000000 ∧ h' = h ++ [.inr (c + 100, List.replicate n.toNatClampNeg .null)] := by
  unfold am_nq at hh
  cases q : (decide (n < 0) || Nat.blt 1000000 n.toNatClampNeg) <;> rw [q] at hh
  · obtain ⟨q1, q2⟩ := Bool.or_eq_false_iff.mp q
    cases hh
    refine ⟨of_decide_eq_false q1, ?_, rfl⟩
    have : ¬ 1000000 < n.toNatClampNeg := fun z => by
      have := Nat.ble_eq_true_of_le (show 1000000 + 1 ≤ n.toNatClampNeg from z)
      rw [show Nat.blt 1000000 n.toNatClampNeg = Nat.ble (1000000 + 1) n.toNatClampNeg from rfl, this] at q2
      cases q2
    omega
  · cases hh
theorem am_cp_spec {h h' : am_H} {a b : Nat} {sp dp n : Int32} (hh : am_cp h a sp b dp n = some h') : ∃ f g, h[a]? = some (.inl (0, f)) ∧ h[b]? = some (.inl (0, g)) ∧ ¬ sp < 0 ∧ ¬ dp < 0 ∧ ¬ n < 0 ∧ sp.toNatClampNeg + n.toNatClampNeg ≤ f.length ∧ dp.toNatClampNeg + n.toNatClampNeg ≤ g.length ∧ h' = h.set b (.inl (0, am_cpl f g sp.toNatClampNeg dp.toNatClampNeg n.toNatClampNeg)) := by
  unfold am_cp at hh
  split at hh
  · rename_i f e1
    split at hh
    · rename_i g e2
      cases q : (!(decide (sp < 0)) && (!(decide (dp < 0)) && (!(decide (n < 0)) && (Nat.ble (sp.toNatClampNeg + n.toNatClampNeg) f.length && Nat.ble (dp.toNatClampNeg + n.toNatClampNeg) g.length)))) <;> rw [q] at hh
      · cases hh
      · simp only [Bool.and_eq_true, Bool.not_eq_true', decide_eq_false_iff_not] at q
        obtain ⟨q1, q2, q3, q4, q5⟩ := q
        cases hh
        exact ⟨f, g, e1, e2, q1, q2, q3, Nat.le_of_ble_eq_true q4, Nat.le_of_ble_eq_true q5, rfl⟩
    · cases hh
  · cases hh
theorem am_gr_pf {h h' : am_H} {a c k : Nat} {v : Value} (hh : am_pf h a c k v = some h') : am_gr_ h h' := by
  obtain ⟨fs, h1, -, rfl⟩ := am_pf_spec hh
  have := am_set_eq h1 (c' := .inr (c, fs.set k v)) (by simp [am_sz])
  exact ⟨Nat.le_of_eq this.1.symm, Nat.le_of_eq this.2.symm⟩
theorem am_gr_as {h h' : am_H} {t a : Nat} {i v : Int32} (hh : am_as h t a i v = some h') : am_gr_ h h' := by
  obtain ⟨l, h1, -, rfl⟩ := am_as_spec hh
  have := am_set_eq h1 (c' := .inl (t, l.set i.toNatClampNeg v)) (by simp [am_sz])
  exact ⟨Nat.le_of_eq this.1.symm, Nat.le_of_eq this.2.symm⟩
theorem am_gr_qs {h h' : am_H} {a v : Nat} {i : Int32} (hh : am_qs h a i v = some h') : am_gr_ h h' := by
  obtain ⟨vs, fs, h1, -, -, rfl⟩ := am_qs_spec hh
  have := am_set_eq h1 (c' := .inr (am_qc + 100, vs.set i.toNatClampNeg (.ref v))) (by simp [am_sz])
  exact ⟨Nat.le_of_eq this.1.symm, Nat.le_of_eq this.2.symm⟩
theorem am_gr_cp {h h' : am_H} {a b : Nat} {sp dp n : Int32} (hh : am_cp h a sp b dp n = some h') : am_gr_ h h' := by
  obtain ⟨f, g, h1, h2, -, -, -, -, -, rfl⟩ := am_cp_spec hh
  have := am_set_eq h2 (c' := .inl (0, am_cpl f g sp.toNatClampNeg dp.toNatClampNeg n.toNatClampNeg)) (by simp [am_sz, am_cpl])
  exact ⟨Nat.le_of_eq this.1.symm, Nat.le_of_eq this.2.symm⟩
theorem am_gr_app {h : am_H} {c : am_C} : am_gr_ h (h ++ [c]) := ⟨by simp, by rw [am_sl_app]; omega⟩
theorem am_gr_na {h h' : am_H} {t : Nat} {n : Int32} (hh : am_na h t n = some h') : am_gr_ h h' := by
  obtain ⟨-, -, rfl⟩ := am_na_spec hh
  exact am_gr_app
theorem am_gr_nq {h h' : am_H} {c : Nat} {n : Int32} (hh : am_nq h c n = some h') : am_gr_ h h' := by
  obtain ⟨-, -, rfl⟩ := am_nq_spec hh
  exact am_gr_app
/-- an action's states have heaps that grew -/
def am_ag (h : am_H) (a : Option am_A) : Prop := match a with
  | none => True
  | some (.inl r) => am_gr_ h r.2
  | some (.inr (.inl s)) => am_gr_ h s.2.2.2
  | some (.inr (.inr (.inl (b, s, t)))) => am_gr_ h s.2.2.2 ∧ am_gr_ h t.2.2.2
  | some (.inr (.inr (.inr (.inl (x, t, d, L, S, h1))))) => am_gr_ h h1
  | some (.inr (.inr (.inr (.inr (.inl (o, f)))))) => ∀ x, o = some x → am_gr_ h (f x).2.2.2
  | some (.inr (.inr (.inr (.inr (.inr (.inl (o, f))))))) => ∀ x, o = some x → am_gr_ h (f x).2.2.2
  | some (.inr (.inr (.inr (.inr (.inr (.inr (.inl (o, f)))))))) => ∀ x, o = some x → am_gr_ h (f x).2.2.2
  | some (.inr (.inr (.inr (.inr (.inr (.inr (.inr (.inl (j, As, h1, f))))))))) => am_gr_ h h1 ∧ ∀ x h2, (f x h2).2.2.2 = h2
  | some (.inr (.inr (.inr (.inr (.inr (.inr (.inr (.inr (.inl (j, As, h1, f)))))))))) => am_gr_ h h1 ∧ ∀ x h2, (f x h2).2.2.2 = h2
  | some (.inr (.inr (.inr (.inr (.inr (.inr (.inr (.inr (.inr (.inl (j, As, h1, f))))))))))) => am_gr_ h h1 ∧ ∀ h2, (f h2).2.2.2 = h2
  | some (.inr (.inr (.inr (.inr (.inr (.inr (.inr (.inr (.inr (.inr (o, h1))))))))))) => am_gr_ h h1
theorem am_inv_ag (j n pc : Nat) (L S : List Value) (h : am_H) : am_ag h (am_inv j n pc L S h) := by
  unfold am_inv
  cases (Nat.blt 8 (am_cat (S.drop n)) || (Nat.blt S.length n || !(Nat.beq (am_cat (S.take n)) n || am_la j S)))
  · cases Nat.blt j 1000
    · show am_ag h (match j, S with
        | 1000, .int y :: .int x :: r => am_Go (pc, L, .int (am_max x y) :: r, h)
        | 1001, .int y :: .int x :: r => am_Go (pc, L, .int (am_min x y) :: r, h)
        | 1002, .int n :: .int dp :: .ref b :: .int sp :: .ref a :: r => am_Wr (am_cp h a sp b dp n) (fun h => (pc, L, r, h))
        | 1003, .ref _ :: r => am_Go (pc, L, r, h)
        | _, _ => none)
      split
      · exact am_gr_.rfl
      · exact am_gr_.rfl
      · exact fun x hx => am_gr_cp hx
      · exact am_gr_.rfl
      · trivial
    · show am_ag h (match am_ret j with
        | some .long => am_Cl j (S.take n).reverse h (fun x h => (pc, L, .long x :: S.drop n, h))
        | some _ => am_Ci j (S.take n).reverse h (fun x h => (pc, L, .int x :: S.drop n, h))
        | none => am_Cv j (S.take n).reverse h (fun h => (pc, L, S.drop n, h)))
      split
      · exact ⟨am_gr_.rfl, fun _ _ => rfl⟩
      · exact ⟨am_gr_.rfl, fun _ _ => rfl⟩
      · exact ⟨am_gr_.rfl, fun _ => rfl⟩
  · trivial

theorem am_gr_bf {h h' : am_H} {b : Bool} {a c k : Nat} {v : Value} (hh : (bif b then am_pf h a c k v else none) = some h') : am_gr_ h h' := by
  cases b
  · cases hh
  · exact am_gr_pf hh
theorem am_step_ag (i : Nat) (e : am_E) (L S : List Value) (h : am_H) : am_ag h (am_step i e L S h) := by
  obtain ⟨pc, ins, len, a1, a2, a3, ci, cl, sw⟩ := e
  cases ins <;> dsimp only [am_step] <;> (repeat' split) <;> first
    | exact am_gr_.rfl
    | exact ⟨am_gr_.rfl, am_gr_.rfl⟩
    | exact fun x _ => am_gr_.rfl
    | exact fun x hx => am_gr_pf hx
    | exact fun x hx => am_gr_bf hx
    | exact fun x hx => am_gr_as hx
    | exact fun x hx => am_gr_qs hx
    | exact fun x hx => am_gr_na hx
    | exact fun x hx => am_gr_nq hx
    | exact am_gr_app
    | exact am_inv_ag ..
    | trivial
    | (cases (am_dl i a1 && !(am_nl L a1)) <;> first | exact am_gr_.rfl | trivial)
    | (rename_i x y r; cases decide (x = 0) <;> first | exact am_gr_.rfl | trivial)
theorem am_act_ag (i : Nat) (s : am_S) : am_ag s.2.2.2 (am_act i s) := by
  obtain ⟨pc, L, S, h⟩ := s
  show am_ag h (match am_find (am_code i) pc with
    | some e => am_step i e L S h
    | none => none)
  split
  · exact am_step_ag ..
  · trivial
theorem am_sw_in {x : Int32} {t : List (Int32 × Nat)} {d : Nat} {K : Nat → Option am_R} {P : Option am_R → Prop} (h : ∀ p, P (K p)) : P (am_sw x t d K) := by
  induction t with
  | nil => exact h d
  | cons q r ih =>
    unfold am_sw
    cases decide (x = q.1)
    · exact ih
    · exact h q.2
theorem am_run_gr (n : Nat) : ∀ (i : Nat) (s : am_S) (r : am_R), am_run n i s = some r → am_gr_ s.2.2.2 r.2 := by
  induction n with
  | zero => intro i s r h; cases h
  | succ n ih =>
    intro i s r hz
    have hg := am_act_ag i s
    have hz : am_do (fun j As h => bif am_rc j As h then am_run n j (0, am_l0 j As, [], h) else none) (am_run n i) (am_act i s) = some r := hz
    have hE : ∀ j As h r, (bif am_rc j As h then am_run n j (0, am_l0 j As, [], h) else none) = some r → am_gr_ h r.2 := by
      intro j As h r hr
      cases q : am_rc j As h <;> rw [q] at hr
      · cases hr
      · exact ih j _ r hr
    generalize am_act i s = a at hg hz
    match a, hg, hz with
    | some (.inl r0), hg, hz => cases hz; exact hg
    | some (.inr (.inl s)), hg, hz => exact hg.trans (ih _ _ _ hz)
    | some (.inr (.inr (.inl (b, s, t)))), hg, hz =>
      cases b
      · exact hg.2.trans (ih _ _ _ hz)
      · exact hg.1.trans (ih _ _ _ hz)
    | some (.inr (.inr (.inr (.inl (x, t, d, L, S, h1))))), hg, hz =>
      exact am_sw_in (x := x) (t := t) (d := d) (K := fun pc => am_run n i (pc, L, S, h1)) (P := fun o => o = some r → am_gr_ s.2.2.2 r.2) (fun p hp => am_gr_.trans hg (ih _ _ _ hp)) hz
    | some (.inr (.inr (.inr (.inr (.inl (o, f)))))), hg, hz =>
      cases o with
      | none => cases hz
      | some x => exact (hg x rfl).trans (ih _ _ _ hz)
    | some (.inr (.inr (.inr (.inr (.inr (.inl (o, f))))))), hg, hz =>
      cases o with
      | none => cases hz
      | some x => exact (hg x rfl).trans (ih _ _ _ hz)
    | some (.inr (.inr (.inr (.inr (.inr (.inr (.inl (o, f)))))))), hg, hz =>
      cases o with
      | none => cases hz
      | some x => exact (hg x rfl).trans (ih _ _ _ hz)
    | some (.inr (.inr (.inr (.inr (.inr (.inr (.inr (.inl (j, As, h1, f))))))))), hg, hz =>
      have e := hE j As h1
      simp only [am_do] at hz
      generalize (bif am_rc j As h1 then am_run n j (0, am_l0 j As, [], h1) else none) = o at hz e
      match o, hz, e with
      | some (some (.int x), h2), hz, e =>
        have h3 := ih _ _ _ hz
        rw [hg.2 x h2] at h3
        exact hg.1.trans (am_gr_.trans (e _ rfl) h3)
    | some (.inr (.inr (.inr (.inr (.inr (.inr (.inr (.inr (.inl (j, As, h1, f)))))))))), hg, hz =>
      have e := hE j As h1
      simp only [am_do] at hz
      generalize (bif am_rc j As h1 then am_run n j (0, am_l0 j As, [], h1) else none) = o at hz e
      match o, hz, e with
      | some (some (.long x), h2), hz, e =>
        have h3 := ih _ _ _ hz
        rw [hg.2 x h2] at h3
        exact hg.1.trans (am_gr_.trans (e _ rfl) h3)
    | some (.inr (.inr (.inr (.inr (.inr (.inr (.inr (.inr (.inr (.inl (j, As, h1, f))))))))))), hg, hz =>
      have e := hE j As h1
      simp only [am_do] at hz
      generalize (bif am_rc j As h1 then am_run n j (0, am_l0 j As, [], h1) else none) = o at hz e
      match o, hz, e with
      | some (none, h2), hz, e =>
        have h3 := ih _ _ _ hz
        rw [hg.2 h2] at h3
        exact hg.1.trans (am_gr_.trans (e _ rfl) h3)
    | some (.inr (.inr (.inr (.inr (.inr (.inr (.inr (.inr (.inr (.inr (o, h1))))))))))), hg, hz =>
      cases o with
      | none => cases hz
      | some x => cases hz; exact hg

/-- what an instruction gives, with E for calls and K for what goes on -/
def am_do (E : Nat → List Value → am_H → Option am_R) (K : am_S → Option am_R) (a : Option am_A) : Option am_R := match a with
  | none => none
  | some (.inl r) => some r
  | some (.inr (.inl s)) => K s
  | some (.inr (.inr (.inl (b, s, t)))) => bif b then K s else K t
  | some (.inr (.inr (.inr (.inl (x, t, d, L, S, h))))) => am_sw x t d (fun pc => K (pc, L, S, h))
  | some (.inr (.inr (.inr (.inr (.inl (o, f)))))) => Option.bind o (fun x => K (f x))
  | some (.inr (.inr (.inr (.inr (.inr (.inl (o, f))))))) => Option.bind o (fun x => K (f x))
  | some (.inr (.inr (.inr (.inr (.inr (.inr (.inl (o, f)))))))) => Option.bind o (fun x => K (f x))
  | some (.inr (.inr (.inr (.inr (.inr (.inr (.inr (.inl (j, As, h, f))))))))) => am_bi (E j As h) (fun x h => K (f x h))
  | some (.inr (.inr (.inr (.inr (.inr (.inr (.inr (.inr (.inl (j, As, h, f)))))))))) => am_bl (E j As h) (fun x h => K (f x h))
  | some (.inr (.inr (.inr (.inr (.inr (.inr (.inr (.inr (.inr (.inl (j, As, h, f))))))))))) => am_bv (E j As h) (fun h => K (f h))
  | some (.inr (.inr (.inr (.inr (.inr (.inr (.inr (.inr (.inr (.inr (o, h))))))))))) => Option.bind o (fun x => some (some (.int x), h))
def am_act (i : Nat) (s : am_S) : Option am_A := match s with
  | (pc, L, S, h) => match am_find (am_code i) pc with
    | some e => am_step i e L S h
    | none => none
/-- the receiver is an object of the method's class -/
def am_rc (j : Nat) (As : List Value) (h : am_H) : Bool := match am_rk j with
  | none => true
  | some c => (match As with
    | .ref a :: _ => (match h[a]? with
      | some (.inr (c', _)) => Nat.beq c' c
      | _ => false)
    | _ => false)
def am_run : Nat → Nat → am_S → Option am_R
  | 0, _, _ => none
  | n + 1, i, s => am_do (fun j As h => bif am_rc j As h then am_run n j (0, am_l0 j As, [], h) else none) (am_run n i) (am_act i s)
/-- one computation is below another -/
def am_le (a b : Option am_R) : Prop := ∀ r, a = some r → b = some r
theorem am_sw_le {x : Int32} {t : List (Int32 × Nat)} {d : Nat} {K K' : Nat → Option am_R} (h : ∀ p, am_le (K p) (K' p)) : am_le (am_sw x t d K) (am_sw x t d K') := by
  induction t with
  | nil => exact h d
  | cons q r ih =>
    unfold am_sw
    cases decide (x = q.1)
    · exact ih
    · exact h q.2
theorem am_do_le {E E' : Nat → List Value → am_H → Option am_R} {K K' : am_S → Option am_R} (hE : ∀ j As h, am_le (E j As h) (E' j As h)) (hK : ∀ s, am_le (K s) (K' s)) (a : Option am_A) : am_le (am_do E K a) (am_do E' K' a) := by
  intro z hz
  match a, hz with
  | some (.inl r), hz => exact hz
  | some (.inr (.inl s)), hz => exact hK s z hz
  | some (.inr (.inr (.inl (b, s, t)))), hz =>
    cases b
    · exact hK t z hz
    · exact hK s z hz
  | some (.inr (.inr (.inr (.inl (x, t, d, L, S, h))))), hz => exact am_sw_le (fun p => hK _) z hz
  | some (.inr (.inr (.inr (.inr (.inl (o, f)))))), hz =>
    cases o with
    | none => exact hz
    | some x => exact hK _ z hz
  | some (.inr (.inr (.inr (.inr (.inr (.inl (o, f))))))), hz =>
    cases o with
    | none => exact hz
    | some x => exact hK _ z hz
  | some (.inr (.inr (.inr (.inr (.inr (.inr (.inl (o, f)))))))), hz =>
    cases o with
    | none => exact hz
    | some x => exact hK _ z hz
  | some (.inr (.inr (.inr (.inr (.inr (.inr (.inr (.inl (j, As, h, f))))))))), hz =>
    have e := hE j As h
    simp only [am_do] at hz ⊢
    generalize E j As h = a at hz e
    cases a with
    | none => cases hz
    | some r => rw [e r rfl]; match r, hz with
      | (some (.int x), h1), hz => exact hK _ z hz
  | some (.inr (.inr (.inr (.inr (.inr (.inr (.inr (.inr (.inl (j, As, h, f)))))))))), hz =>
    have e := hE j As h
    simp only [am_do] at hz ⊢
    generalize E j As h = a at hz e
    cases a with
    | none => cases hz
    | some r => rw [e r rfl]; match r, hz with
      | (some (.long x), h1), hz => exact hK _ z hz
  | some (.inr (.inr (.inr (.inr (.inr (.inr (.inr (.inr (.inr (.inl (j, As, h, f))))))))))), hz =>
    have e := hE j As h
    simp only [am_do] at hz ⊢
    generalize E j As h = a at hz e
    cases a with
    | none => cases hz
    | some r => rw [e r rfl]; match r, hz with
      | (none, h1), hz => exact hK _ z hz
  | some (.inr (.inr (.inr (.inr (.inr (.inr (.inr (.inr (.inr (.inr (o, h))))))))))), hz => exact hz
theorem am_run_succ (n : Nat) : ∀ (i : Nat) (s : am_S), am_le (am_run n i s) (am_run (n + 1) i s) := by
  induction n with
  | zero => intro i s r h; cases h
  | succ n ih =>
    intro i s
    refine am_do_le (fun j As h => ?_) (fun s => ih i s) _
    cases am_rc j As h
    · exact fun r h => h
    · exact ih j _
theorem am_run_le {n m : Nat} (h : n ≤ m) (i : Nat) (s : am_S) : am_le (am_run n i s) (am_run m i s) := by
  induction h with
  | refl => exact fun r h => h
  | step _ ih => exact fun r h => am_run_succ _ i s r (ih r h)
/-- what method i gives from a state, if it comes to an end -/
noncomputable def am_ev (i : Nat) (s : am_S) : Option am_R := @dite _ (∃ r n, am_run n i s = some r) (Classical.propDecidable _) (fun h => some h.choose) (fun _ => none)
theorem am_ev_iff {i : Nat} {s : am_S} {r : am_R} : am_ev i s = some r ↔ ∃ n, am_run n i s = some r := by
  unfold am_ev
  constructor
  · intro h
    split at h
    · rename_i g
      cases h
      exact g.choose_spec
    · cases h
  · intro h
    have g : ∃ r n, am_run n i s = some r := ⟨r, h⟩
    rw [dif_pos g]
    obtain ⟨n, hn⟩ := h
    obtain ⟨m, hm⟩ := g.choose_spec
    have h1 := am_run_le (Nat.le_max_left n m) i s _ hn
    have h2 := am_run_le (Nat.le_max_right n m) i s _ hm
    rw [h1] at h2
    exact h2.symm
theorem am_ev_none {i : Nat} {s : am_S} : am_ev i s = none ↔ ∀ n, am_run n i s = none := by
  constructor
  · intro h n
    cases g : am_run n i s with
    | none => rfl
    | some r => rw [am_ev_iff.mpr ⟨n, g⟩] at h; cases h
  · intro h
    cases g : am_ev i s with
    | none => rfl
    | some r => obtain ⟨n, hn⟩ := am_ev_iff.mp g; rw [h n] at hn; cases hn
/-- a call -/
noncomputable def am_cl (j : Nat) (As : List Value) (h : am_H) : Option am_R := bif am_rc j As h then am_ev j (0, am_l0 j As, [], h) else none
theorem am_cl_iff {j : Nat} {As : List Value} {h : am_H} {r : am_R} : am_cl j As h = some r ↔ ∃ n, (bif am_rc j As h then am_run n j (0, am_l0 j As, [], h) else none) = some r := by
  unfold am_cl
  cases am_rc j As h
  · constructor
    · intro h
      cases h
    · intro h
      obtain ⟨_, h⟩ := h
      cases h
  · exact am_ev_iff
theorem am_cl_le {n m : Nat} (hnm : n ≤ m) {j : Nat} {As : List Value} {h : am_H} {r : am_R} (hn : (bif am_rc j As h then am_run n j (0, am_l0 j As, [], h) else none) = some r) : (bif am_rc j As h then am_run m j (0, am_l0 j As, [], h) else none) = some r := by
  cases e : am_rc j As h <;> rw [e] at hn
  · cases hn
  · exact am_run_le hnm _ _ _ hn
theorem am_sw_fin {x : Int32} {t : List (Int32 × Nat)} {d : Nat} {K : Nat → Option am_R} {K' : Nat → Nat → Option am_R} {r : am_R} (h : ∀ p, K p = some r → ∃ n, K' n p = some r) (hz : am_sw x t d K = some r) : ∃ n, am_sw x t d (K' n) = some r := by
  induction t with
  | nil => exact h d hz
  | cons q rest ih =>
    unfold am_sw at hz ⊢
    cases g : decide (x = q.1) <;> rw [g] at hz
    · exact ih hz
    · exact h q.2 hz
theorem am_do_fin {i : Nat} (a : Option am_A) {z : am_R} (hz : am_do am_cl (am_ev i) a = some z) : ∃ n, am_do (fun j As h => bif am_rc j As h then am_run n j (0, am_l0 j As, [], h) else none) (am_run n i) a = some z := by
  match a, hz with
  | some (.inl r), hz => exact ⟨0, hz⟩
  | some (.inr (.inl s)), hz => exact am_ev_iff.mp hz
  | some (.inr (.inr (.inl (b, s, t)))), hz =>
    cases b
    · exact am_ev_iff.mp hz
    · exact am_ev_iff.mp hz
  | some (.inr (.inr (.inr (.inl (x, t, d, L, S, h))))), hz =>
    exact am_sw_fin (K' := fun n pc => am_run n i (pc, L, S, h)) (fun p hp => am_ev_iff.mp hp) hz
  | some (.inr (.inr (.inr (.inr (.inl (o, f)))))), hz =>
    cases o with
    | none => cases hz
    | some x => exact am_ev_iff.mp hz
  | some (.inr (.inr (.inr (.inr (.inr (.inl (o, f))))))), hz =>
    cases o with
    | none => cases hz
    | some x => exact am_ev_iff.mp hz
  | some (.inr (.inr (.inr (.inr (.inr (.inr (.inl (o, f)))))))), hz =>
    cases o with
    | none => cases hz
    | some x => exact am_ev_iff.mp hz
  | some (.inr (.inr (.inr (.inr (.inr (.inr (.inr (.inl (j, As, h, f))))))))), hz =>
    cases e : am_cl j As h with
    | none => simp only [am_do, e, am_bi] at hz; cases hz
    | some r => match r, e with
      | (some (.int x), h1), e =>
        simp only [am_do, e, am_bi] at hz
        obtain ⟨n, hn⟩ := am_cl_iff.mp e
        obtain ⟨m, hm⟩ := am_ev_iff.mp hz
        refine ⟨max n m, ?_⟩
        simp only [am_do]
        rw [am_cl_le (Nat.le_max_left n m) hn]
        exact am_run_le (Nat.le_max_right n m) _ _ _ hm
      | (some (.long _), _), e | (some (.float _), _), e | (some (.double _), _), e | (some .null, _), e | (some (.ref _), _), e | (some (.retAddr _), _), e | (none, _), e => simp only [am_do, e, am_bi] at hz; cases hz
  | some (.inr (.inr (.inr (.inr (.inr (.inr (.inr (.inr (.inl (j, As, h, f)))))))))), hz =>
    cases e : am_cl j As h with
    | none => simp only [am_do, e, am_bl] at hz; cases hz
    | some r => match r, e with
      | (some (.long x), h1), e =>
        simp only [am_do, e, am_bl] at hz
        obtain ⟨n, hn⟩ := am_cl_iff.mp e
        obtain ⟨m, hm⟩ := am_ev_iff.mp hz
        refine ⟨max n m, ?_⟩
        simp only [am_do]
        rw [am_cl_le (Nat.le_max_left n m) hn]
        exact am_run_le (Nat.le_max_right n m) _ _ _ hm
      | (some (.int _), _), e | (some (.float _), _), e | (some (.double _), _), e | (some .null, _), e | (some (.ref _), _), e | (some (.retAddr _), _), e | (none, _), e => simp only [am_do, e, am_bl] at hz; cases hz
  | some (.inr (.inr (.inr (.inr (.inr (.inr (.inr (.inr (.inr (.inl (j, As, h, f))))))))))), hz =>
    cases e : am_cl j As h with
    | none => simp only [am_do, e, am_bv] at hz; cases hz
    | some r => match r, e with
      | (none, h1), e =>
        simp only [am_do, e, am_bv] at hz
        obtain ⟨n, hn⟩ := am_cl_iff.mp e
        obtain ⟨m, hm⟩ := am_ev_iff.mp hz
        refine ⟨max n m, ?_⟩
        simp only [am_do]
        rw [am_cl_le (Nat.le_max_left n m) hn]
        exact am_run_le (Nat.le_max_right n m) _ _ _ hm
      | (some x, _), e => simp only [am_do, e, am_bv] at hz; cases hz
  | some (.inr (.inr (.inr (.inr (.inr (.inr (.inr (.inr (.inr (.inr (o, h))))))))))), hz => exact ⟨0, hz⟩
theorem am_ev_eq (i : Nat) (s : am_S) : am_ev i s = am_do am_cl (am_ev i) (am_act i s) := by
  cases e : am_do am_cl (am_ev i) (am_act i s) with
  | some z =>
    obtain ⟨n, hn⟩ := am_do_fin _ e
    exact am_ev_iff.mpr ⟨n + 1, hn⟩
  | none =>
    refine am_ev_none.mpr fun n => ?_
    cases g : am_run n i s with
    | none => rfl
    | some r =>
      cases n with
      | zero => cases g
      | succ n =>
        have := am_do_le (E' := am_cl) (K' := am_ev i) (fun j As h r hr => am_cl_iff.mpr ⟨n, hr⟩) (fun s r hr => am_ev_iff.mpr ⟨n, hr⟩) _ r g
        rw [e] at this
        cases this
def am_elem (l : List Nat) (k : Nat) : Bool := match l with
  | [] => false
  | x :: r => bif Nat.beq x k then true else am_elem r k
/-- n instructions at most, not beyond the places of 'stop' -/
noncomputable def am_go (stop : List Nat) : Nat → Nat → am_S → Option am_R
  | 0, i, s => am_ev i s
  | n + 1, i, s => am_do am_cl (fun s' => bif am_elem stop s'.1 then am_ev i s' else am_go stop n i s') (am_act i s)
theorem am_go_eq (stop : List Nat) (n : Nat) : ∀ (i : Nat) (s : am_S), am_go stop n i s = am_ev i s := by
  induction n with
  | zero => intro i s; rfl
  | succ n ih =>
    intro i s
    show am_do am_cl (fun s' => bif am_elem stop s'.1 then am_ev i s' else am_go stop n i s') (am_act i s) = _
    rw [am_ev_eq i s]
    congr 1
    funext s'
    rw [ih]
    cases am_elem stop s'.1 <;> rfl
theorem am_blk (stop : List Nat) (n : Nat) {i : Nat} {s : am_S} {t : Option am_R} (h : am_go stop n i s = t) : am_ev i s = t := (am_go_eq stop n i s).symm.trans h

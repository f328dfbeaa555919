/-! A LETTER IS READ by both -/
theorem altR_inr {T : Nat → Int32} {t nl p l a e : Nat} (hp : p ≤ t) (h : altR T t nl p = .inr (l, a, e)) : l < nl ∧ 1 ≤ a ∧ a ≤ 1000000 ∧ p + 3 ≤ e ∧ e ≤ t ∧ ¬ dgt T t e := by
  unfold altR at h
  obtain ⟨s1, s2, s3, s4, -⟩ := numL_spec T t hp
  by_cases c1 : ¬ (numL T t p).1 = p ∧ ¬ dgt T t (numL T t p).1 ∧ (numL T t p).2 < nl
  · rw [cif_t c1] at h
    by_cases c2 : (numL T t p).1 < t ∧ T (numL T t p).1 = nI 61
    · rw [cif_t c2] at h
      obtain ⟨t1, t2, t3, t4, t5, t6, -⟩ := numA_spec T t (p := (numL T t p).1 + 1) c2.1
      by_cases c3 : ¬ (numA T t ((numL T t p).1 + 1)).1 = (numL T t p).1 + 1 ∧ ¬ dgt T t (numA T t ((numL T t p).1 + 1)).1 ∧ (numA T t ((numL T t p).1 + 1)).2 ≤ 1000000
      · rw [cif_t c3] at h
        have h := Sum.inr.inj h
        obtain ⟨h1, h2⟩ := Prod.mk.inj h
        obtain ⟨h2, h3⟩ := Prod.mk.inj h2
        subst h1
        subst h2
        subst h3
        have := t6 c3.1
        have := c3.1
        have := c1.1
        exact ⟨c1.2.2, by omega, c3.2.2, by omega, t2, c3.2.1⟩
      · rw [cif_f c3] at h; cases h
    · rw [cif_f c2] at h; cases h
  · rw [cif_f c1] at h; cases h
theorem altR_inl {T : Nat → Int32} {t nl p f : Nat} (hp : p ≤ t) (h : altR T t nl p = .inl f) : f ≤ t := by
  unfold altR at h
  obtain ⟨s1, s2, s3, s4, -⟩ := numL_spec T t hp
  by_cases c1 : ¬ (numL T t p).1 = p ∧ ¬ dgt T t (numL T t p).1 ∧ (numL T t p).2 < nl
  · rw [cif_t c1] at h
    by_cases c2 : (numL T t p).1 < t ∧ T (numL T t p).1 = nI 61
    · rw [cif_t c2] at h
      obtain ⟨t1, t2, t3, t4, t5, t6, -⟩ := numA_spec T t (p := (numL T t p).1 + 1) c2.1
      have := c2.1
      by_cases c3 : ¬ (numA T t ((numL T t p).1 + 1)).1 = (numL T t p).1 + 1 ∧ ¬ dgt T t (numA T t ((numL T t p).1 + 1)).1 ∧ (numA T t ((numL T t p).1 + 1)).2 ≤ 1000000
      · rw [cif_t c3] at h; cases h
      · rw [cif_f c3] at h
        have h := Sum.inl.inj h
        by_cases c4 : ¬ (numA T t ((numL T t p).1 + 1)).1 = (numL T t p).1 + 1 ∧ dgt T t (numA T t ((numL T t p).1 + 1)).1
        · rw [cif_t c4] at h; omega
        · rw [cif_f c4] at h; omega
    · rw [cif_f c2] at h
      have h := Sum.inl.inj h
      omega
  · rw [cif_f c1] at h
    have h := Sum.inl.inj h
    by_cases c4 : ¬ (numL T t p).1 = p ∧ dgt T t (numL T t p).1
    · rw [cif_t c4] at h; omega
    · rw [cif_f c4] at h; omega
section X
variable {A : Nat → List Int32} {F : Nat → Int32} {P : Nat → Nat} {T : Nat → Int32} {t : Nat}
theorem c_alt (hc : CL A F T t) {p k w nl : Nat} (hp : p ≤ t) (hk : p < t → k < 20) (hnl : nl ≤ 20) (f5 : F 18405 = nI k) (f6 : F 18406 = nI w) (f7 : F 18407 = nI 0) (f8 : F 18408 = nI 0) (f9 : F 18409 = nI 0) (u3 u4 u5 : Value) :
    (∀ f, altR T t nl p = .inl f → ∃ A' F', LfA A A' ∧ LfF F F' ∧ ((A' 187).length = 20 ∧ (A' 189).length = 20 ∧ (A' 191).length = 20) ∧ am_ev m_Letter_read (21, [.ref 184, .int (nI nl), .int (nI p), u3, u4, u5], [], heap A F P) = some (some (.int (nI f)), heap A' F' P)) ∧
    (∀ l a e, altR T t nl p = .inr (l, a, e) → ∃ F' u3' u4' u5' d, LfF F F' ∧ F' 18405 = nI k ∧ F' 18406 = nI w ∧ F' 18407 = nI 1 ∧ F' 18408 = nI a ∧ 0 < d ∧ d ≤ 80 ∧ F' 18409 = nI d ∧ am_ev m_Letter_read (21, [.ref 184, .int (nI nl), .int (nI p), u3, u4, u5], [], heap A F P) = am_ev m_Letter_read (21, [.ref 184, .int (nI nl), .int (nI e), u3', u4', u5'], [], heap (up A 187 ((A 187).set k (nI l))) F' P)) := by
  obtain ⟨x1, x2, x3⟩ := c_altL (P := P) hc hp hk hnl f5 f6 f7 f8 f9 u3 u4 u5
  have hl := hc.2.2.2.2
  unfold altR
  by_cases c1 : ¬ (numL T t p).1 = p ∧ ¬ dgt T t (numL T t p).1 ∧ (numL T t p).2 < nl
  · rw [cif_t c1]
    by_cases c2 : (numL T t p).1 < t ∧ T (numL T t p).1 = nI 61
    · rw [cif_t c2]
      obtain ⟨F1, v3, v4, v5, q1, q5, q6, q7, q8, q9, q10⟩ := x3 c1 c2
      have hA1 : LfA A (up A 187 ((A 187).set k (nI (numL T t p).2))) := fun j z1 z2 z3 => up_ne _ _ z1
      have hl1 : (up A 187 ((A 187).set k (nI (numL T t p).2)) 187).length = 20 := by rw [up_eq, List.length_set]; exact hl.1
      have hl2 : (up A 187 ((A 187).set k (nI (numL T t p).2)) 189).length = 20 := by rw [up_ne _ _ (by omega)]; exact hl.2.1
      have hl3 : (up A 187 ((A 187).set k (nI (numL T t p).2)) 191).length = 20 := by rw [up_ne _ _ (by omega)]; exact hl.2.2
      have hc1 : CL (up A 187 ((A 187).set k (nI (numL T t p).2))) F1 T t := CL_c hc hA1 q1 hl1 hl2 hl3
      obtain ⟨y1, y2⟩ := c_altA (P := P) (nl := nl) hc1 (p := (numL T t p).1 + 1) c2.1 q5 q6 q7 q8 q9 v3 v4 v5
      by_cases c3 : ¬ (numA T t ((numL T t p).1 + 1)).1 = (numL T t p).1 + 1 ∧ ¬ dgt T t (numA T t ((numL T t p).1 + 1)).1 ∧ (numA T t ((numL T t p).1 + 1)).2 ≤ 1000000
      · rw [cif_t c3]
        refine ⟨fun f hf => (by cases hf), fun l a e he => ?_⟩
        cases he
        obtain ⟨F2, w3, w4, w5, d, r1, r5, r6, r7, r8, r9, r10, r11, r12⟩ := y2 c3
        exact ⟨F2, w3, w4, w5, d, q1.trans r1, r5, r6, r7, r8, r9, r10, r11, q10.trans r12⟩
      · rw [cif_f c3]
        refine ⟨fun f hf => ?_, fun l a e he => (by cases he)⟩
        cases hf
        obtain ⟨F2, r1, r2⟩ := y1 c3
        exact ⟨_, F2, hA1, q1.trans r1, ⟨hl1, hl2, hl3⟩, q10.trans r2⟩
    · rw [cif_f c2]
      refine ⟨fun f hf => ?_, fun l a e he => (by cases he)⟩
      cases hf
      obtain ⟨F1, r1, r2⟩ := x2 c1 c2
      exact ⟨A, F1, fun _ _ _ _ => rfl, r1, hl, r2⟩
  · rw [cif_f c1]
    refine ⟨fun f hf => ?_, fun l a e he => (by cases he)⟩
    cases hf
    obtain ⟨F1, r1, r2⟩ := x1 c1
    exact ⟨A, F1, fun _ _ _ _ => rfl, r1, hl, r2⟩
end X

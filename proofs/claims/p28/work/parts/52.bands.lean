section S
variable {a a' : Nat → List Int32} {r R : List Int32} {nB i j p : Nat} {x v : Int32}
theorem SimB_lt (h : SimB a r nB) {m n : Nat} (hm : m < nB) (hn : n < nB) (he : g r (1 + m) = g r (1 + n)) : m = n := by
  obtain ⟨b1, b2, b3, b4, b5, b6, b7⟩ := h
  rcases Nat.lt_trichotomy m n with z | z | z
  · have := b6 m n z hn; rw [he] at this; exact absurd this Int32.lt_irrefl
  · exact z
  · have := b6 n m z hm; rw [he] at this; exact absurd this Int32.lt_irrefl
theorem SimB_ix (h : SimB a r nB) {m n : Nat} (hm : m < nB) (hn : n < nB) (he : g (a 3) m = g (a 3) n) : m = n := by
  obtain ⟨b1, b2, b3, b4, b5, b6, b7⟩ := h
  rcases Nat.lt_trichotomy m n with z | z | z
  · exact absurd he (b7 m n z hn)
  · exact z
  · exact absurd he.symm (b7 n m z hm)
theorem SimB_rep (h : SimB a r nB) (h3 : (a 3).length = 8) (h5 : (a 5).length = 8) (h8 : nB ≤ 8) (hi : i < nB) (hj : j < nB) (hx : g (a 3) i = x) (hy : g r (1 + j) = x) (hv : rg v 1 100000) (e3 : a' 3 = (a 3).set i x) (e5 : a' 5 = (a 5).set i v) (hR1 : ∀ m, m < nB → g R (1 + m) = g r (1 + m)) (hR9 : ∀ m, m < nB → ¬ m = j → g R (9 + m) = g r (9 + m)) (hRj : g R (9 + j) = v) : SimB a' R nB := by
  have hh := h
  obtain ⟨b1, b2, b3, b4, b5, b6, b7⟩ := h
  have e3' : ∀ k, g (a' 3) k = g (a 3) k := by
    intro k
    rw [e3]
    by_cases c : k = i
    · subst c; rw [g_seq (by omega), hx]
    · rw [g_sne (by omega) c]
  have e5' : ∀ k, ¬ k = i → g (a' 5) k = g (a 5) k := fun k c => by rw [e5, g_sne (by omega) c]
  have e5i : g (a' 5) i = v := by rw [e5, g_seq (by omega)]
  refine ⟨fun k hk => ?_, fun m hm => ?_, by rw [e3']; exact b3, by rw [hR1 0 (by omega)]; exact b4, fun m hm => ?_, fun m n z1 z2 => ?_, fun m n z1 z2 => ?_⟩
  · by_cases c : k = i
    · subst c
      exact ⟨j, hj, by rw [e3', hR1 j hj, hx, hy], by rw [e5i, hRj]⟩
    · obtain ⟨m, m1, m2, m3⟩ := b1 k hk
      have hne : ¬ m = j := fun z => c (SimB_ix hh hk hi (by rw [m2, z, hy, hx]))
      exact ⟨m, m1, by rw [e3', hR1 m m1]; exact m2, by rw [e5' k c, hR9 m m1 hne]; exact m3⟩
  · by_cases c : m = j
    · subst c
      exact ⟨i, hi, by rw [e3', hR1 m hm, hx, hy], by rw [e5i, hRj]⟩
    · obtain ⟨k, k1, k2, k3⟩ := b2 m hm
      have hne : ¬ k = i := fun z => c (SimB_lt hh hm hj (by rw [← k2, z, hx, hy]))
      exact ⟨k, k1, by rw [e3', hR1 m hm]; exact k2, by rw [e5' k hne, hR9 m hm c]; exact k3⟩
  · rw [hR1 m hm]
    by_cases c : m = j
    · subst c
      rw [hRj]; exact ⟨(b5 m hm).1, hv⟩
    · rw [hR9 m hm c]; exact b5 m hm
  · rw [hR1 m (by omega), hR1 n z2]; exact b6 m n z1 z2
  · rw [e3', e3']; exact b7 m n z1 z2
theorem SimB_ins (h : SimB a r nB) (h3 : (a 3).length = 8) (h5 : (a 5).length = 8) (h8 : nB < 8) (hR : InsR r R nB x v p) (hno : ∀ m, m < nB → ¬ g r (1 + m) = x) (hx : rg x 0 1000000) (hv : rg v 1 100000) (e3 : a' 3 = (a 3).set nB x) (e5 : a' 5 = (a 5).set nB v) : SimB a' R (nB + 1) := by
  have hh := h
  obtain ⟨b1, b2, b3, b4, b5, b6, b7⟩ := h
  obtain ⟨r0, r1, r2, r3, r4, r5, r6, r7, r8, r9, r10⟩ := hR
  have lo : ∀ k, k < nB → g (a' 3) k = g (a 3) k ∧ g (a' 5) k = g (a 5) k := fun k hk => by
    rw [e3, e5, g_sne (by omega) (by omega), g_sne (by omega) (by omega)]; exact ⟨rfl, rfl⟩
  have hi3 : g (a' 3) nB = x := by rw [e3, g_seq (by omega)]
  have hi5 : g (a' 5) nB = v := by rw [e5, g_seq (by omega)]
  have nw : ∀ m, m < nB → ∃ m', m' < nB + 1 ∧ ¬ m' = p ∧ (m' = if m < p then m else m + 1) ∧ g R (1 + m') = g r (1 + m) ∧ g R (9 + m') = g r (9 + m) := by
    intro m hm
    by_cases c : m < p
    · exact ⟨m, by omega, by omega, by rw [if_pos c], (r4 m c).1, (r4 m c).2⟩
    · exact ⟨m + 1, by omega, by omega, by rw [if_neg c], (r7 m (by omega) hm).1, (r7 m (by omega) hm).2⟩
  have od : ∀ m', m' < nB + 1 → ¬ m' = p → ∃ m, m < nB ∧ (m' = if m < p then m else m + 1) ∧ g R (1 + m') = g r (1 + m) ∧ g R (9 + m') = g r (9 + m) := by
    intro m' hm' hne
    by_cases c : m' < p
    · exact ⟨m', by omega, by rw [if_pos c], (r4 m' c).1, (r4 m' c).2⟩
    · have q := r7 (m' - 1) (by omega) (by omega)
      have e1 : m' - 1 + 1 = m' := by omega
      rw [e1] at q
      exact ⟨m' - 1, by omega, by rw [if_neg (by omega)]; omega, q.1, q.2⟩
  have below : ∀ m, m < p → g r (1 + m) < x := by
    intro m hm
    have q : g r (1 + (p - 1)) < x := by
      rcases Int32.lt_or_eq_of_le r9 with z | z
      · exact z
      · exact absurd z (hno _ (by omega))
    rcases Nat.eq_or_lt_of_le (show m ≤ p - 1 by omega) with z | z
    · rw [z]; exact q
    · exact Int32.lt_trans (b6 m (p - 1) z (by omega)) q
  refine ⟨fun k hk => ?_, fun m' hm' => ?_, ?_, ?_, fun m' hm' => ?_, fun m n z1 z2 => ?_, fun m n z1 z2 => ?_⟩
  · by_cases c : k = nB
    · subst c
      exact ⟨p, by omega, by rw [hi3, r5], by rw [hi5, r6]⟩
    · obtain ⟨m, m1, m2, m3⟩ := b1 k (by omega)
      obtain ⟨m', n1, n2, n3, n4, n5⟩ := nw m m1
      obtain ⟨l1, l2⟩ := lo k (by omega)
      exact ⟨m', n1, by rw [l1, n4]; exact m2, by rw [l2, n5]; exact m3⟩
  · by_cases c : m' = p
    · subst c
      exact ⟨nB, by omega, by rw [hi3, r5], by rw [hi5, r6]⟩
    · obtain ⟨m, n1, n2, n3, n4⟩ := od m' hm' c
      obtain ⟨k, k1, k2, k3⟩ := b2 m n1
      obtain ⟨l1, l2⟩ := lo k k1
      exact ⟨k, by omega, by rw [l1, n3]; exact k2, by rw [l2, n4]; exact k3⟩
  · by_cases c : nB = 0
    · omega
    · rw [(lo 0 (by omega)).1]; exact b3
  · have := (r4 0 (by omega)).1
    exact this.trans b4
  · by_cases c : m' = p
    · subst c; rw [r5, r6]; exact ⟨hx, hv⟩
    · obtain ⟨m, n1, n2, n3, n4⟩ := od m' hm' c
      rw [n3, n4]; exact b5 m n1
  · by_cases c : m = p
    · subst c
      obtain ⟨n', n1, n2, n3, n4⟩ := od n z2 (by omega)
      rw [r5, n3]
      refine r10 n' ?_ n1
      split at n2 <;> omega
    · obtain ⟨m', m1, m2, m3, m4⟩ := od m (by omega) c
      by_cases d : n = p
      · subst d
        rw [r5, m3]
        refine below m' ?_
        split at m2 <;> omega
      · obtain ⟨n', n1, n2, n3, n4⟩ := od n z2 d
        rw [m3, n3]
        refine b6 m' n' ?_ n1
        split at m2 <;> split at n2 <;> omega
  · have hm := lo m (by omega)
    by_cases d : n = nB
    · subst d
      rw [hm.1, hi3]
      obtain ⟨k, k1, k2, k3⟩ := b1 m (by omega)
      rw [k2]
      exact hno k k1
    · rw [hm.1, (lo n (by omega)).1]
      exact b7 m n z1 (by omega)
theorem SimB_del (h : SimB a r nB) (h3 : (a 3).length = 8) (h5 : (a 5).length = 8) (h8 : nB ≤ 8) (hi : i < nB) (hp1 : 1 ≤ p) (hp : p < nB) (hx : g (a 3) i = g r (1 + p)) (hR : DelR r R nB p) (e3 : a' 3 = (a 3).set i (g (a 3) (nB - 1))) (e5 : a' 5 = (a 5).set i (g (a 5) (nB - 1))) : SimB a' R (nB - 1) := by
  have hh := h
  obtain ⟨b1, b2, b3, b4, b5, b6, b7⟩ := h
  obtain ⟨r0, r1, r2, r3, r4⟩ := hR
  -- class: k stands for o k
  have cl : ∀ k, k < nB - 1 → ∃ k', k' < nB ∧ ¬ k' = i ∧ (k' = if k = i then nB - 1 else k) ∧ g (a' 3) k = g (a 3) k' ∧ g (a' 5) k = g (a 5) k' := by
    intro k hk
    by_cases c : k = i
    · subst c
      exact ⟨nB - 1, by omega, by omega, by rw [if_pos rfl], by rw [e3, g_seq (by omega)], by rw [e5, g_seq (by omega)]⟩
    · exact ⟨k, by omega, c, by rw [if_neg c], by rw [e3, g_sne (by omega) c], by rw [e5, g_sne (by omega) c]⟩
  have lc : ∀ k', k' < nB → ¬ k' = i → ∃ k, k < nB - 1 ∧ g (a' 3) k = g (a 3) k' ∧ g (a' 5) k = g (a 5) k' := by
    intro k' hk' hne
    by_cases c : k' = nB - 1
    · subst c
      exact ⟨i, by omega, by rw [e3, g_seq (by omega)], by rw [e5, g_seq (by omega)]⟩
    · exact ⟨k', by omega, by rw [e3, g_sne (by omega) hne], by rw [e5, g_sne (by omega) hne]⟩
  have md : ∀ m, m < nB - 1 → ∃ m', m' < nB ∧ ¬ m' = p ∧ (m' = if m < p then m else m + 1) ∧ g R (1 + m) = g r (1 + m') ∧ g R (9 + m) = g r (9 + m') := by
    intro m hm
    by_cases c : m < p
    · exact ⟨m, by omega, by omega, by rw [if_pos c], (r2 m c).1, (r2 m c).2⟩
    · exact ⟨m + 1, by omega, by omega, by rw [if_neg c], (r3 m (by omega) (by omega)).1, (r3 m (by omega) (by omega)).2⟩
  have dm : ∀ m', m' < nB → ¬ m' = p → ∃ m, m < nB - 1 ∧ g R (1 + m) = g r (1 + m') ∧ g R (9 + m) = g r (9 + m') := by
    intro m' hm' hne
    by_cases c : m' < p
    · exact ⟨m', by omega, (r2 m' c).1, (r2 m' c).2⟩
    · have q := r3 (m' - 1) (by omega) (by omega)
      have e1 : m' - 1 + 1 = m' := by omega
      rw [e1] at q
      exact ⟨m' - 1, by omega, q.1, q.2⟩
  have i0 : ¬ i = 0 := by
    intro z
    rw [z, b3] at hx
    have := SimB_lt hh (m := 0) (n := p) (by omega) hp (by rw [← hx]; exact b4)
    omega
  refine ⟨fun k hk => ?_, fun m hm => ?_, ?_, ?_, fun m hm => ?_, fun m n z1 z2 => ?_, fun m n z1 z2 => ?_⟩
  · obtain ⟨k', k1, k2, k3, k4, k5⟩ := cl k hk
    obtain ⟨m', m1, m2, m3⟩ := b1 k' k1
    have hne : ¬ m' = p := fun z => k2 (SimB_ix hh k1 hi (by rw [m2, z, hx]))
    obtain ⟨m, n1, n2, n3⟩ := dm m' m1 hne
    exact ⟨m, n1, by rw [k4, n2]; exact m2, by rw [k5, n3]; exact m3⟩
  · obtain ⟨m', m1, m2, m3, m4, m5⟩ := md m hm
    obtain ⟨k', k1, k2, k3⟩ := b2 m' m1
    have hne : ¬ k' = i := fun z => m2 (SimB_lt hh m1 hp (by rw [← k2, z, hx]))
    obtain ⟨k, n1, n2, n3⟩ := lc k' k1 hne
    exact ⟨k, n1, by rw [n2, m4]; exact k2, by rw [n3, m5]; exact k3⟩
  · rw [e3, g_sne (by omega) (fun z => i0 z.symm)]; exact b3
  · exact ((r2 0 (by omega)).1).trans b4
  · obtain ⟨m', m1, m2, m3, m4, m5⟩ := md m hm
    rw [m4, m5]; exact b5 m' m1
  · obtain ⟨m', m1, m2, m3, m4, m5⟩ := md m (by omega)
    obtain ⟨n', n1, n2, n3, n4, n5⟩ := md n z2
    rw [m4, n4]
    refine b6 m' n' ?_ n1
    split at m3 <;> split at n3 <;> omega
  · obtain ⟨k', k1, k2, k3, k4, k5⟩ := cl m (by omega)
    obtain ⟨n', n1, n2, n3, n4, n5⟩ := cl n z2
    rw [k4, n4]
    intro z
    have := SimB_ix hh k1 n1 z
    split at k3 <;> split at n3 <;> omega
end S

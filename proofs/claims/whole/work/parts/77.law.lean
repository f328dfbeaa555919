/-! THE LAW'S LOOP -/
section
variable {A : Nat → List Int32} {F : Nat → Int32} {P : Nat → Nat} {nB nl nb nx q t : Nat}
theorem l_b {α : Type} {o : Option α} {x : α} {f : α → Option am_R} (h : o = some x) : Option.bind o f = f x := by rw [h]; rfl
theorem l_no {c : Prop} [Decidable c] {X Y : Option am_R} (h : ¬ c) : (bif decide c then X else Y) = Y := by rw [decide_eq_false h]; rfl
theorem l_yes {c : Prop} [Decidable c] {X Y : Option am_R} (h : c) : (bif decide c then X else Y) = X := by rw [decide_eq_true h]; rfl
theorem l_bi {o : Option am_R} {x : Int32} {h1 : am_H} {f : Int32 → am_H → Option am_R} (h : o = some (some (.int x), h1)) : am_bi o f = f x h1 := by rw [h]; rfl
theorem l_bl {o : Option am_R} {x : Int64} {h1 : am_H} {f : Int64 → am_H → Option am_R} (h : o = some (some (.long x), h1)) : am_bl o f = f x h1 := by rw [h]; rfl
theorem rd_len (A : Nat → List Int32) (F : Nat → Int32) (P : Nat → Nat) : am_len (heap A F P) 0 = some (nI (A 0).length) := rfl
theorem rd_k {xl : List Int32} {k : Nat} (hA : A 0 = xl) (hL : xl.length ≤ 3072) (hk : k < xl.length) : am_al (heap A F P) 0 0 (nI k) = some (g xl k) := by
  have e : am_al (heap A F P) 0 0 (nI k) = (bif (Nat.beq 7 0 || (Nat.beq 7 7 && (Nat.beq 0 0 && Nat.beq 0 0))) && am_in (nI k) (A 0).length then (A 0)[(nI k).toNatClampNeg]? else none) := rfl
  have c1 : (nI k).toNatClampNeg = k := nI_clamp (by omega)
  have c2 : am_in (nI k) (A 0).length = true := by
    unfold am_in
    have : decide (nI k < 0) = false := decide_eq_false (nI_pos (by omega))
    rw [c1, this, hA]
    exact Nat.ble_eq_true_of_le hk
  rw [e, c1, c2, hA, List.getElem?_eq_getElem hk]
  show some xl[k] = some (g xl k)
  congr 1
  unfold g
  rw [List.getD_eq_getElem?_getD, List.getElem?_eq_getElem hk]
  rfl
theorem rd_i {xl : List Int32} {k : Nat} (i : Nat) {x : Int32} (hA : A 0 = xl) (hL : xl.length ≤ 3072) (hk : k + 6 ≤ xl.length) (hx : x = nI i) (hi : i < 6) : am_al (heap A F P) 0 0 (nI k + x) = some (g xl (k + i)) := by
  rw [hx, nI_addS]
  exact rd_k hA hL (by omega)
theorem rd_ex {L k : Nat} (hL : L ≤ 3072) (hk : k ≤ 3072) (h : ¬ nI L - 6 < nI k) : k + 6 ≤ L := by
  refine Nat.le_of_not_lt fun z => h ?_
  by_cases c : 6 ≤ L
  · have : nI L - 6 = nI (L - 6) := nI_subS c
    rw [this, nI_lt' (by omega) (by omega)]
    omega
  · have h0 : nI 0 ≤ nI k := nI_le (Nat.zero_le _) (by omega)
    have : nI L - 6 < nI 0 := by
      have : L = 0 ∨ L = 1 ∨ L = 2 ∨ L = 3 ∨ L = 4 ∨ L = 5 := by omega
      rcases this with rfl | rfl | rfl | rfl | rfl | rfl <;> decide
    exact Int32.lt_of_lt_of_le this h0
theorem rd_in {L k : Nat} (hL : L ≤ 3072) (hk : k + 6 ≤ L) : ¬ nI L - 6 < nI k := by
  have : nI L - 6 = nI (L - 6) := nI_subS (show 6 ≤ L by omega)
  rw [this, nI_lt' (by omega) (by omega)]
  omega
/-- one step of the law -/
def Next (A : Nat → List Int32) (F : Nat → Int32) (P : Nat → Nat) (k : Nat) : Prop := ∃ A2 F2 P2, Inv A2 F2 P2 ∧ A2 0 = A 0 ∧ am_ev m_law (18, [.ref 0, .ref 1, .ref 192, .int (nI k)], [], heap A F P) = am_ev m_law (18, [.ref 0, .ref 1, .ref 192, .int (nI (k + 6))], [], heap A2 F2 P2)
theorem law_0 (hI : InvN A F P nB nl nb nx q t) {k : Nat} {xl : List Int32} (hA : A 0 = xl) (hL : xl.length ≤ 3072) (hk : k + 6 ≤ xl.length) (ho : g xl k &&& 31 = 0) : Next A F P k := by
  obtain ⟨v, A1, F1, P1, A2, F2, P2, z1, z2, hI2⟩ := k_setBand hI (g xl (k + 1)) (g xl (k + 2))
  have hA1 : A1 0 = xl := (f7_heap z1).trans hA
  have hA2 : A2 0 = xl := (f7_heap z2).trans hA1
  obtain ⟨w, rfl⟩ := kd_int z1 rfl (by decide)
  refine ⟨A2, F2, P2, hI2, hA2.trans hA.symm, ?_⟩
  refine (b_law_18 0 1 192 (nI k) _).trans ?_
  refine (l_b (rd_len A F P)).trans ?_
  refine (l_no (by rw [hA]; exact rd_in hL hk)).trans ?_
  refine (l_b (rd_k hA hL (by omega))).trans ?_
  rw [ho]
  refine (l_yes rfl).trans ?_
  refine (l_b (rd_i 1 hA hL hk rfl (by omega))).trans ?_
  refine (l_b (rd_i 2 hA hL hk rfl (by omega))).trans ?_
  refine (l_bi z1).trans ?_
  refine (l_b (rd_i 1 hA1 hL hk rfl (by omega))).trans ?_
  refine (l_b (rd_i 2 hA1 hL hk rfl (by omega))).trans ?_
  refine (l_bi z2).trans ?_
  refine (l_yes rfl).trans ?_
  rw [show nI k + 6 = nI (k + 6) from nI_addS k 6]
theorem law_1 (hI : InvN A F P nB nl nb nx q t) {k : Nat} {xl : List Int32} (hA : A 0 = xl) (hL : xl.length ≤ 3072) (hk : k + 6 ≤ xl.length) (ho : g xl k &&& 31 = 1) : Next A F P k := by
  obtain ⟨v, A1, F1, P1, A2, F2, P2, z1, z2, hI2⟩ := k_removeBand hI (g xl (k + 1))
  have hA1 : A1 0 = xl := (f7_heap z1).trans hA
  have hA2 : A2 0 = xl := (f7_heap z2).trans hA1
  obtain ⟨w, rfl⟩ := kd_int z1 rfl (by decide)
  refine ⟨A2, F2, P2, hI2, hA2.trans hA.symm, ?_⟩
  refine (b_law_18 0 1 192 (nI k) _).trans ?_
  refine (l_b (rd_len A F P)).trans ?_
  refine (l_no (by rw [hA]; exact rd_in hL hk)).trans ?_
  refine (l_b (rd_k hA hL (by omega))).trans ?_
  rw [ho]
  refine (l_no (by decide)).trans ?_
  refine (l_yes rfl).trans ?_
  refine (l_b (rd_i 1 hA hL hk rfl (by omega))).trans ?_
  refine (l_bi z1).trans ?_
  refine (l_b (rd_i 1 hA1 hL hk rfl (by omega))).trans ?_
  refine (l_bi z2).trans ?_
  refine (l_yes rfl).trans ?_
  rw [show nI k + 6 = nI (k + 6) from nI_addS k 6]
theorem law_2 (hI : InvN A F P nB nl nb nx q t) {k : Nat} {xl : List Int32} (hA : A 0 = xl) (hL : xl.length ≤ 3072) (hk : k + 6 ≤ xl.length) (ho : g xl k &&& 31 = 2) : Next A F P k := by
  obtain ⟨v, A1, F1, P1, A2, F2, P2, z1, z2, hI2⟩ := k_valid hI (g xl (k + 1)) (g xl (k + 2))
  have hA1 : A1 0 = xl := (f7_heap z1).trans hA
  have hA2 : A2 0 = xl := (f7_heap z2).trans hA1
  obtain ⟨w, rfl⟩ := kd_int z1 rfl (by decide)
  refine ⟨A2, F2, P2, hI2, hA2.trans hA.symm, ?_⟩
  refine (b_law_18 0 1 192 (nI k) _).trans ?_
  refine (l_b (rd_len A F P)).trans ?_
  refine (l_no (by rw [hA]; exact rd_in hL hk)).trans ?_
  refine (l_b (rd_k hA hL (by omega))).trans ?_
  rw [ho]
  refine (l_no (by decide)).trans ?_
  refine (l_no (by decide)).trans ?_
  refine (l_yes rfl).trans ?_
  refine (l_b (rd_i 1 hA hL hk rfl (by omega))).trans ?_
  refine (l_b (rd_i 2 hA hL hk rfl (by omega))).trans ?_
  refine (l_bi z1).trans ?_
  refine (l_b (rd_i 1 hA1 hL hk rfl (by omega))).trans ?_
  refine (l_b (rd_i 2 hA1 hL hk rfl (by omega))).trans ?_
  refine (l_bi z2).trans ?_
  refine (l_yes rfl).trans ?_
  rw [show nI k + 6 = nI (k + 6) from nI_addS k 6]
theorem law_3 (hI : InvN A F P nB nl nb nx q t) {k : Nat} {xl : List Int32} (hA : A 0 = xl) (hL : xl.length ≤ 3072) (hk : k + 6 ≤ xl.length) (ho : g xl k &&& 31 = 3) : Next A F P k := by
  obtain ⟨v, A1, F1, P1, A2, F2, P2, z1, z2, hI2⟩ := k_addLot hI (g xl (k + 1)) (g xl (k + 2)) (g xl (k + 3))
  have hA1 : A1 0 = xl := (f7_heap z1).trans hA
  have hA2 : A2 0 = xl := (f7_heap z2).trans hA1
  obtain ⟨w, rfl⟩ := kd_int z1 rfl (by decide)
  refine ⟨A2, F2, P2, hI2, hA2.trans hA.symm, ?_⟩
  refine (b_law_18 0 1 192 (nI k) _).trans ?_
  refine (l_b (rd_len A F P)).trans ?_
  refine (l_no (by rw [hA]; exact rd_in hL hk)).trans ?_
  refine (l_b (rd_k hA hL (by omega))).trans ?_
  rw [ho]
  refine (l_no (by decide)).trans ?_
  refine (l_no (by decide)).trans ?_
  refine (l_no (by decide)).trans ?_
  refine (l_yes rfl).trans ?_
  refine (l_b (rd_i 1 hA hL hk rfl (by omega))).trans ?_
  refine (l_b (rd_i 2 hA hL hk rfl (by omega))).trans ?_
  refine (l_b (rd_i 3 hA hL hk rfl (by omega))).trans ?_
  refine (l_bi z1).trans ?_
  refine (l_b (rd_i 1 hA1 hL hk rfl (by omega))).trans ?_
  refine (l_b (rd_i 2 hA1 hL hk rfl (by omega))).trans ?_
  refine (l_b (rd_i 3 hA1 hL hk rfl (by omega))).trans ?_
  refine (l_bi z2).trans ?_
  refine (l_yes rfl).trans ?_
  rw [show nI k + 6 = nI (k + 6) from nI_addS k 6]
theorem law_4 (hI : InvN A F P nB nl nb nx q t) {k : Nat} {xl : List Int32} (hA : A 0 = xl) (hL : xl.length ≤ 3072) (hk : k + 6 ≤ xl.length) (ho : g xl k &&& 31 = 4) : Next A F P k := by
  obtain ⟨v, A1, F1, P1, A2, F2, P2, z1, z2, hI2⟩ := k_setReserve hI (g xl (k + 1)) (g xl (k + 2))
  have hA1 : A1 0 = xl := (f7_heap z1).trans hA
  have hA2 : A2 0 = xl := (f7_heap z2).trans hA1
  obtain ⟨w, rfl⟩ := kd_int z1 rfl (by decide)
  refine ⟨A2, F2, P2, hI2, hA2.trans hA.symm, ?_⟩
  refine (b_law_18 0 1 192 (nI k) _).trans ?_
  refine (l_b (rd_len A F P)).trans ?_
  refine (l_no (by rw [hA]; exact rd_in hL hk)).trans ?_
  refine (l_b (rd_k hA hL (by omega))).trans ?_
  rw [ho]
  refine (l_no (by decide)).trans ?_
  refine (l_no (by decide)).trans ?_
  refine (l_no (by decide)).trans ?_
  refine (l_no (by decide)).trans ?_
  refine (l_yes rfl).trans ?_
  refine (l_b (rd_i 1 hA hL hk rfl (by omega))).trans ?_
  refine (l_b (rd_i 2 hA hL hk rfl (by omega))).trans ?_
  refine (l_bi z1).trans ?_
  refine (l_b (rd_i 1 hA1 hL hk rfl (by omega))).trans ?_
  refine (l_b (rd_i 2 hA1 hL hk rfl (by omega))).trans ?_
  refine (l_bi z2).trans ?_
  refine (l_yes rfl).trans ?_
  rw [show nI k + 6 = nI (k + 6) from nI_addS k 6]
theorem law_5y (hI : InvN A F P nB nl nb nx q t) {k : Nat} {xl : List Int32} (hA : A 0 = xl) (hL : xl.length ≤ 3072) (hk : k + 6 ≤ xl.length) (ho : g xl k &&& 31 = 5) (hc : g xl (k + 2) = 0) : Next A F P k := by
  obtain ⟨v, A1, F1, P1, A2, F2, P2, z1, z2, hI2⟩ := k_withdrawLot0 hI (g xl (k + 1))
  have hA1 : A1 0 = xl := (f7_heap z1).trans hA
  have hA2 : A2 0 = xl := (f7_heap z2).trans hA1
  obtain ⟨w, rfl⟩ := kd_int z1 rfl (by decide)
  refine ⟨A2, F2, P2, hI2, hA2.trans hA.symm, ?_⟩
  refine (b_law_18 0 1 192 (nI k) _).trans ?_
  refine (l_b (rd_len A F P)).trans ?_
  refine (l_no (by rw [hA]; exact rd_in hL hk)).trans ?_
  refine (l_b (rd_k hA hL (by omega))).trans ?_
  rw [ho]
  refine (l_no (by decide)).trans ?_
  refine (l_no (by decide)).trans ?_
  refine (l_no (by decide)).trans ?_
  refine (l_no (by decide)).trans ?_
  refine (l_no (by decide)).trans ?_
  refine (l_yes rfl).trans ?_
  refine (l_b (rd_i 1 hA hL hk rfl (by omega))).trans ?_
  refine (l_b (rd_i 2 hA hL hk rfl (by omega))).trans ?_
  refine (l_yes hc).trans ?_
  refine (l_bi z1).trans ?_
  refine (l_b (rd_i 1 hA1 hL hk rfl (by omega))).trans ?_
  refine (l_b (rd_i 2 hA1 hL hk rfl (by omega))).trans ?_
  refine (l_yes hc).trans ?_
  refine (l_bi z2).trans ?_
  refine (l_yes rfl).trans ?_
  rw [show nI k + 6 = nI (k + 6) from nI_addS k 6]
theorem law_5n (hI : InvN A F P nB nl nb nx q t) {k : Nat} {xl : List Int32} (hA : A 0 = xl) (hL : xl.length ≤ 3072) (hk : k + 6 ≤ xl.length) (ho : g xl k &&& 31 = 5) (hc : ¬ g xl (k + 2) = 0) : Next A F P k := by
  obtain ⟨v, A1, F1, P1, A2, F2, P2, z1, z2, hI2⟩ := k_withdrawLot1 hI (g xl (k + 1))
  have hA1 : A1 0 = xl := (f7_heap z1).trans hA
  have hA2 : A2 0 = xl := (f7_heap z2).trans hA1
  obtain ⟨w, rfl⟩ := kd_int z1 rfl (by decide)
  refine ⟨A2, F2, P2, hI2, hA2.trans hA.symm, ?_⟩
  refine (b_law_18 0 1 192 (nI k) _).trans ?_
  refine (l_b (rd_len A F P)).trans ?_
  refine (l_no (by rw [hA]; exact rd_in hL hk)).trans ?_
  refine (l_b (rd_k hA hL (by omega))).trans ?_
  rw [ho]
  refine (l_no (by decide)).trans ?_
  refine (l_no (by decide)).trans ?_
  refine (l_no (by decide)).trans ?_
  refine (l_no (by decide)).trans ?_
  refine (l_no (by decide)).trans ?_
  refine (l_yes rfl).trans ?_
  refine (l_b (rd_i 1 hA hL hk rfl (by omega))).trans ?_
  refine (l_b (rd_i 2 hA hL hk rfl (by omega))).trans ?_
  refine (l_no hc).trans ?_
  refine (l_bi z1).trans ?_
  refine (l_b (rd_i 1 hA1 hL hk rfl (by omega))).trans ?_
  refine (l_b (rd_i 2 hA1 hL hk rfl (by omega))).trans ?_
  refine (l_no hc).trans ?_
  refine (l_bi z2).trans ?_
  refine (l_yes rfl).trans ?_
  rw [show nI k + 6 = nI (k + 6) from nI_addS k 6]
theorem law_6 (hI : InvN A F P nB nl nb nx q t) {k : Nat} {xl : List Int32} (hA : A 0 = xl) (hL : xl.length ≤ 3072) (hk : k + 6 ≤ xl.length) (ho : g xl k &&& 31 = 6) : Next A F P k := by
  obtain ⟨v, A1, F1, P1, A2, F2, P2, z1, z2, hI2⟩ := k_addBidder hI (g xl (k + 1))
  have hA1 : A1 0 = xl := (f7_heap z1).trans hA
  have hA2 : A2 0 = xl := (f7_heap z2).trans hA1
  obtain ⟨w, rfl⟩ := kd_int z1 rfl (by decide)
  refine ⟨A2, F2, P2, hI2, hA2.trans hA.symm, ?_⟩
  refine (b_law_18 0 1 192 (nI k) _).trans ?_
  refine (l_b (rd_len A F P)).trans ?_
  refine (l_no (by rw [hA]; exact rd_in hL hk)).trans ?_
  refine (l_b (rd_k hA hL (by omega))).trans ?_
  rw [ho]
  refine (l_no (by decide)).trans ?_
  refine (l_no (by decide)).trans ?_
  refine (l_no (by decide)).trans ?_
  refine (l_no (by decide)).trans ?_
  refine (l_no (by decide)).trans ?_
  refine (l_no (by decide)).trans ?_
  refine (l_yes rfl).trans ?_
  refine (l_b (rd_i 1 hA hL hk rfl (by omega))).trans ?_
  refine (l_bi z1).trans ?_
  refine (l_b (rd_i 1 hA1 hL hk rfl (by omega))).trans ?_
  refine (l_bi z2).trans ?_
  refine (l_yes rfl).trans ?_
  rw [show nI k + 6 = nI (k + 6) from nI_addS k 6]
theorem law_7 (hI : InvN A F P nB nl nb nx q t) {k : Nat} {xl : List Int32} (hA : A 0 = xl) (hL : xl.length ≤ 3072) (hk : k + 6 ≤ xl.length) (ho : g xl k &&& 31 = 7) : Next A F P k := by
  obtain ⟨v, A1, F1, P1, A2, F2, P2, z1, z2, hI2⟩ := k_setLimit hI (g xl (k + 1)) (g xl (k + 2))
  have hA1 : A1 0 = xl := (f7_heap z1).trans hA
  have hA2 : A2 0 = xl := (f7_heap z2).trans hA1
  obtain ⟨w, rfl⟩ := kd_int z1 rfl (by decide)
  refine ⟨A2, F2, P2, hI2, hA2.trans hA.symm, ?_⟩
  refine (b_law_18 0 1 192 (nI k) _).trans ?_
  refine (l_b (rd_len A F P)).trans ?_
  refine (l_no (by rw [hA]; exact rd_in hL hk)).trans ?_
  refine (l_b (rd_k hA hL (by omega))).trans ?_
  rw [ho]
  refine (l_no (by decide)).trans ?_
  refine (l_no (by decide)).trans ?_
  refine (l_no (by decide)).trans ?_
  refine (l_no (by decide)).trans ?_
  refine (l_no (by decide)).trans ?_
  refine (l_no (by decide)).trans ?_
  refine (l_no (by decide)).trans ?_
  refine (l_yes rfl).trans ?_
  refine (l_b (rd_i 1 hA hL hk rfl (by omega))).trans ?_
  refine (l_b (rd_i 2 hA hL hk rfl (by omega))).trans ?_
  refine (l_bi z1).trans ?_
  refine (l_b (rd_i 1 hA1 hL hk rfl (by omega))).trans ?_
  refine (l_b (rd_i 2 hA1 hL hk rfl (by omega))).trans ?_
  refine (l_bi z2).trans ?_
  refine (l_yes rfl).trans ?_
  rw [show nI k + 6 = nI (k + 6) from nI_addS k 6]
theorem law_8 (hI : InvN A F P nB nl nb nx q t) {k : Nat} {xl : List Int32} (hA : A 0 = xl) (hL : xl.length ≤ 3072) (hk : k + 6 ≤ xl.length) (ho : g xl k &&& 31 = 8) : Next A F P k := by
  obtain ⟨v, A1, F1, P1, A2, F2, P2, z1, z2, hI2⟩ := k_set hI (g xl (k + 1)) (g xl (k + 2))
  have hA1 : A1 0 = xl := (f7_heap z1).trans hA
  have hA2 : A2 0 = xl := (f7_heap z2).trans hA1
  obtain ⟨w, rfl⟩ := kd_int z1 rfl (by decide)
  refine ⟨A2, F2, P2, hI2, hA2.trans hA.symm, ?_⟩
  refine (b_law_18 0 1 192 (nI k) _).trans ?_
  refine (l_b (rd_len A F P)).trans ?_
  refine (l_no (by rw [hA]; exact rd_in hL hk)).trans ?_
  refine (l_b (rd_k hA hL (by omega))).trans ?_
  rw [ho]
  refine (l_no (by decide)).trans ?_
  refine (l_no (by decide)).trans ?_
  refine (l_no (by decide)).trans ?_
  refine (l_no (by decide)).trans ?_
  refine (l_no (by decide)).trans ?_
  refine (l_no (by decide)).trans ?_
  refine (l_no (by decide)).trans ?_
  refine (l_no (by decide)).trans ?_
  refine (l_yes rfl).trans ?_
  refine (l_b (rd_i 1 hA hL hk rfl (by omega))).trans ?_
  refine (l_b (rd_i 2 hA hL hk rfl (by omega))).trans ?_
  refine (l_bi z1).trans ?_
  refine (l_b (rd_i 1 hA1 hL hk rfl (by omega))).trans ?_
  refine (l_b (rd_i 2 hA1 hL hk rfl (by omega))).trans ?_
  refine (l_bi z2).trans ?_
  refine (l_yes rfl).trans ?_
  rw [show nI k + 6 = nI (k + 6) from nI_addS k 6]
theorem law_9 (hI : InvN A F P nB nl nb nx q t) {k : Nat} {xl : List Int32} (hA : A 0 = xl) (hL : xl.length ≤ 3072) (hk : k + 6 ≤ xl.length) (ho : g xl k &&& 31 = 9) : Next A F P k := by
  obtain ⟨v, A1, F1, P1, A2, F2, P2, z1, z2, hI2⟩ := k_bid hI (g xl (k + 1)) (g xl (k + 2)) (g xl (k + 3)) (g xl (k + 4)) (g xl (k + 5))
  have hA1 : A1 0 = xl := (f7_heap z1).trans hA
  have hA2 : A2 0 = xl := (f7_heap z2).trans hA1
  obtain ⟨w, rfl⟩ := kd_int z1 rfl (by decide)
  refine ⟨A2, F2, P2, hI2, hA2.trans hA.symm, ?_⟩
  refine (b_law_18 0 1 192 (nI k) _).trans ?_
  refine (l_b (rd_len A F P)).trans ?_
  refine (l_no (by rw [hA]; exact rd_in hL hk)).trans ?_
  refine (l_b (rd_k hA hL (by omega))).trans ?_
  rw [ho]
  refine (l_no (by decide)).trans ?_
  refine (l_no (by decide)).trans ?_
  refine (l_no (by decide)).trans ?_
  refine (l_no (by decide)).trans ?_
  refine (l_no (by decide)).trans ?_
  refine (l_no (by decide)).trans ?_
  refine (l_no (by decide)).trans ?_
  refine (l_no (by decide)).trans ?_
  refine (l_no (by decide)).trans ?_
  refine (l_yes rfl).trans ?_
  refine (l_b (rd_i 1 hA hL hk rfl (by omega))).trans ?_
  refine (l_b (rd_i 2 hA hL hk rfl (by omega))).trans ?_
  refine (l_b (rd_i 3 hA hL hk rfl (by omega))).trans ?_
  refine (l_b (rd_i 4 hA hL hk rfl (by omega))).trans ?_
  refine (l_b (rd_i 5 hA hL hk rfl (by omega))).trans ?_
  refine (l_bi z1).trans ?_
  refine (l_b (rd_i 1 hA1 hL hk rfl (by omega))).trans ?_
  refine (l_b (rd_i 2 hA1 hL hk rfl (by omega))).trans ?_
  refine (l_b (rd_i 3 hA1 hL hk rfl (by omega))).trans ?_
  refine (l_b (rd_i 4 hA1 hL hk rfl (by omega))).trans ?_
  refine (l_b (rd_i 5 hA1 hL hk rfl (by omega))).trans ?_
  refine (l_bi z2).trans ?_
  refine (l_yes rfl).trans ?_
  rw [show nI k + 6 = nI (k + 6) from nI_addS k 6]
theorem law_10 (hI : InvN A F P nB nl nb nx q t) {k : Nat} {xl : List Int32} (hA : A 0 = xl) (hL : xl.length ≤ 3072) (hk : k + 6 ≤ xl.length) (ho : g xl k &&& 31 = 10) : Next A F P k := by
  obtain ⟨v, A1, F1, P1, A2, F2, P2, z1, z2, hI2⟩ := k_withdrawBid hI (g xl (k + 1))
  have hA1 : A1 0 = xl := (f7_heap z1).trans hA
  have hA2 : A2 0 = xl := (f7_heap z2).trans hA1
  obtain ⟨w, rfl⟩ := kd_int z1 rfl (by decide)
  refine ⟨A2, F2, P2, hI2, hA2.trans hA.symm, ?_⟩
  refine (b_law_18 0 1 192 (nI k) _).trans ?_
  refine (l_b (rd_len A F P)).trans ?_
  refine (l_no (by rw [hA]; exact rd_in hL hk)).trans ?_
  refine (l_b (rd_k hA hL (by omega))).trans ?_
  rw [ho]
  refine (l_no (by decide)).trans ?_
  refine (l_no (by decide)).trans ?_
  refine (l_no (by decide)).trans ?_
  refine (l_no (by decide)).trans ?_
  refine (l_no (by decide)).trans ?_
  refine (l_no (by decide)).trans ?_
  refine (l_no (by decide)).trans ?_
  refine (l_no (by decide)).trans ?_
  refine (l_no (by decide)).trans ?_
  refine (l_no (by decide)).trans ?_
  refine (l_yes rfl).trans ?_
  refine (l_b (rd_i 1 hA hL hk rfl (by omega))).trans ?_
  refine (l_bi z1).trans ?_
  refine (l_b (rd_i 1 hA1 hL hk rfl (by omega))).trans ?_
  refine (l_bi z2).trans ?_
  refine (l_yes rfl).trans ?_
  rw [show nI k + 6 = nI (k + 6) from nI_addS k 6]
theorem law_11 (hI : InvN A F P nB nl nb nx q t) {k : Nat} {xl : List Int32} (hA : A 0 = xl) (hL : xl.length ≤ 3072) (hk : k + 6 ≤ xl.length) (ho : g xl k &&& 31 = 11) : Next A F P k := by
  obtain ⟨v, A1, F1, P1, A2, F2, P2, z1, z2, hI2⟩ := k_type hI (UInt32.toInt32 (Int32.toUInt32 (g xl (k + 1)) % 65536))
  have hA1 : A1 0 = xl := (f7_heap z1).trans hA
  have hA2 : A2 0 = xl := (f7_heap z2).trans hA1
  obtain ⟨w, rfl⟩ := kd_int z1 rfl (by decide)
  refine ⟨A2, F2, P2, hI2, hA2.trans hA.symm, ?_⟩
  refine (b_law_18 0 1 192 (nI k) _).trans ?_
  refine (l_b (rd_len A F P)).trans ?_
  refine (l_no (by rw [hA]; exact rd_in hL hk)).trans ?_
  refine (l_b (rd_k hA hL (by omega))).trans ?_
  rw [ho]
  refine (l_no (by decide)).trans ?_
  refine (l_no (by decide)).trans ?_
  refine (l_no (by decide)).trans ?_
  refine (l_no (by decide)).trans ?_
  refine (l_no (by decide)).trans ?_
  refine (l_no (by decide)).trans ?_
  refine (l_no (by decide)).trans ?_
  refine (l_no (by decide)).trans ?_
  refine (l_no (by decide)).trans ?_
  refine (l_no (by decide)).trans ?_
  refine (l_no (by decide)).trans ?_
  refine (l_yes rfl).trans ?_
  refine (l_b (rd_i 1 hA hL hk rfl (by omega))).trans ?_
  refine (l_bi z1).trans ?_
  refine (l_b (rd_i 1 hA1 hL hk rfl (by omega))).trans ?_
  refine (l_bi z2).trans ?_
  refine (l_yes rfl).trans ?_
  rw [show nI k + 6 = nI (k + 6) from nI_addS k 6]
theorem law_12 (hI : InvN A F P nB nl nb nx q t) {k : Nat} {xl : List Int32} (hA : A 0 = xl) (hL : xl.length ≤ 3072) (hk : k + 6 ≤ xl.length) (ho : g xl k &&& 31 = 12) : Next A F P k := by
  obtain ⟨v, A1, F1, P1, A2, F2, P2, z1, z2, hI2⟩ := k_clearText hI 
  have hA1 : A1 0 = xl := (f7_heap z1).trans hA
  have hA2 : A2 0 = xl := (f7_heap z2).trans hA1
  obtain ⟨w, rfl⟩ := kd_int z1 rfl (by decide)
  refine ⟨A2, F2, P2, hI2, hA2.trans hA.symm, ?_⟩
  refine (b_law_18 0 1 192 (nI k) _).trans ?_
  refine (l_b (rd_len A F P)).trans ?_
  refine (l_no (by rw [hA]; exact rd_in hL hk)).trans ?_
  refine (l_b (rd_k hA hL (by omega))).trans ?_
  rw [ho]
  refine (l_no (by decide)).trans ?_
  refine (l_no (by decide)).trans ?_
  refine (l_no (by decide)).trans ?_
  refine (l_no (by decide)).trans ?_
  refine (l_no (by decide)).trans ?_
  refine (l_no (by decide)).trans ?_
  refine (l_no (by decide)).trans ?_
  refine (l_no (by decide)).trans ?_
  refine (l_no (by decide)).trans ?_
  refine (l_no (by decide)).trans ?_
  refine (l_no (by decide)).trans ?_
  refine (l_no (by decide)).trans ?_
  refine (l_yes rfl).trans ?_
  refine (l_bi z1).trans ?_
  refine (l_bi z2).trans ?_
  refine (l_yes rfl).trans ?_
  rw [show nI k + 6 = nI (k + 6) from nI_addS k 6]
theorem law_13 (hI : InvN A F P nB nl nb nx q t) {k : Nat} {xl : List Int32} (hA : A 0 = xl) (hL : xl.length ≤ 3072) (hk : k + 6 ≤ xl.length) (ho : g xl k &&& 31 = 13) : Next A F P k := by
  obtain ⟨v, A1, F1, P1, A2, F2, P2, z1, z2, hI2⟩ := k_letter hI (g xl (k + 1)) (g xl (k + 2))
  have hA1 : A1 0 = xl := (f7_heap z1).trans hA
  have hA2 : A2 0 = xl := (f7_heap z2).trans hA1
  obtain ⟨w, rfl⟩ := kd_int z1 rfl (by decide)
  refine ⟨A2, F2, P2, hI2, hA2.trans hA.symm, ?_⟩
  refine (b_law_18 0 1 192 (nI k) _).trans ?_
  refine (l_b (rd_len A F P)).trans ?_
  refine (l_no (by rw [hA]; exact rd_in hL hk)).trans ?_
  refine (l_b (rd_k hA hL (by omega))).trans ?_
  rw [ho]
  refine (l_no (by decide)).trans ?_
  refine (l_no (by decide)).trans ?_
  refine (l_no (by decide)).trans ?_
  refine (l_no (by decide)).trans ?_
  refine (l_no (by decide)).trans ?_
  refine (l_no (by decide)).trans ?_
  refine (l_no (by decide)).trans ?_
  refine (l_no (by decide)).trans ?_
  refine (l_no (by decide)).trans ?_
  refine (l_no (by decide)).trans ?_
  refine (l_no (by decide)).trans ?_
  refine (l_no (by decide)).trans ?_
  refine (l_no (by decide)).trans ?_
  refine (l_yes rfl).trans ?_
  refine (l_b (rd_i 1 hA hL hk rfl (by omega))).trans ?_
  refine (l_b (rd_i 2 hA hL hk rfl (by omega))).trans ?_
  refine (l_bi z1).trans ?_
  refine (l_b (rd_i 1 hA1 hL hk rfl (by omega))).trans ?_
  refine (l_b (rd_i 2 hA1 hL hk rfl (by omega))).trans ?_
  refine (l_bi z2).trans ?_
  refine (l_yes rfl).trans ?_
  rw [show nI k + 6 = nI (k + 6) from nI_addS k 6]
theorem law_14 (hI : InvN A F P nB nl nb nx q t) {k : Nat} {xl : List Int32} (hA : A 0 = xl) (hL : xl.length ≤ 3072) (hk : k + 6 ≤ xl.length) (ho : g xl k &&& 31 = 14) : Next A F P k := by
  obtain ⟨v, A1, F1, P1, A2, F2, P2, z1, z2, hI2⟩ := k_undo hI 
  have hA1 : A1 0 = xl := (f7_heap z1).trans hA
  have hA2 : A2 0 = xl := (f7_heap z2).trans hA1
  obtain ⟨w, rfl⟩ := kd_int z1 rfl (by decide)
  refine ⟨A2, F2, P2, hI2, hA2.trans hA.symm, ?_⟩
  refine (b_law_18 0 1 192 (nI k) _).trans ?_
  refine (l_b (rd_len A F P)).trans ?_
  refine (l_no (by rw [hA]; exact rd_in hL hk)).trans ?_
  refine (l_b (rd_k hA hL (by omega))).trans ?_
  rw [ho]
  refine (l_no (by decide)).trans ?_
  refine (l_no (by decide)).trans ?_
  refine (l_no (by decide)).trans ?_
  refine (l_no (by decide)).trans ?_
  refine (l_no (by decide)).trans ?_
  refine (l_no (by decide)).trans ?_
  refine (l_no (by decide)).trans ?_
  refine (l_no (by decide)).trans ?_
  refine (l_no (by decide)).trans ?_
  refine (l_no (by decide)).trans ?_
  refine (l_no (by decide)).trans ?_
  refine (l_no (by decide)).trans ?_
  refine (l_no (by decide)).trans ?_
  refine (l_no (by decide)).trans ?_
  refine (l_yes rfl).trans ?_
  refine (l_bi z1).trans ?_
  refine (l_bi z2).trans ?_
  refine (l_yes rfl).trans ?_
  rw [show nI k + 6 = nI (k + 6) from nI_addS k 6]
theorem law_15 (hI : InvN A F P nB nl nb nx q t) {k : Nat} {xl : List Int32} (hA : A 0 = xl) (hL : xl.length ≤ 3072) (hk : k + 6 ≤ xl.length) (ho : g xl k &&& 31 = 15) : Next A F P k := by
  obtain ⟨v, A1, F1, P1, A2, F2, P2, z1, z2, hI2⟩ := k_sale hI (g xl (k + 1)) (g xl (k + 2))
  have hA1 : A1 0 = xl := (f7_heap z1).trans hA
  have hA2 : A2 0 = xl := (f7_heap z2).trans hA1
  obtain ⟨w, rfl⟩ := kd_int z1 rfl (by decide)
  refine ⟨A2, F2, P2, hI2, hA2.trans hA.symm, ?_⟩
  refine (b_law_18 0 1 192 (nI k) _).trans ?_
  refine (l_b (rd_len A F P)).trans ?_
  refine (l_no (by rw [hA]; exact rd_in hL hk)).trans ?_
  refine (l_b (rd_k hA hL (by omega))).trans ?_
  rw [ho]
  refine (l_no (by decide)).trans ?_
  refine (l_no (by decide)).trans ?_
  refine (l_no (by decide)).trans ?_
  refine (l_no (by decide)).trans ?_
  refine (l_no (by decide)).trans ?_
  refine (l_no (by decide)).trans ?_
  refine (l_no (by decide)).trans ?_
  refine (l_no (by decide)).trans ?_
  refine (l_no (by decide)).trans ?_
  refine (l_no (by decide)).trans ?_
  refine (l_no (by decide)).trans ?_
  refine (l_no (by decide)).trans ?_
  refine (l_no (by decide)).trans ?_
  refine (l_no (by decide)).trans ?_
  refine (l_no (by decide)).trans ?_
  refine (l_yes rfl).trans ?_
  refine (l_b (rd_i 1 hA hL hk rfl (by omega))).trans ?_
  refine (l_b (rd_i 2 hA hL hk rfl (by omega))).trans ?_
  refine (l_bi z1).trans ?_
  refine (l_b (rd_i 1 hA1 hL hk rfl (by omega))).trans ?_
  refine (l_b (rd_i 2 hA1 hL hk rfl (by omega))).trans ?_
  refine (l_bi z2).trans ?_
  refine (l_yes rfl).trans ?_
  rw [show nI k + 6 = nI (k + 6) from nI_addS k 6]
theorem law_16 (hI : InvN A F P nB nl nb nx q t) {k : Nat} {xl : List Int32} (hA : A 0 = xl) (hL : xl.length ≤ 3072) (hk : k + 6 ≤ xl.length) (ho : g xl k &&& 31 = 16) : Next A F P k := by
  obtain ⟨v, A1, F1, P1, A2, F2, P2, z1, z2, hI2⟩ := k_ranked hI (g xl (k + 1)) (g xl (k + 2))
  have hA1 : A1 0 = xl := (f7_heap z1).trans hA
  have hA2 : A2 0 = xl := (f7_heap z2).trans hA1
  obtain ⟨w, rfl⟩ := kd_int z1 rfl (by decide)
  refine ⟨A2, F2, P2, hI2, hA2.trans hA.symm, ?_⟩
  refine (b_law_18 0 1 192 (nI k) _).trans ?_
  refine (l_b (rd_len A F P)).trans ?_
  refine (l_no (by rw [hA]; exact rd_in hL hk)).trans ?_
  refine (l_b (rd_k hA hL (by omega))).trans ?_
  rw [ho]
  refine (l_no (by decide)).trans ?_
  refine (l_no (by decide)).trans ?_
  refine (l_no (by decide)).trans ?_
  refine (l_no (by decide)).trans ?_
  refine (l_no (by decide)).trans ?_
  refine (l_no (by decide)).trans ?_
  refine (l_no (by decide)).trans ?_
  refine (l_no (by decide)).trans ?_
  refine (l_no (by decide)).trans ?_
  refine (l_no (by decide)).trans ?_
  refine (l_no (by decide)).trans ?_
  refine (l_no (by decide)).trans ?_
  refine (l_no (by decide)).trans ?_
  refine (l_no (by decide)).trans ?_
  refine (l_no (by decide)).trans ?_
  refine (l_no (by decide)).trans ?_
  refine (l_yes rfl).trans ?_
  refine (l_b (rd_i 1 hA hL hk rfl (by omega))).trans ?_
  refine (l_b (rd_i 2 hA hL hk rfl (by omega))).trans ?_
  refine (l_bi z1).trans ?_
  refine (l_b (rd_i 1 hA1 hL hk rfl (by omega))).trans ?_
  refine (l_b (rd_i 2 hA1 hL hk rfl (by omega))).trans ?_
  refine (l_bi z2).trans ?_
  refine (l_yes rfl).trans ?_
  rw [show nI k + 6 = nI (k + 6) from nI_addS k 6]
theorem law_17 (hI : InvN A F P nB nl nb nx q t) {k : Nat} {xl : List Int32} (hA : A 0 = xl) (hL : xl.length ≤ 3072) (hk : k + 6 ≤ xl.length) (ho : g xl k &&& 31 = 17) : Next A F P k := by
  obtain ⟨v, A1, F1, P1, A2, F2, P2, z1, z2, hI2⟩ := k_fate hI (g xl (k + 1))
  have hA1 : A1 0 = xl := (f7_heap z1).trans hA
  have hA2 : A2 0 = xl := (f7_heap z2).trans hA1
  obtain ⟨w, rfl⟩ := kd_int z1 rfl (by decide)
  refine ⟨A2, F2, P2, hI2, hA2.trans hA.symm, ?_⟩
  refine (b_law_18 0 1 192 (nI k) _).trans ?_
  refine (l_b (rd_len A F P)).trans ?_
  refine (l_no (by rw [hA]; exact rd_in hL hk)).trans ?_
  refine (l_b (rd_k hA hL (by omega))).trans ?_
  rw [ho]
  refine (l_no (by decide)).trans ?_
  refine (l_no (by decide)).trans ?_
  refine (l_no (by decide)).trans ?_
  refine (l_no (by decide)).trans ?_
  refine (l_no (by decide)).trans ?_
  refine (l_no (by decide)).trans ?_
  refine (l_no (by decide)).trans ?_
  refine (l_no (by decide)).trans ?_
  refine (l_no (by decide)).trans ?_
  refine (l_no (by decide)).trans ?_
  refine (l_no (by decide)).trans ?_
  refine (l_no (by decide)).trans ?_
  refine (l_no (by decide)).trans ?_
  refine (l_no (by decide)).trans ?_
  refine (l_no (by decide)).trans ?_
  refine (l_no (by decide)).trans ?_
  refine (l_no (by decide)).trans ?_
  refine (l_yes rfl).trans ?_
  refine (l_b (rd_i 1 hA hL hk rfl (by omega))).trans ?_
  refine (l_bi z1).trans ?_
  refine (l_b (rd_i 1 hA1 hL hk rfl (by omega))).trans ?_
  refine (l_bi z2).trans ?_
  refine (l_yes rfl).trans ?_
  rw [show nI k + 6 = nI (k + 6) from nI_addS k 6]
theorem law_18 (hI : InvN A F P nB nl nb nx q t) {k : Nat} {xl : List Int32} (hA : A 0 = xl) (hL : xl.length ≤ 3072) (hk : k + 6 ≤ xl.length) (ho : g xl k &&& 31 = 18) : Next A F P k := by
  obtain ⟨v, A1, F1, P1, A2, F2, P2, z1, z2, hI2⟩ := k_needed hI (g xl (k + 1)) (g xl (k + 2)) (g xl (k + 3))
  have hA1 : A1 0 = xl := (f7_heap z1).trans hA
  have hA2 : A2 0 = xl := (f7_heap z2).trans hA1
  obtain ⟨w, rfl⟩ := kd_int z1 rfl (by decide)
  refine ⟨A2, F2, P2, hI2, hA2.trans hA.symm, ?_⟩
  refine (b_law_18 0 1 192 (nI k) _).trans ?_
  refine (l_b (rd_len A F P)).trans ?_
  refine (l_no (by rw [hA]; exact rd_in hL hk)).trans ?_
  refine (l_b (rd_k hA hL (by omega))).trans ?_
  rw [ho]
  refine (l_no (by decide)).trans ?_
  refine (l_no (by decide)).trans ?_
  refine (l_no (by decide)).trans ?_
  refine (l_no (by decide)).trans ?_
  refine (l_no (by decide)).trans ?_
  refine (l_no (by decide)).trans ?_
  refine (l_no (by decide)).trans ?_
  refine (l_no (by decide)).trans ?_
  refine (l_no (by decide)).trans ?_
  refine (l_no (by decide)).trans ?_
  refine (l_no (by decide)).trans ?_
  refine (l_no (by decide)).trans ?_
  refine (l_no (by decide)).trans ?_
  refine (l_no (by decide)).trans ?_
  refine (l_no (by decide)).trans ?_
  refine (l_no (by decide)).trans ?_
  refine (l_no (by decide)).trans ?_
  refine (l_no (by decide)).trans ?_
  refine (l_yes rfl).trans ?_
  refine (l_b (rd_i 1 hA hL hk rfl (by omega))).trans ?_
  refine (l_b (rd_i 2 hA hL hk rfl (by omega))).trans ?_
  refine (l_b (rd_i 3 hA hL hk rfl (by omega))).trans ?_
  refine (l_bi z1).trans ?_
  refine (l_b (rd_i 1 hA1 hL hk rfl (by omega))).trans ?_
  refine (l_b (rd_i 2 hA1 hL hk rfl (by omega))).trans ?_
  refine (l_b (rd_i 3 hA1 hL hk rfl (by omega))).trans ?_
  refine (l_bi z2).trans ?_
  refine (l_yes rfl).trans ?_
  rw [show nI k + 6 = nI (k + 6) from nI_addS k 6]
theorem law_19 (hI : InvN A F P nB nl nb nx q t) {k : Nat} {xl : List Int32} (hA : A 0 = xl) (hL : xl.length ≤ 3072) (hk : k + 6 ≤ xl.length) (ho : g xl k &&& 31 = 19) : Next A F P k := by
  obtain ⟨v, A1, F1, P1, A2, F2, P2, z1, z2, hI2⟩ := k_lot hI (g xl (k + 1)) (g xl (k + 2))
  have hA1 : A1 0 = xl := (f7_heap z1).trans hA
  have hA2 : A2 0 = xl := (f7_heap z2).trans hA1
  obtain ⟨w, rfl⟩ := kd_int z1 rfl (by decide)
  refine ⟨A2, F2, P2, hI2, hA2.trans hA.symm, ?_⟩
  refine (b_law_18 0 1 192 (nI k) _).trans ?_
  refine (l_b (rd_len A F P)).trans ?_
  refine (l_no (by rw [hA]; exact rd_in hL hk)).trans ?_
  refine (l_b (rd_k hA hL (by omega))).trans ?_
  rw [ho]
  refine (l_no (by decide)).trans ?_
  refine (l_no (by decide)).trans ?_
  refine (l_no (by decide)).trans ?_
  refine (l_no (by decide)).trans ?_
  refine (l_no (by decide)).trans ?_
  refine (l_no (by decide)).trans ?_
  refine (l_no (by decide)).trans ?_
  refine (l_no (by decide)).trans ?_
  refine (l_no (by decide)).trans ?_
  refine (l_no (by decide)).trans ?_
  refine (l_no (by decide)).trans ?_
  refine (l_no (by decide)).trans ?_
  refine (l_no (by decide)).trans ?_
  refine (l_no (by decide)).trans ?_
  refine (l_no (by decide)).trans ?_
  refine (l_no (by decide)).trans ?_
  refine (l_no (by decide)).trans ?_
  refine (l_no (by decide)).trans ?_
  refine (l_no (by decide)).trans ?_
  refine (l_yes rfl).trans ?_
  refine (l_b (rd_i 1 hA hL hk rfl (by omega))).trans ?_
  refine (l_b (rd_i 2 hA hL hk rfl (by omega))).trans ?_
  refine (l_bi z1).trans ?_
  refine (l_b (rd_i 1 hA1 hL hk rfl (by omega))).trans ?_
  refine (l_b (rd_i 2 hA1 hL hk rfl (by omega))).trans ?_
  refine (l_bi z2).trans ?_
  refine (l_yes rfl).trans ?_
  rw [show nI k + 6 = nI (k + 6) from nI_addS k 6]
theorem law_20 (hI : InvN A F P nB nl nb nx q t) {k : Nat} {xl : List Int32} (hA : A 0 = xl) (hL : xl.length ≤ 3072) (hk : k + 6 ≤ xl.length) (ho : g xl k &&& 31 = 20) : Next A F P k := by
  obtain ⟨v, A1, F1, P1, A2, F2, P2, z1, z2, hI2⟩ := k_bidOf hI (g xl (k + 1)) (g xl (k + 2))
  have hA1 : A1 0 = xl := (f7_heap z1).trans hA
  have hA2 : A2 0 = xl := (f7_heap z2).trans hA1
  obtain ⟨w, rfl⟩ := kd_int z1 rfl (by decide)
  refine ⟨A2, F2, P2, hI2, hA2.trans hA.symm, ?_⟩
  refine (b_law_18 0 1 192 (nI k) _).trans ?_
  refine (l_b (rd_len A F P)).trans ?_
  refine (l_no (by rw [hA]; exact rd_in hL hk)).trans ?_
  refine (l_b (rd_k hA hL (by omega))).trans ?_
  rw [ho]
  refine (l_no (by decide)).trans ?_
  refine (l_no (by decide)).trans ?_
  refine (l_no (by decide)).trans ?_
  refine (l_no (by decide)).trans ?_
  refine (l_no (by decide)).trans ?_
  refine (l_no (by decide)).trans ?_
  refine (l_no (by decide)).trans ?_
  refine (l_no (by decide)).trans ?_
  refine (l_no (by decide)).trans ?_
  refine (l_no (by decide)).trans ?_
  refine (l_no (by decide)).trans ?_
  refine (l_no (by decide)).trans ?_
  refine (l_no (by decide)).trans ?_
  refine (l_no (by decide)).trans ?_
  refine (l_no (by decide)).trans ?_
  refine (l_no (by decide)).trans ?_
  refine (l_no (by decide)).trans ?_
  refine (l_no (by decide)).trans ?_
  refine (l_no (by decide)).trans ?_
  refine (l_no (by decide)).trans ?_
  refine (l_yes rfl).trans ?_
  refine (l_b (rd_i 1 hA hL hk rfl (by omega))).trans ?_
  refine (l_b (rd_i 2 hA hL hk rfl (by omega))).trans ?_
  refine (l_bi z1).trans ?_
  refine (l_b (rd_i 1 hA1 hL hk rfl (by omega))).trans ?_
  refine (l_b (rd_i 2 hA1 hL hk rfl (by omega))).trans ?_
  refine (l_bi z2).trans ?_
  refine (l_yes rfl).trans ?_
  rw [show nI k + 6 = nI (k + 6) from nI_addS k 6]
theorem law_21 (hI : InvN A F P nB nl nb nx q t) {k : Nat} {xl : List Int32} (hA : A 0 = xl) (hL : xl.length ≤ 3072) (hk : k + 6 ≤ xl.length) (ho : g xl k &&& 31 = 21) : Next A F P k := by
  obtain ⟨v, A1, F1, P1, A2, F2, P2, z1, z2, hI2⟩ := k_bidder hI (g xl (k + 1)) (g xl (k + 2))
  have hA1 : A1 0 = xl := (f7_heap z1).trans hA
  have hA2 : A2 0 = xl := (f7_heap z2).trans hA1
  obtain ⟨w, rfl⟩ := kd_int z1 rfl (by decide)
  refine ⟨A2, F2, P2, hI2, hA2.trans hA.symm, ?_⟩
  refine (b_law_18 0 1 192 (nI k) _).trans ?_
  refine (l_b (rd_len A F P)).trans ?_
  refine (l_no (by rw [hA]; exact rd_in hL hk)).trans ?_
  refine (l_b (rd_k hA hL (by omega))).trans ?_
  rw [ho]
  refine (l_no (by decide)).trans ?_
  refine (l_no (by decide)).trans ?_
  refine (l_no (by decide)).trans ?_
  refine (l_no (by decide)).trans ?_
  refine (l_no (by decide)).trans ?_
  refine (l_no (by decide)).trans ?_
  refine (l_no (by decide)).trans ?_
  refine (l_no (by decide)).trans ?_
  refine (l_no (by decide)).trans ?_
  refine (l_no (by decide)).trans ?_
  refine (l_no (by decide)).trans ?_
  refine (l_no (by decide)).trans ?_
  refine (l_no (by decide)).trans ?_
  refine (l_no (by decide)).trans ?_
  refine (l_no (by decide)).trans ?_
  refine (l_no (by decide)).trans ?_
  refine (l_no (by decide)).trans ?_
  refine (l_no (by decide)).trans ?_
  refine (l_no (by decide)).trans ?_
  refine (l_no (by decide)).trans ?_
  refine (l_no (by decide)).trans ?_
  refine (l_yes rfl).trans ?_
  refine (l_b (rd_i 1 hA hL hk rfl (by omega))).trans ?_
  refine (l_b (rd_i 2 hA hL hk rfl (by omega))).trans ?_
  refine (l_bi z1).trans ?_
  refine (l_b (rd_i 1 hA1 hL hk rfl (by omega))).trans ?_
  refine (l_b (rd_i 2 hA1 hL hk rfl (by omega))).trans ?_
  refine (l_bi z2).trans ?_
  refine (l_yes rfl).trans ?_
  rw [show nI k + 6 = nI (k + 6) from nI_addS k 6]
theorem law_22 (hI : InvN A F P nB nl nb nx q t) {k : Nat} {xl : List Int32} (hA : A 0 = xl) (hL : xl.length ≤ 3072) (hk : k + 6 ≤ xl.length) (ho : g xl k &&& 31 = 22) : Next A F P k := by
  obtain ⟨v, A1, F1, P1, A2, F2, P2, z1, z2, hI2⟩ := k_seller hI (g xl (k + 1)) (g xl (k + 2))
  have hA1 : A1 0 = xl := (f7_heap z1).trans hA
  have hA2 : A2 0 = xl := (f7_heap z2).trans hA1
  obtain ⟨w, rfl⟩ := kd_long z1 rfl
  refine ⟨A2, F2, P2, hI2, hA2.trans hA.symm, ?_⟩
  refine (b_law_18 0 1 192 (nI k) _).trans ?_
  refine (l_b (rd_len A F P)).trans ?_
  refine (l_no (by rw [hA]; exact rd_in hL hk)).trans ?_
  refine (l_b (rd_k hA hL (by omega))).trans ?_
  rw [ho]
  refine (l_no (by decide)).trans ?_
  refine (l_no (by decide)).trans ?_
  refine (l_no (by decide)).trans ?_
  refine (l_no (by decide)).trans ?_
  refine (l_no (by decide)).trans ?_
  refine (l_no (by decide)).trans ?_
  refine (l_no (by decide)).trans ?_
  refine (l_no (by decide)).trans ?_
  refine (l_no (by decide)).trans ?_
  refine (l_no (by decide)).trans ?_
  refine (l_no (by decide)).trans ?_
  refine (l_no (by decide)).trans ?_
  refine (l_no (by decide)).trans ?_
  refine (l_no (by decide)).trans ?_
  refine (l_no (by decide)).trans ?_
  refine (l_no (by decide)).trans ?_
  refine (l_no (by decide)).trans ?_
  refine (l_no (by decide)).trans ?_
  refine (l_no (by decide)).trans ?_
  refine (l_no (by decide)).trans ?_
  refine (l_no (by decide)).trans ?_
  refine (l_no (by decide)).trans ?_
  refine (l_yes rfl).trans ?_
  refine (l_b (rd_i 1 hA hL hk rfl (by omega))).trans ?_
  refine (l_b (rd_i 2 hA hL hk rfl (by omega))).trans ?_
  refine (l_bl z1).trans ?_
  refine (l_b (rd_i 1 hA1 hL hk rfl (by omega))).trans ?_
  refine (l_b (rd_i 2 hA1 hL hk rfl (by omega))).trans ?_
  refine (l_bl z2).trans ?_
  refine (l_yes ((lg_cmp_eq w w).mpr rfl)).trans ?_
  rw [show nI k + 6 = nI (k + 6) from nI_addS k 6]
theorem law_23 (hI : InvN A F P nB nl nb nx q t) {k : Nat} {xl : List Int32} (hA : A 0 = xl) (hL : xl.length ≤ 3072) (hk : k + 6 ≤ xl.length) (ho : g xl k &&& 31 = 23) : Next A F P k := by
  obtain ⟨v, A1, F1, P1, A2, F2, P2, z1, z2, hI2⟩ := k_account hI (g xl (k + 1))
  have hA1 : A1 0 = xl := (f7_heap z1).trans hA
  have hA2 : A2 0 = xl := (f7_heap z2).trans hA1
  obtain ⟨w, rfl⟩ := kd_long z1 rfl
  refine ⟨A2, F2, P2, hI2, hA2.trans hA.symm, ?_⟩
  refine (b_law_18 0 1 192 (nI k) _).trans ?_
  refine (l_b (rd_len A F P)).trans ?_
  refine (l_no (by rw [hA]; exact rd_in hL hk)).trans ?_
  refine (l_b (rd_k hA hL (by omega))).trans ?_
  rw [ho]
  refine (l_no (by decide)).trans ?_
  refine (l_no (by decide)).trans ?_
  refine (l_no (by decide)).trans ?_
  refine (l_no (by decide)).trans ?_
  refine (l_no (by decide)).trans ?_
  refine (l_no (by decide)).trans ?_
  refine (l_no (by decide)).trans ?_
  refine (l_no (by decide)).trans ?_
  refine (l_no (by decide)).trans ?_
  refine (l_no (by decide)).trans ?_
  refine (l_no (by decide)).trans ?_
  refine (l_no (by decide)).trans ?_
  refine (l_no (by decide)).trans ?_
  refine (l_no (by decide)).trans ?_
  refine (l_no (by decide)).trans ?_
  refine (l_no (by decide)).trans ?_
  refine (l_no (by decide)).trans ?_
  refine (l_no (by decide)).trans ?_
  refine (l_no (by decide)).trans ?_
  refine (l_no (by decide)).trans ?_
  refine (l_no (by decide)).trans ?_
  refine (l_no (by decide)).trans ?_
  refine (l_no (by decide)).trans ?_
  refine (l_yes rfl).trans ?_
  refine (l_b (rd_i 1 hA hL hk rfl (by omega))).trans ?_
  refine (l_bl z1).trans ?_
  refine (l_b (rd_i 1 hA1 hL hk rfl (by omega))).trans ?_
  refine (l_bl z2).trans ?_
  refine (l_yes ((lg_cmp_eq w w).mpr rfl)).trans ?_
  rw [show nI k + 6 = nI (k + 6) from nI_addS k 6]
theorem law_24 (hI : InvN A F P nB nl nb nx q t) {k : Nat} {xl : List Int32} (hA : A 0 = xl) (hL : xl.length ≤ 3072) (hk : k + 6 ≤ xl.length) (ho : g xl k &&& 31 = 24) : Next A F P k := by
  obtain ⟨v, A1, F1, P1, A2, F2, P2, z1, z2, hI2⟩ := k_count hI (g xl (k + 1))
  have hA1 : A1 0 = xl := (f7_heap z1).trans hA
  have hA2 : A2 0 = xl := (f7_heap z2).trans hA1
  obtain ⟨w, rfl⟩ := kd_int z1 rfl (by decide)
  refine ⟨A2, F2, P2, hI2, hA2.trans hA.symm, ?_⟩
  refine (b_law_18 0 1 192 (nI k) _).trans ?_
  refine (l_b (rd_len A F P)).trans ?_
  refine (l_no (by rw [hA]; exact rd_in hL hk)).trans ?_
  refine (l_b (rd_k hA hL (by omega))).trans ?_
  rw [ho]
  refine (l_no (by decide)).trans ?_
  refine (l_no (by decide)).trans ?_
  refine (l_no (by decide)).trans ?_
  refine (l_no (by decide)).trans ?_
  refine (l_no (by decide)).trans ?_
  refine (l_no (by decide)).trans ?_
  refine (l_no (by decide)).trans ?_
  refine (l_no (by decide)).trans ?_
  refine (l_no (by decide)).trans ?_
  refine (l_no (by decide)).trans ?_
  refine (l_no (by decide)).trans ?_
  refine (l_no (by decide)).trans ?_
  refine (l_no (by decide)).trans ?_
  refine (l_no (by decide)).trans ?_
  refine (l_no (by decide)).trans ?_
  refine (l_no (by decide)).trans ?_
  refine (l_no (by decide)).trans ?_
  refine (l_no (by decide)).trans ?_
  refine (l_no (by decide)).trans ?_
  refine (l_no (by decide)).trans ?_
  refine (l_no (by decide)).trans ?_
  refine (l_no (by decide)).trans ?_
  refine (l_no (by decide)).trans ?_
  refine (l_no (by decide)).trans ?_
  refine (l_yes rfl).trans ?_
  refine (l_b (rd_i 1 hA hL hk rfl (by omega))).trans ?_
  refine (l_bi z1).trans ?_
  refine (l_b (rd_i 1 hA1 hL hk rfl (by omega))).trans ?_
  refine (l_bi z2).trans ?_
  refine (l_yes rfl).trans ?_
  rw [show nI k + 6 = nI (k + 6) from nI_addS k 6]
theorem law_25 (hI : InvN A F P nB nl nb nx q t) {k : Nat} {xl : List Int32} (hA : A 0 = xl) (hL : xl.length ≤ 3072) (hk : k + 6 ≤ xl.length) (ho : ∀ o : Nat, o < 25 → ¬ g xl k &&& 31 = nI o) : Next A F P k := by
  refine ⟨A, F, P, ⟨nB, nl, nb, nx, q, t, hI⟩, rfl, ?_⟩
  refine (b_law_18 0 1 192 (nI k) _).trans ?_
  refine (l_b (rd_len A F P)).trans ?_
  refine (l_no (by rw [hA]; exact rd_in hL hk)).trans ?_
  refine (l_b (rd_k hA hL (by omega))).trans ?_
  refine (l_no (ho 0 (by decide))).trans ?_
  refine (l_no (ho 1 (by decide))).trans ?_
  refine (l_no (ho 2 (by decide))).trans ?_
  refine (l_no (ho 3 (by decide))).trans ?_
  refine (l_no (ho 4 (by decide))).trans ?_
  refine (l_no (ho 5 (by decide))).trans ?_
  refine (l_no (ho 6 (by decide))).trans ?_
  refine (l_no (ho 7 (by decide))).trans ?_
  refine (l_no (ho 8 (by decide))).trans ?_
  refine (l_no (ho 9 (by decide))).trans ?_
  refine (l_no (ho 10 (by decide))).trans ?_
  refine (l_no (ho 11 (by decide))).trans ?_
  refine (l_no (ho 12 (by decide))).trans ?_
  refine (l_no (ho 13 (by decide))).trans ?_
  refine (l_no (ho 14 (by decide))).trans ?_
  refine (l_no (ho 15 (by decide))).trans ?_
  refine (l_no (ho 16 (by decide))).trans ?_
  refine (l_no (ho 17 (by decide))).trans ?_
  refine (l_no (ho 18 (by decide))).trans ?_
  refine (l_no (ho 19 (by decide))).trans ?_
  refine (l_no (ho 20 (by decide))).trans ?_
  refine (l_no (ho 21 (by decide))).trans ?_
  refine (l_no (ho 22 (by decide))).trans ?_
  refine (l_no (ho 23 (by decide))).trans ?_
  refine (l_no (ho 24 (by decide))).trans ?_
  rw [show nI k + 6 = nI (k + 6) from nI_addS k 6]
theorem law_next (hI : InvN A F P nB nl nb nx q t) {k : Nat} {xl : List Int32} (hA : A 0 = xl) (hL : xl.length ≤ 3072) (hk : k + 6 ≤ xl.length) : Next A F P k := by
  by_cases c0 : g xl k &&& 31 = 0
  · exact law_0 hI hA hL hk c0
  by_cases c1 : g xl k &&& 31 = 1
  · exact law_1 hI hA hL hk c1
  by_cases c2 : g xl k &&& 31 = 2
  · exact law_2 hI hA hL hk c2
  by_cases c3 : g xl k &&& 31 = 3
  · exact law_3 hI hA hL hk c3
  by_cases c4 : g xl k &&& 31 = 4
  · exact law_4 hI hA hL hk c4
  by_cases c5 : g xl k &&& 31 = 5
  · by_cases hc : g xl (k + 2) = 0
    · exact law_5y hI hA hL hk c5 hc
    · exact law_5n hI hA hL hk c5 hc
  by_cases c6 : g xl k &&& 31 = 6
  · exact law_6 hI hA hL hk c6
  by_cases c7 : g xl k &&& 31 = 7
  · exact law_7 hI hA hL hk c7
  by_cases c8 : g xl k &&& 31 = 8
  · exact law_8 hI hA hL hk c8
  by_cases c9 : g xl k &&& 31 = 9
  · exact law_9 hI hA hL hk c9
  by_cases c10 : g xl k &&& 31 = 10
  · exact law_10 hI hA hL hk c10
  by_cases c11 : g xl k &&& 31 = 11
  · exact law_11 hI hA hL hk c11
  by_cases c12 : g xl k &&& 31 = 12
  · exact law_12 hI hA hL hk c12
  by_cases c13 : g xl k &&& 31 = 13
  · exact law_13 hI hA hL hk c13
  by_cases c14 : g xl k &&& 31 = 14
  · exact law_14 hI hA hL hk c14
  by_cases c15 : g xl k &&& 31 = 15
  · exact law_15 hI hA hL hk c15
  by_cases c16 : g xl k &&& 31 = 16
  · exact law_16 hI hA hL hk c16
  by_cases c17 : g xl k &&& 31 = 17
  · exact law_17 hI hA hL hk c17
  by_cases c18 : g xl k &&& 31 = 18
  · exact law_18 hI hA hL hk c18
  by_cases c19 : g xl k &&& 31 = 19
  · exact law_19 hI hA hL hk c19
  by_cases c20 : g xl k &&& 31 = 20
  · exact law_20 hI hA hL hk c20
  by_cases c21 : g xl k &&& 31 = 21
  · exact law_21 hI hA hL hk c21
  by_cases c22 : g xl k &&& 31 = 22
  · exact law_22 hI hA hL hk c22
  by_cases c23 : g xl k &&& 31 = 23
  · exact law_23 hI hA hL hk c23
  by_cases c24 : g xl k &&& 31 = 24
  · exact law_24 hI hA hL hk c24
  refine law_25 hI hA hL hk fun o ho => ?_
  have : o = 0 ∨ o = 1 ∨ o = 2 ∨ o = 3 ∨ o = 4 ∨ o = 5 ∨ o = 6 ∨ o = 7 ∨ o = 8 ∨ o = 9 ∨ o = 10 ∨ o = 11 ∨ o = 12 ∨ o = 13 ∨ o = 14 ∨ o = 15 ∨ o = 16 ∨ o = 17 ∨ o = 18 ∨ o = 19 ∨ o = 20 ∨ o = 21 ∨ o = 22 ∨ o = 23 ∨ o = 24 := by omega
  rcases this with rfl | rfl | rfl | rfl | rfl | rfl | rfl | rfl | rfl | rfl | rfl | rfl | rfl | rfl | rfl | rfl | rfl | rfl | rfl | rfl | rfl | rfl | rfl | rfl | rfl
  · exact c0
  · exact c1
  · exact c2
  · exact c3
  · exact c4
  · exact c5
  · exact c6
  · exact c7
  · exact c8
  · exact c9
  · exact c10
  · exact c11
  · exact c12
  · exact c13
  · exact c14
  · exact c15
  · exact c16
  · exact c17
  · exact c18
  · exact c19
  · exact c20
  · exact c21
  · exact c22
  · exact c23
  · exact c24
theorem law_loop {xl : List Int32} (hL : xl.length ≤ 3072) (m : Nat) : ∀ (k : Nat) (A : Nat → List Int32) (F : Nat → Int32) (P : Nat → Nat), A 0 = xl → Inv A F P → k ≤ 3072 → xl.length ≤ k + m → ∃ A' F' P', Inv A' F' P' ∧ A' 0 = xl ∧ am_ev m_law (18, [.ref 0, .ref 1, .ref 192, .int (nI k)], [], heap A F P) = some (some (.int 1), heap A' F' P') := by
  induction m with
  | zero =>
    intro k A F P hA hI hk hm
    refine ⟨A, F, P, hI, hA, ?_⟩
    refine (b_law_18 0 1 192 (nI k) _).trans ?_
    refine (l_b (rd_len A F P)).trans ?_
    refine l_yes ?_
    rw [hA]
    by_cases c : nI xl.length - 6 < nI k
    · exact c
    · have := rd_ex hL hk c
      omega
  | succ m ih =>
    intro k A F P hA hI hk hm
    by_cases c : nI xl.length - 6 < nI k
    · refine ⟨A, F, P, hI, hA, ?_⟩
      refine (b_law_18 0 1 192 (nI k) _).trans ?_
      refine (l_b (rd_len A F P)).trans ?_
      refine l_yes ?_
      rw [hA]
      exact c
    · have h6 := rd_ex hL hk c
      obtain ⟨nB, nl, nb, nx, q, t, hI⟩ := hI
      obtain ⟨A2, F2, P2, hI2, hA2, e⟩ := law_next hI hA hL h6
      obtain ⟨A', F', P', z1, z2, z3⟩ := ih (k + 6) A2 F2 P2 (hA2.trans hA) hI2 (by omega) (by omega)
      exact ⟨A', F', P', z1, z2, e.trans z3⟩
end

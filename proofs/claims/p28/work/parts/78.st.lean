/-! THE LAW'S HEAP: the class's, and five arrays of the law's own (A 300 .. 304) -/
def ad (A D : Nat → List Int32) : Nat → List Int32 := fun j => if j < 300 then A j else D (j - 300)
theorem ad_lo {A D : Nat → List Int32} {j : Nat} (h : j < 300) : ad A D j = A j := if_pos h
theorem ad_of {A A1 D : Nat → List Int32} (h : ∀ j, 206 ≤ j → A1 j = ad A D j) : A1 = ad A1 D := by
  funext j
  unfold ad
  split
  · rfl
  · rename_i z
    rw [h j (by omega)]
    unfold ad
    rw [if_neg z]
section X
variable {A : Nat → List Int32} {F : Nat → Int32} {P : Nat → Nat} {nB nl nb nx q t : Nat}
theorem InvN_300 {A' : Nat → List Int32} (hI : InvN A F P nB nl nb nx q t) (hA : ∀ j, j < 300 → A' j = A j) : InvN A' F P nB nl nb nx q t := by
  obtain ⟨hs, ⟨l1, l2, l3⟩, ⟨q1, q2, q3, q4, q5, q6⟩, ⟨t1, t2, t3, t4⟩, hH⟩ := hI
  have eA : ∀ b, b ≤ 132 → st A' b = st A b := fun b hb => st_c (fun j hj => hA _ (by omega))
  have e193 : A' 193 = A 193 := hA 193 (by omega)
  refine ⟨by rw [eA 2 (by omega), e193]; exact hs, ⟨LenS_c (fun j hj => hA _ (by omega)) l1, fun b hb => LenS_c (fun j hj => hA _ (by have := (hsP_b hb).2; omega)) (l2 b hb), ?_⟩, ⟨q1, q2, q3, q4, q5, fun s hs' => ?_⟩, ⟨t1, t2, t3, fun j hj => by rw [hA 185 (by omega), hA 195 (by omega)]; exact t4 j hj⟩, ?_⟩
  · unfold LenO at l3 ⊢
    rw [hA 194 (by omega), hA 185 (by omega), hA 195 (by omega), hA 187 (by omega), hA 189 (by omega), hA 191 (by omega), hA 196 (by omega), hA 197 (by omega), hA 198 (by omega), hA 199 (by omega), hA 200 (by omega), hA 201 (by omega), hA 202 (by omega), hA 203 (by omega), hA 204 (by omega), hA 205 (by omega), hA 166 (by omega), hA 168 (by omega), hA 170 (by omega), hA 172 (by omega), hA 174 (by omega), hA 176 (by omega), hA 178 (by omega), hA 180 (by omega), hA 182 (by omega)]
    exact l3
  · obtain ⟨mB, ml, mb, mx, hm⟩ := q6 s hs'
    have hb := (hsP_b (q4 s (by omega))).2
    refine ⟨mB, ml, mb, mx, ?_⟩
    rw [eA _ hb, hA 194 (by omega)]
    exact hm
  · unfold Held ClS at hH ⊢
    rw [e193, hA 166 (by omega), hA 168 (by omega), hA 170 (by omega), hA 172 (by omega), hA 174 (by omega), hA 176 (by omega), hA 178 (by omega), hA 180 (by omega)]
    exact hH
theorem InvN_ad (hI : InvN A F P nB nl nb nx q t) (D : Nat → List Int32) : InvN (ad A D) F P nB nl nb nx q t := InvN_300 hI (fun _ hj => ad_lo hj)
end X
/-- the class's object holds the state r, the text tx; u: the last state of its history; D: the law's arrays; xl: the script -/
def Rs (xl : List Int32) (D : Nat → List Int32) (r tx : List Int32) (u : Option (List Int32)) (nB nl nb nx : Nat) (h : am_H) : Prop := ∃ A F P q t, h = heap (ad A D) F P ∧ InvN A F P nB nl nb nx q t ∧ A 193 = r ∧ A 0 = xl ∧ t = tx.length ∧ (∀ j, j < t → g (A 195) j = g tx j) ∧ ∀ r0, u = some r0 → ∃ q', q = q' + 1 ∧ sl (A 194) q' = r0
/-- the sale's arrays of a row -/
def Sv (r : List Int32) (nB nl nb nx : Nat) (L B Fi Se Mn Bu Pr : List Int32) : Prop := SaL L B Fi Se Mn Bu Pr ∧ SaI r nB nl nb nx L B Fi Se Mn Bu Pr nl
section R
variable {xl : List Int32} {D : Nat → List Int32} {r tx : List Int32} {u : Option (List Int32)} {nB nl nb nx : Nat} {h : am_H} {m : Nat} {xs : List Value} {v : Value}
theorem Rs_cx (hR : Rs xl D r tx u nB nl nb nx h) : ∃ A F, Cx A F r nB nl nb nx := by
  obtain ⟨A, F, P, q, t, -, hI, hr, -⟩ := hR
  exact ⟨A, F, hr ▸ Cx_of hI⟩
theorem Rs_sv (hR : Rs xl D r tx u nB nl nb nx h) : ∃ L B Fi Se Mn Bu Pr, Sv r nB nl nb nx L B Fi Se Mn Bu Pr := by
  obtain ⟨A, F, hC⟩ := Rs_cx hR
  exact SaI_ex hC.1
theorem R_act {r' : List Int32} {nB' nl' nb' nx' : Nat} (hR : Rs xl D r tx u nB nl nb nx h) (ha : ∀ A F P q t, InvN A F P nB nl nb nx q t → A 193 = r → Act m xs A F P v r' nB' nl' nb' nx' q t) : ∃ h', am_cl m (.ref 1 :: xs) h = some (some v, h') ∧ Rs xl D r' tx (some r) nB' nl' nb' nx' h' := by
  obtain ⟨A, F, P, q, t, rfl, hI, hr, hx, ht, hT, hu⟩ := hR
  obtain ⟨A1, F1, P1, e, I1, r1, s1, x1, z1, o1⟩ := ha (ad A D) F P q t (InvN_ad hI D) ((ad_lo (by omega)).trans hr)
  rw [ad_lo (by omega)] at s1 x1 z1
  have eA := ad_of o1
  refine ⟨_, e, A1, F1, P1, kp q + 1, t, congrArg (fun a => heap a F1 P1) eA, I1, r1, z1.trans hx, ht, fun j hj => by rw [x1]; exact hT j hj, fun r0 h0 => ⟨kp q, rfl, ?_⟩⟩
  cases h0
  rw [s1, hr]
/-- no change at all -/
theorem R_same (hR : Rs xl D r tx u nB nl nb nx h) (ha : ∀ A F P q t, InvN A F P nB nl nb nx q t → A 193 = r → am_cl m (.ref 1 :: xs) (heap A F P) = some (some v, heap A F P)) : am_cl m (.ref 1 :: xs) h = some (some v, h) := by
  obtain ⟨A, F, P, q, t, rfl, hI, hr, -⟩ := hR
  exact ha (ad A D) F P q t (InvN_ad hI D) ((ad_lo (by omega)).trans hr)
theorem R_cx (hR : Rs xl D r tx u nB nl nb nx h) (ha : ∀ A F P, Cx A F r nB nl nb nx → am_cl m (.ref 1 :: xs) (heap A F P) = some (some v, heap A F P)) : am_cl m (.ref 1 :: xs) h = some (some v, h) :=
  R_same hR (fun A F P q t hI hr => ha A F P (hr ▸ Cx_of hI))
/-- the sale is held -/
def Hd (xl r tx : List Int32) (u : Option (List Int32)) (nB nl nb nx : Nat) (A : Nat → List Int32) (F : Nat → Int32) (P : Nat → Nat) : Prop := F 16410 = nI 1 ∧ ∃ q t, InvN A F P nB nl nb nx q t ∧ A 193 = r ∧ A 0 = xl ∧ t = tx.length ∧ (∀ j, j < t → g (A 195) j = g tx j) ∧ ∀ r0, u = some r0 → ∃ q', q = q' + 1 ∧ sl (A 194) q' = r0
theorem Hd.R {A : Nat → List Int32} {F : Nat → Int32} {P : Nat → Nat} (hH : Hd xl r tx u nB nl nb nx A F P) (D' : Nat → List Int32) : Rs xl D' r tx u nB nl nb nx (heap (ad A D') F P) := by
  obtain ⟨-, q, t, h1⟩ := hH
  exact ⟨A, F, P, q, t, rfl, h1⟩
theorem Hd.Q {A : Nat → List Int32} {F : Nat → Int32} {P : Nat → Nat} {L B Fi Se Mn Bu Pr : List Int32} (hH : Hd xl r tx u nB nl nb nx A F P) (hS : Sv r nB nl nb nx L B Fi Se Mn Bu Pr) (D' : Nat → List Int32) : HQ (ad A D') F P (ad A D') F r nB nl nb nx L B Fi Se Mn Bu Pr := by
  obtain ⟨hh, q, t, hI, hr, -⟩ := hH
  have e : ad A D' 193 = r := (ad_lo (by omega)).trans hr
  have := HQ_held (P := P) (L := L) (B := B) (Fi := Fi) (Se := Se) (Mn := Mn) (Bu := Bu) (Pr := Pr) (InvN_ad hI D') hh (by rw [e]; exact hS.2)
  rw [e] at this
  exact this
/-- a question of the sale -/
theorem R_q {L B Fi Se Mn Bu Pr : List Int32} (hR : Rs xl D r tx u nB nl nb nx h) (hS : Sv r nB nl nb nx L B Fi Se Mn Bu Pr) (ha : ∀ A F P A' F', HQ A F P A' F' r nB nl nb nx L B Fi Se Mn Bu Pr → am_cl m (.ref 1 :: xs) (heap A F P) = some (some v, heap A' F' P)) : ∃ A F P, am_cl m (.ref 1 :: xs) h = some (some v, heap (ad A D) F P) ∧ Hd xl r tx u nB nl nb nx A F P := by
  obtain ⟨A, F, P, q, t, rfl, hI, hr, hx, ht, hT, hu⟩ := hR
  have e : ad A D 193 = r := (ad_lo (by omega)).trans hr
  obtain ⟨A', h1, h2, h3⟩ := HQ_of (L := L) (B := B) (Fi := Fi) (Se := Se) (Mn := Mn) (Bu := Bu) (Pr := Pr) (InvN_ad hI D) (by rw [e]; exact hS.2)
  rw [e] at h3
  have eA : A' = ad A' D := ad_of (fun j hj => h1 j (by omega))
  refine ⟨A', up F 16410 (nI 1), P, by rw [← eA]; exact ha _ _ _ _ _ h3, up_eq _ _ _, q, t, h2, ?_, ?_, ht, fun j hj => ?_, fun r0 h0 => ?_⟩
  · rw [h1 193 (by omega)]; exact e
  · rw [h1 0 (by omega), ad_lo (by omega)]; exact hx
  · rw [h1 195 (by omega), ad_lo (by omega)]; exact hT j hj
  · obtain ⟨q', e1, e2⟩ := hu r0 h0
    exact ⟨q', e1, by rw [h1 194 (by omega), ad_lo (by omega)]; exact e2⟩
theorem R_qr {L B Fi Se Mn Bu Pr : List Int32} (hR : Rs xl D r tx u nB nl nb nx h) (hS : Sv r nB nl nb nx L B Fi Se Mn Bu Pr) (ha : ∀ A F P A' F', HQ A F P A' F' r nB nl nb nx L B Fi Se Mn Bu Pr → am_cl m (.ref 1 :: xs) (heap A F P) = some (some v, heap A' F' P)) : ∃ h', am_cl m (.ref 1 :: xs) h = some (some v, h') ∧ Rs xl D r tx u nB nl nb nx h' := by
  obtain ⟨A, F, P, h1, h2⟩ := R_q hR hS ha
  exact ⟨_, h1, h2.R D⟩
theorem Mok_u {r : List Int32} {a b c d a' b' c' d' : Nat} (h : Mok r a b c d) (h' : Mok r a' b' c' d') : a = a' ∧ b = b' ∧ c = c' ∧ d = d' := by
  obtain ⟨-, h1, h2, h3, h4, h5, h6, h7, h8, h9⟩ := h
  obtain ⟨-, k1, k2, k3, k4, k5, k6, k7, k8, k9⟩ := h'
  rw [h1] at k1; rw [h2] at k2; rw [h3] at k3; rw [h4] at k4
  exact ⟨(nI_eq (by omega) (by omega)).mp k1, (nI_eq (by omega) (by omega)).mp k2, (nI_eq (by omega) (by omega)).mp k3, (nI_eq (by omega) (by omega)).mp k4⟩
theorem R_undo {r0 : List Int32} {mB ml mb mx : Nat} (hR : Rs xl D r tx (some r0) nB nl nb nx h) (hm : Mok r0 mB ml mb mx) : ∃ p h', p ≤ 4 ∧ am_cl m_Pa_undo [.ref 1] h = some (some (.int (nI p)), h') ∧ Rs xl D r0 tx none mB ml mb mx h' := by
  obtain ⟨A, F, P, q, t, rfl, hI, hr, hx, ht, hT, hu⟩ := hR
  obtain ⟨p, rfl, hs⟩ := hu r0 rfl
  obtain ⟨mB', ml', mb', mx', A1, F1, e, I1, r1, s1, x1, z1, o1⟩ := k_undo (InvN_ad hI D)
  rw [ad_lo (by omega)] at r1 s1 x1 z1
  have eA := ad_of o1
  have er : A1 193 = r0 := r1.trans hs
  have hM := I1.1.1
  rw [er] at hM
  obtain ⟨rfl, rfl, rfl, rfl⟩ := Mok_u hm hM
  have hp := hI.2.2.1.1
  exact ⟨p, _, by omega, e, A1, F1, P, p, t, congrArg (fun a => heap a F1 P) eA, I1, er, z1.trans hx, ht, fun j hj => by rw [x1]; exact hT j hj, fun _ h0 => by cases h0⟩
theorem R_clear (hR : Rs xl D r tx u nB nl nb nx h) : ∃ h', am_cl m_Pa_clearText [.ref 1] h = some (some (.int (nI tx.length)), h') ∧ Rs xl D r [] u nB nl nb nx h' := by
  obtain ⟨A, F, P, q, t, rfl, hI, hr, hx, ht, hT, hu⟩ := hR
  obtain ⟨A1, F1, e, I1, o1⟩ := k_clearText (InvN_ad hI D)
  have eA := ad_of (fun j _ => o1 j)
  refine ⟨_, by rw [← ht]; exact e, A1, F1, P, q, 0, congrArg (fun a => heap a F1 P) eA, I1, ?_, ?_, rfl, fun j hj => absurd hj (Nat.not_lt_zero _), fun r0 h0 => ?_⟩
  · rw [o1, ad_lo (by omega)]; exact hr
  · rw [o1, ad_lo (by omega)]; exact hx
  · rw [o1, ad_lo (by omega)]; exact hu r0 h0
theorem R_type (hR : Rs xl D r tx u nB nl nb nx h) (x : Int32) (hn : tx.length < 80) : ∃ h', am_cl m_Pa_type [.ref 1, .int x] h = some (some (.int (nI (tx.length + 1))), h') ∧ Rs xl D r (tx ++ [vp_nar .char x]) u nB nl nb nx h' := by
  obtain ⟨A, F, P, q, t, rfl, hI, hr, hx, ht, hT, hu⟩ := hR
  obtain ⟨A1, F1, e, I1, c1, c2, o1⟩ := k_type (InvN_ad hI D) x (by omega)
  have eA := ad_of (fun j hj => o1 j (by omega) (by omega))
  refine ⟨_, by rw [← ht]; exact e, A1, F1, P, q, t + 1, congrArg (fun a => heap a F1 P) eA, I1, ?_, ?_, by rw [List.length_append, ht]; rfl, fun j hj => ?_, fun r0 h0 => ?_⟩
  · rw [o1 193 (by omega) (by omega), ad_lo (by omega)]; exact hr
  · rw [o1 0 (by omega) (by omega), ad_lo (by omega)]; exact hx
  · by_cases z : j = t
    · subst z
      rw [c1]
      unfold g
      rw [List.getD_eq_getElem?_getD, List.getElem?_append_right (by omega), ht, Nat.sub_self]
      rfl
    · rw [c2 j (by omega), ad_lo (by omega), hT j (by omega)]
      unfold g
      rw [List.getD_eq_getElem?_getD, List.getD_eq_getElem?_getD, List.getElem?_append_left (by omega)]
  · rw [o1 194 (by omega) (by omega), ad_lo (by omega)]; exact hu r0 h0
end R

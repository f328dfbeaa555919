/-! GHOSTS: what only the relation speaks of isn't in the heap -/
theorem gh193 (A : Nat → List Int32) (v : List Int32) (F : Nat → Int32) (P : Nat → Nat) : heap (up A 193 v) F P = heap A F P := rfl
theorem gh194 (A : Nat → List Int32) (v : List Int32) (F : Nat → Int32) (P : Nat → Nat) : heap (up A 194 v) F P = heap A F P := rfl
theorem gh195 (A : Nat → List Int32) (v : List Int32) (F : Nat → Int32) (P : Nat → Nat) : heap (up A 195 v) F P = heap A F P := rfl
theorem ghF2 (A : Nat → List Int32) (v : Int32) (F : Nat → Int32) (P : Nat → Nat) : heap A (up F 19202 v) P = heap A F P := rfl
theorem ghF3 (A : Nat → List Int32) (v : Int32) (F : Nat → Int32) (P : Nat → Nat) : heap A (up F 19203 v) P = heap A F P := rfl
theorem g_mkl' {n : Nat} {f : Nat → Int32} {j : Nat} (h : j < n) : g ((List.range n).map f) j = f j := by
  unfold g
  rw [List.getD_eq_getElem?_getD, List.getElem?_map, List.getElem?_range h]
  rfl
/-- the history behind one more state -/
theorem hist_ex {r H : List Int32} (hr : r.length = 472) (hH : H.length = 1888) {q : Nat} (hq : q ≤ 4) : ∃ H' : List Int32, H'.length = 1888 ∧ sl H' (kp q) = r ∧ ∀ s, s < kp q → sl H' s = sl H (of4 q s) := by
  have hk : kp q ≤ 3 := by unfold kp; split <;> omega
  have hl : ((List.range 1888).map (fun j => if 472 * kp q ≤ j ∧ j < 472 * kp q + 472 then g r (j - 472 * kp q) else g H (j + 472 * of4 q 0))).length = 1888 := by simp
  refine ⟨(List.range 1888).map (fun j => if 472 * kp q ≤ j ∧ j < 472 * kp q + 472 then g r (j - 472 * kp q) else g H (j + 472 * of4 q 0)), hl, ?_, fun s hs => ?_⟩
  · refine g_ext (by rw [sl_len hl (by omega), hr]) (fun j hj => ?_)
    rw [sl_len hl (by omega)] at hj
    rw [sl_g hj, g_mkl' (by omega), if_pos (by omega), Nat.add_sub_cancel_left]
  · have ho : of4 q s = s + of4 q 0 := by unfold of4; split <;> omega
    have ho3 : of4 q s ≤ 3 := by
      unfold kp at hs
      unfold of4
      split <;> rename_i z
      · rw [if_pos z] at hs; omega
      · rw [if_neg z] at hs; omega
    refine g_ext (by rw [sl_len hl (by omega), sl_len hH (by omega)]) (fun j hj => ?_)
    rw [sl_len hl (by omega)] at hj
    rw [sl_g hj, sl_g hj, g_mkl' (by omega), if_neg (by omega), ho]
    exact congrArg (g H) (by omega)
section X
variable {A : Nat → List Int32} {F : Nat → Int32} {P : Nat → Nat} {nB nl nb nx q t : Nat}
/-- an act: its answer, the state behind it, the state before it in the history -/
def Act (m : Nat) (xs : List Value) (A : Nat → List Int32) (F : Nat → Int32) (P : Nat → Nat) (v : Value) (r' : List Int32) (nB nl nb nx q t : Nat) : Prop :=
  ∃ A1 F1 P1, am_cl m (.ref 1 :: xs) (heap A F P) = some (some v, heap A1 F1 P1) ∧ InvN A1 F1 P1 nB nl nb nx (kp q + 1) t ∧ A1 193 = r' ∧ sl (A1 194) (kp q) = A 193 ∧ A1 195 = A 195 ∧ A1 0 = A 0 ∧ ∀ j, 206 ≤ j → A1 j = A j
theorem act_pre (hI : InvN A F P nB nl nb nx q t) : ∃ b H', b = Pk q P (kp q) ∧ 36 ≤ b ∧ b ≤ 132 ∧ am_cl m_Pa_beginAct [.ref 1] (heap A F P) = some (none, heap (cpA A 2 b) (up (up (cpF F 2 b) 3401 (nI (kp q + 1))) 16410 (nI 0)) (Pk q P)) ∧ H'.length = 1888 ∧ sl H' (kp q) = A 193 ∧ ∀ s, s < kp q → sl H' s = sl (A 194) (of4 q s) := by
  obtain ⟨hs, ⟨l1, l2, l3⟩, ⟨q1, q2, q3, q4, q5, q6⟩, ht, -⟩ := hI
  have hb := Pk_hs (q := q) q4 _ (kp_lt q1)
  obtain ⟨b1, b2⟩ := hsP_b hb
  obtain ⟨H', e1, e2, e3⟩ := hist_ex (r := A 193) (H := A 194) hs.1.1 l3.1 q1
  exact ⟨_, H', rfl, b1, b2, s_beginAct q1 q2 q4 l1 l2, e1, e2, e3⟩
end X

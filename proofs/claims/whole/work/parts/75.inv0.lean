/-! THE RELATION HOLDS AT THE START -/
theorem i_mr_len : cI_mr.length = 472 := by simp only [cI_mr, List.length_set, List.length_replicate]
theorem i_193 (xl : List Int32) : cI_A xl 193 = cI_mr := rfl
theorem i_mok : Mok cI_mr 1 0 0 0 := ⟨i_mr_len, by decide +kernel, by decide +kernel, by decide +kernel, by decide +kernel, by omega, by omega, by omega, by omega, by omega⟩
theorem i_simB (xl : List Int32) : SimB (st (cI_A xl) 2) cI_mr 1 := by
  have e3 : st (cI_A xl) 2 3 = List.replicate 8 0 := rfl
  have e5 : st (cI_A xl) 2 5 = (List.replicate 8 0).set 0 5 := rfl
  have q : g (st (cI_A xl) 2 3) 0 = g cI_mr (1 + 0) ∧ g (st (cI_A xl) 2 5) 0 = g cI_mr (9 + 0) := by rw [e3, e5]; decide +kernel
  refine ⟨fun k hk => ?_, fun j hj => ?_, by rw [e3]; decide +kernel, by decide +kernel, fun j hj => ?_, fun i j h1 h2 => by omega, fun i j h1 h2 => by omega⟩
  · obtain rfl : k = 0 := by omega
    exact ⟨0, by omega, q⟩
  · obtain rfl : j = 0 := by omega
    exact ⟨0, by omega, q⟩
  · obtain rfl : j = 0 := by omega
    exact ⟨⟨0, by omega, by omega, by decide +kernel⟩, ⟨5, by omega, by omega, by decide +kernel⟩⟩
theorem i_simS (xl : List Int32) : SimS (st (cI_A xl) 2) cI_mr := by
  have e : st (cI_A xl) 2 31 = ((((List.replicate 4 0).set 0 50000).set 1 150).set 2 100).set 3 2 := rfl
  refine ⟨?_, ⟨50000, by omega, by omega, by decide +kernel⟩, ⟨150, by omega, by omega, by decide +kernel⟩, ⟨100, by omega, by omega, by decide +kernel⟩, ⟨2, by omega, by omega, by decide +kernel⟩⟩
  rw [e]
  decide +kernel
theorem i_lenS (xl : List Int32) (b : Nat) (hb : b = 2 ∨ hsP b) : LenS (cI_A xl) b := by
  rcases hb with rfl | rfl | rfl | rfl | rfl <;> exact ⟨rfl, rfl, rfl, rfl, rfl, rfl, rfl, rfl, rfl, rfl, rfl, rfl, rfl, rfl⟩
set_option maxRecDepth 20000 in
theorem i_lenO (xl : List Int32) : LenO (cI_A xl) := by
  refine ⟨?_, rfl, rfl, ⟨rfl, rfl, rfl⟩, ⟨rfl, rfl, rfl⟩, ⟨rfl, rfl, rfl, rfl, rfl, rfl, rfl⟩, rfl, rfl, rfl, rfl, rfl, rfl, rfl, rfl, rfl⟩
  rw [show cI_A xl 194 = List.replicate 1888 0 from rfl, List.length_replicate]
theorem i_inv (xl : List Int32) : InvN (cI_A xl) (cI_F xl) cI_P 1 0 0 0 0 0 := by
  refine ⟨⟨i_mok, ⟨rfl, rfl, rfl, rfl⟩, i_simB xl, fun l h => by omega, fun l h => by omega, fun l h => by omega, i_simS xl⟩, ⟨i_lenS xl 2 (Or.inl rfl), fun b hb => i_lenS xl b (Or.inr hb), i_lenO xl⟩, ⟨by omega, rfl, rfl, fun i hi => ?_, fun i j h1 h2 => ?_, fun s hs => by omega⟩, ⟨by omega, rfl, rfl, fun j hj => by omega⟩, Or.inl rfl⟩
  · have : i = 0 ∨ i = 1 ∨ i = 2 ∨ i = 3 := by omega
    rcases this with rfl | rfl | rfl | rfl
    · exact Or.inl rfl
    · exact Or.inr (Or.inl rfl)
    · exact Or.inr (Or.inr (Or.inl rfl))
    · exact Or.inr (Or.inr (Or.inr rfl))
  · unfold cI_P
    omega

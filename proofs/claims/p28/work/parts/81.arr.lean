/-! THE LAW'S OWN NUMBERS AND ARRAYS -/
theorem s_low (v : Int32) {n : Nat} (h0 : 0 < n) (hn : n < 2 ^ 31) : ∃ k, k < n ∧ ∀ h, am_cl m_L_low [.int v, .int (nI n)] h = some (some (.int (nI k)), h) := by
  obtain ⟨j, hj, e⟩ := pk_andE v (m := nI 2147483647) 31 (by decide)
  refine ⟨j % n, Nat.mod_lt _ h0, fun h => ?_⟩
  have hne : ¬ nI n = 0 := nI_ne0 h0 hn
  rw [e_L_low, e, am_rm_s hne, ob_s, pk_rem hj h0 hn]
/-- the arrays have their lengths -/
def DL (D : Nat → List Int32) : Prop := (D 0).length = 64 ∧ (D 1).length = 64 ∧ (D 2).length = 64 ∧ (D 3).length = 64 ∧ (D 4).length = 64
theorem DL_up {D : Nat → List Int32} (h : DL D) {j k : Nat} {v : Int32} (hj : j < 5) : DL (up D j ((D j).set k v)) := by
  obtain ⟨h0, h1, h2, h3, h4⟩ := h
  have : j = 0 ∨ j = 1 ∨ j = 2 ∨ j = 3 ∨ j = 4 := by omega
  rcases this with rfl | rfl | rfl | rfl | rfl
  · exact ⟨by rw [up_eq, List.length_set]; exact h0, h1, h2, h3, h4⟩
  · exact ⟨h0, by rw [up_eq, List.length_set]; exact h1, h2, h3, h4⟩
  · exact ⟨h0, h1, by rw [up_eq, List.length_set]; exact h2, h3, h4⟩
  · exact ⟨h0, h1, h2, by rw [up_eq, List.length_set]; exact h3, h4⟩
  · exact ⟨h0, h1, h2, h3, by rw [up_eq, List.length_set]; exact h4⟩
theorem al_0 (A D : Nat → List Int32) (F : Nat → Int32) (P : Nat → Nat) {k : Nat} (hk : k < 64) (hl : (D 0).length = 64) : am_al (heap (ad A D) F P) 0 192 (nI k) = some (g (D 0) k) := by
  have e : am_al (heap (ad A D) F P) 0 192 (nI k) = bif am_in (nI k) (D 0).length then (D 0)[(nI k).toNatClampNeg]? else none := rfl
  rw [e]
  exact rd_nI (by omega) (by omega)
theorem as_0 (A D : Nat → List Int32) (F : Nat → Int32) (P : Nat → Nat) {k : Nat} (v : Int32) (hk : k < 64) (hl : (D 0).length = 64) : am_as (heap (ad A D) F P) 0 192 (nI k) v = some (heap (ad A (up D 0 ((D 0).set k v))) F P) := by
  have e : am_as (heap (ad A D) F P) 0 192 (nI k) v = bif am_in (nI k) (D 0).length then some ((fun l => heap (ad A (up D 0 l)) F P) ((D 0).set (nI k).toNatClampNeg v)) else none := rfl
  rw [e]
  exact wr_nI (f := fun l => heap (ad A (up D 0 l)) F P) (by omega) (by omega)
theorem al_1 (A D : Nat → List Int32) (F : Nat → Int32) (P : Nat → Nat) {k : Nat} (hk : k < 64) (hl : (D 1).length = 64) : am_al (heap (ad A D) F P) 0 193 (nI k) = some (g (D 1) k) := by
  have e : am_al (heap (ad A D) F P) 0 193 (nI k) = bif am_in (nI k) (D 1).length then (D 1)[(nI k).toNatClampNeg]? else none := rfl
  rw [e]
  exact rd_nI (by omega) (by omega)
theorem as_1 (A D : Nat → List Int32) (F : Nat → Int32) (P : Nat → Nat) {k : Nat} (v : Int32) (hk : k < 64) (hl : (D 1).length = 64) : am_as (heap (ad A D) F P) 0 193 (nI k) v = some (heap (ad A (up D 1 ((D 1).set k v))) F P) := by
  have e : am_as (heap (ad A D) F P) 0 193 (nI k) v = bif am_in (nI k) (D 1).length then some ((fun l => heap (ad A (up D 1 l)) F P) ((D 1).set (nI k).toNatClampNeg v)) else none := rfl
  rw [e]
  exact wr_nI (f := fun l => heap (ad A (up D 1 l)) F P) (by omega) (by omega)
theorem al_2 (A D : Nat → List Int32) (F : Nat → Int32) (P : Nat → Nat) {k : Nat} (hk : k < 64) (hl : (D 2).length = 64) : am_al (heap (ad A D) F P) 0 194 (nI k) = some (g (D 2) k) := by
  have e : am_al (heap (ad A D) F P) 0 194 (nI k) = bif am_in (nI k) (D 2).length then (D 2)[(nI k).toNatClampNeg]? else none := rfl
  rw [e]
  exact rd_nI (by omega) (by omega)
theorem as_2 (A D : Nat → List Int32) (F : Nat → Int32) (P : Nat → Nat) {k : Nat} (v : Int32) (hk : k < 64) (hl : (D 2).length = 64) : am_as (heap (ad A D) F P) 0 194 (nI k) v = some (heap (ad A (up D 2 ((D 2).set k v))) F P) := by
  have e : am_as (heap (ad A D) F P) 0 194 (nI k) v = bif am_in (nI k) (D 2).length then some ((fun l => heap (ad A (up D 2 l)) F P) ((D 2).set (nI k).toNatClampNeg v)) else none := rfl
  rw [e]
  exact wr_nI (f := fun l => heap (ad A (up D 2 l)) F P) (by omega) (by omega)
theorem al_3 (A D : Nat → List Int32) (F : Nat → Int32) (P : Nat → Nat) {k : Nat} (hk : k < 64) (hl : (D 3).length = 64) : am_al (heap (ad A D) F P) 0 195 (nI k) = some (g (D 3) k) := by
  have e : am_al (heap (ad A D) F P) 0 195 (nI k) = bif am_in (nI k) (D 3).length then (D 3)[(nI k).toNatClampNeg]? else none := rfl
  rw [e]
  exact rd_nI (by omega) (by omega)
theorem as_3 (A D : Nat → List Int32) (F : Nat → Int32) (P : Nat → Nat) {k : Nat} (v : Int32) (hk : k < 64) (hl : (D 3).length = 64) : am_as (heap (ad A D) F P) 0 195 (nI k) v = some (heap (ad A (up D 3 ((D 3).set k v))) F P) := by
  have e : am_as (heap (ad A D) F P) 0 195 (nI k) v = bif am_in (nI k) (D 3).length then some ((fun l => heap (ad A (up D 3 l)) F P) ((D 3).set (nI k).toNatClampNeg v)) else none := rfl
  rw [e]
  exact wr_nI (f := fun l => heap (ad A (up D 3 l)) F P) (by omega) (by omega)
theorem al_4 (A D : Nat → List Int32) (F : Nat → Int32) (P : Nat → Nat) {k : Nat} (hk : k < 64) (hl : (D 4).length = 64) : am_al (heap (ad A D) F P) 0 196 (nI k) = some (g (D 4) k) := by
  have e : am_al (heap (ad A D) F P) 0 196 (nI k) = bif am_in (nI k) (D 4).length then (D 4)[(nI k).toNatClampNeg]? else none := rfl
  rw [e]
  exact rd_nI (by omega) (by omega)
theorem as_4 (A D : Nat → List Int32) (F : Nat → Int32) (P : Nat → Nat) {k : Nat} (v : Int32) (hk : k < 64) (hl : (D 4).length = 64) : am_as (heap (ad A D) F P) 0 196 (nI k) v = some (heap (ad A (up D 4 ((D 4).set k v))) F P) := by
  have e : am_as (heap (ad A D) F P) 0 196 (nI k) v = bif am_in (nI k) (D 4).length then some ((fun l => heap (ad A (up D 4 l)) F P) ((D 4).set (nI k).toNatClampNeg v)) else none := rfl
  rw [e]
  exact wr_nI (f := fun l => heap (ad A (up D 4 l)) F P) (by omega) (by omega)
theorem alb_0 {α : Type} (A D : Nat → List Int32) (F : Nat → Int32) (P : Nat → Nat) {k : Nat} (f : Int32 → Option α) (hk : k < 64) (hl : (D 0).length = 64) : Option.bind (am_al (heap (ad A D) F P) 0 192 (nI k)) f = f (g (D 0) k) := by rw [al_0 A D F P hk hl]; rfl
theorem alc_0 {α : Type} (A D : Nat → List Int32) (F : Nat → Int32) (P : Nat → Nat) {a k : Nat} (f : Int32 → Option α) (hk : a + k < 64) (hl : (D 0).length = 64) : Option.bind (am_al (heap (ad A D) F P) 0 192 (nI a + nI k)) f = f (g (D 0) (a + k)) := by rw [nI_addS, al_0 A D F P hk hl]; rfl
theorem asb_0 {α : Type} (A D : Nat → List Int32) (F : Nat → Int32) (P : Nat → Nat) {k : Nat} (v : Int32) (f : am_H → Option α) (hk : k < 64) (hl : (D 0).length = 64) : Option.bind (am_as (heap (ad A D) F P) 0 192 (nI k) v) f = f (heap (ad A (up D 0 ((D 0).set k v))) F P) := by rw [as_0 A D F P v hk hl]; rfl
theorem asc_0 {α : Type} (A D : Nat → List Int32) (F : Nat → Int32) (P : Nat → Nat) {a k : Nat} (v : Int32) (f : am_H → Option α) (hk : a + k < 64) (hl : (D 0).length = 64) : Option.bind (am_as (heap (ad A D) F P) 0 192 (nI a + nI k) v) f = f (heap (ad A (up D 0 ((D 0).set (a + k) v))) F P) := by rw [nI_addS, as_0 A D F P v hk hl]; rfl
theorem alb_1 {α : Type} (A D : Nat → List Int32) (F : Nat → Int32) (P : Nat → Nat) {k : Nat} (f : Int32 → Option α) (hk : k < 64) (hl : (D 1).length = 64) : Option.bind (am_al (heap (ad A D) F P) 0 193 (nI k)) f = f (g (D 1) k) := by rw [al_1 A D F P hk hl]; rfl
theorem alc_1 {α : Type} (A D : Nat → List Int32) (F : Nat → Int32) (P : Nat → Nat) {a k : Nat} (f : Int32 → Option α) (hk : a + k < 64) (hl : (D 1).length = 64) : Option.bind (am_al (heap (ad A D) F P) 0 193 (nI a + nI k)) f = f (g (D 1) (a + k)) := by rw [nI_addS, al_1 A D F P hk hl]; rfl
theorem asb_1 {α : Type} (A D : Nat → List Int32) (F : Nat → Int32) (P : Nat → Nat) {k : Nat} (v : Int32) (f : am_H → Option α) (hk : k < 64) (hl : (D 1).length = 64) : Option.bind (am_as (heap (ad A D) F P) 0 193 (nI k) v) f = f (heap (ad A (up D 1 ((D 1).set k v))) F P) := by rw [as_1 A D F P v hk hl]; rfl
theorem asc_1 {α : Type} (A D : Nat → List Int32) (F : Nat → Int32) (P : Nat → Nat) {a k : Nat} (v : Int32) (f : am_H → Option α) (hk : a + k < 64) (hl : (D 1).length = 64) : Option.bind (am_as (heap (ad A D) F P) 0 193 (nI a + nI k) v) f = f (heap (ad A (up D 1 ((D 1).set (a + k) v))) F P) := by rw [nI_addS, as_1 A D F P v hk hl]; rfl
theorem alb_2 {α : Type} (A D : Nat → List Int32) (F : Nat → Int32) (P : Nat → Nat) {k : Nat} (f : Int32 → Option α) (hk : k < 64) (hl : (D 2).length = 64) : Option.bind (am_al (heap (ad A D) F P) 0 194 (nI k)) f = f (g (D 2) k) := by rw [al_2 A D F P hk hl]; rfl
theorem alc_2 {α : Type} (A D : Nat → List Int32) (F : Nat → Int32) (P : Nat → Nat) {a k : Nat} (f : Int32 → Option α) (hk : a + k < 64) (hl : (D 2).length = 64) : Option.bind (am_al (heap (ad A D) F P) 0 194 (nI a + nI k)) f = f (g (D 2) (a + k)) := by rw [nI_addS, al_2 A D F P hk hl]; rfl
theorem asb_2 {α : Type} (A D : Nat → List Int32) (F : Nat → Int32) (P : Nat → Nat) {k : Nat} (v : Int32) (f : am_H → Option α) (hk : k < 64) (hl : (D 2).length = 64) : Option.bind (am_as (heap (ad A D) F P) 0 194 (nI k) v) f = f (heap (ad A (up D 2 ((D 2).set k v))) F P) := by rw [as_2 A D F P v hk hl]; rfl
theorem asc_2 {α : Type} (A D : Nat → List Int32) (F : Nat → Int32) (P : Nat → Nat) {a k : Nat} (v : Int32) (f : am_H → Option α) (hk : a + k < 64) (hl : (D 2).length = 64) : Option.bind (am_as (heap (ad A D) F P) 0 194 (nI a + nI k) v) f = f (heap (ad A (up D 2 ((D 2).set (a + k) v))) F P) := by rw [nI_addS, as_2 A D F P v hk hl]; rfl
theorem alb_3 {α : Type} (A D : Nat → List Int32) (F : Nat → Int32) (P : Nat → Nat) {k : Nat} (f : Int32 → Option α) (hk : k < 64) (hl : (D 3).length = 64) : Option.bind (am_al (heap (ad A D) F P) 0 195 (nI k)) f = f (g (D 3) k) := by rw [al_3 A D F P hk hl]; rfl
theorem alc_3 {α : Type} (A D : Nat → List Int32) (F : Nat → Int32) (P : Nat → Nat) {a k : Nat} (f : Int32 → Option α) (hk : a + k < 64) (hl : (D 3).length = 64) : Option.bind (am_al (heap (ad A D) F P) 0 195 (nI a + nI k)) f = f (g (D 3) (a + k)) := by rw [nI_addS, al_3 A D F P hk hl]; rfl
theorem asb_3 {α : Type} (A D : Nat → List Int32) (F : Nat → Int32) (P : Nat → Nat) {k : Nat} (v : Int32) (f : am_H → Option α) (hk : k < 64) (hl : (D 3).length = 64) : Option.bind (am_as (heap (ad A D) F P) 0 195 (nI k) v) f = f (heap (ad A (up D 3 ((D 3).set k v))) F P) := by rw [as_3 A D F P v hk hl]; rfl
theorem asc_3 {α : Type} (A D : Nat → List Int32) (F : Nat → Int32) (P : Nat → Nat) {a k : Nat} (v : Int32) (f : am_H → Option α) (hk : a + k < 64) (hl : (D 3).length = 64) : Option.bind (am_as (heap (ad A D) F P) 0 195 (nI a + nI k) v) f = f (heap (ad A (up D 3 ((D 3).set (a + k) v))) F P) := by rw [nI_addS, as_3 A D F P v hk hl]; rfl
theorem alb_4 {α : Type} (A D : Nat → List Int32) (F : Nat → Int32) (P : Nat → Nat) {k : Nat} (f : Int32 → Option α) (hk : k < 64) (hl : (D 4).length = 64) : Option.bind (am_al (heap (ad A D) F P) 0 196 (nI k)) f = f (g (D 4) k) := by rw [al_4 A D F P hk hl]; rfl
theorem alc_4 {α : Type} (A D : Nat → List Int32) (F : Nat → Int32) (P : Nat → Nat) {a k : Nat} (f : Int32 → Option α) (hk : a + k < 64) (hl : (D 4).length = 64) : Option.bind (am_al (heap (ad A D) F P) 0 196 (nI a + nI k)) f = f (g (D 4) (a + k)) := by rw [nI_addS, al_4 A D F P hk hl]; rfl
theorem asb_4 {α : Type} (A D : Nat → List Int32) (F : Nat → Int32) (P : Nat → Nat) {k : Nat} (v : Int32) (f : am_H → Option α) (hk : k < 64) (hl : (D 4).length = 64) : Option.bind (am_as (heap (ad A D) F P) 0 196 (nI k) v) f = f (heap (ad A (up D 4 ((D 4).set k v))) F P) := by rw [as_4 A D F P v hk hl]; rfl
theorem asc_4 {α : Type} (A D : Nat → List Int32) (F : Nat → Int32) (P : Nat → Nat) {a k : Nat} (v : Int32) (f : am_H → Option α) (hk : a + k < 64) (hl : (D 4).length = 64) : Option.bind (am_as (heap (ad A D) F P) 0 196 (nI a + nI k) v) f = f (heap (ad A (up D 4 ((D 4).set (a + k) v))) F P) := by rw [nI_addS, as_4 A D F P v hk hl]; rfl

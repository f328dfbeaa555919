/-! THE REFERENCE'S HISTORY -/
theorem g_ext {l l' : List Int32} (h : l.length = l'.length) (he : ∀ j, j < l.length → g l j = g l' j) : l = l' := by
  apply List.ext_getElem h
  intro i h1 h2
  have := he i h1
  unfold g at this
  rw [List.getD_eq_getElem?_getD, List.getD_eq_getElem?_getD, List.getElem?_eq_getElem h1, List.getElem?_eq_getElem h2] at this
  exact this
/-- the row at a place of the history -/
def sl (H : List Int32) (s : Nat) : List Int32 := (H.drop (472 * s)).take 472
theorem sl_len {H : List Int32} {s : Nat} (hH : H.length = 1888) (hs : s < 4) : (sl H s).length = 472 := by
  unfold sl
  rw [List.length_take, List.length_drop]
  omega
theorem sl_g {H : List Int32} {s j : Nat} (hj : j < 472) : g (sl H s) j = g H (472 * s + j) := by
  unfold sl g
  rw [List.getD_eq_getElem?_getD, List.getD_eq_getElem?_getD, List.getElem?_take, if_pos hj, List.getElem?_drop]
section M
variable {A : Nat → List Int32} {F : Nat → Int32} {P : Nat → Nat} {nB nl nb nx : Nat}
/-- the history behind a record: how many rows, and which -/
def kp (q : Nat) : Nat := if q = 4 then 3 else q
def of4 (q s : Nat) : Nat := if q = 4 then s + 1 else s
end M

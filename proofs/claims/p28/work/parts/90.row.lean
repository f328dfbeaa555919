/-! the row behind a bid -/
/-- the row behind a new bid -/
def bRow (r : List Int32) (nx l b : Nat) (v m w : Int32) : List Int32 := ((((((r.set (108 + nx) (nI l)).set (168 + nx) (nI b)).set (228 + nx) v).set (288 + nx) m).set (348 + nx) w).set (408 + nx) (nI 0)).set 107 (nI (nx + 1))
section R
variable {xl : List Int32} {D : Nat → List Int32} {r tx : List Int32} {u : Option (List Int32)} {nB nl nb nx : Nat} {h : am_H}
theorem R_count2 (hR : Rs xl D r tx u nB nl nb nx h) : am_cl m_Pa_count [.ref 1, .int (nI 2)] h = some (some (.int (nI nx)), h) := R_cx hR (fun A F P hC => k_count2 hC)
theorem R_ok (hR : Rs xl D r tx u nB nl nb nx h) : Mok r nB nl nb nx := by
  obtain ⟨A, F, hC⟩ := Rs_cx hR
  exact hC.1.1
end R

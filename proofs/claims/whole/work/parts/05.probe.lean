theorem pr_get (a : Nat) (i : Int32) (h : am_H) : am_cl m_Row_get [.ref a, .int i] h = 
  bif decide (i < 0) then some (some (.int 0), h) else
  Option.bind (am_gr h a 5 0) (fun q => Option.bind (am_len h q) (fun n => bif decide (n ≤ i) then some (some (.int 0), h) else
   Option.bind (am_gr h a 5 0) (fun q => Option.bind (am_al h 0 q i) (fun x => some (some (.int x), h))))) := am_blk [] 30 rfl
theorem pr_get2 (a : Nat) (i : Int32) (h : am_H) : am_cl m_Row_get [.ref a, .int i] h = 
  bif decide (i < 0) then some (some (.int 0), h) else
  Option.bind (am_gr h a 5 0) (fun q => Option.bind (am_len h q) (fun n => bif decide (n ≤ i) then some (some (.int 0), h) else
   Option.bind (am_gr h a 5 0) (fun q => Option.bind (am_al h 0 q i) (fun x => some (some (.int x), h))))) := am_blk [] 30 (by rfl)
theorem pr_cond (p : Prop) [Decidable p] {α : Type} (x y : α) : (bif decide p then x else y) = if p then x else y := by simp

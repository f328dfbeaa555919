theorem am_bi_of {o : Option am_R} {x : Int32} {h : am_H} (e : o = some (some (.int x), h)) (f : Int32 → am_H → Option am_R) : am_bi o f = f x h := by rw [e]; rfl
theorem am_bl_of {o : Option am_R} {x : Int64} {h : am_H} (e : o = some (some (.long x), h)) (f : Int64 → am_H → Option am_R) : am_bl o f = f x h := by rw [e]; rfl
theorem am_bv_of {o : Option am_R} {h : am_H} (e : o = some (none, h)) (f : am_H → Option am_R) : am_bv o f = f h := by rw [e]; rfl
theorem ob_of {α β : Type} {o : Option α} {a : α} (e : o = some a) (f : α → Option β) : Option.bind o f = f a := by rw [e]; rfl
theorem lgc0 (x y : Int64) : (lg_cmp x y = nI 0) = (x = y) := propext (lg_cmp_eq x y)

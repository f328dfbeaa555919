theorem i_nap (h Y : am_H) {ty : Nat} {x : Int32} {a c k : Nat} {fs : List Value} (n m : Nat) (f : am_H → Option am_R) (hx : x = nI n) (hn : n ≤ 1000000) (ha : a = h.length) (hk : Nat.blt k fs.length = true) (hm : Y.length + 1 = m) : Option.bind (am_na (h ++ .inr (c, fs) :: Y) ty x) (fun h1 => Option.bind (am_pf h1 a c k (.ref (List.length (h ++ .inr (c, fs) :: Y)))) f) = f (h ++ .inr (c, fs.set k (.ref (h.length + m))) :: (Y ++ [.inl (ty, List.replicate n 0)])) := by
  rw [i_na n hx hn]
  simp only [List.length_append, List.append_assoc, List.length_cons, List.cons_append, hm]
  exact i_pf f ha hk
theorem i_as {H : am_H} {b : Nat} {l : List Int32} {i v : Int32} (n : Nat) (f : am_H → Option am_R) (h2 : H[b]? = some (.inl (0, l))) (hi : i = nI n) (hn : n < l.length) (hl : l.length < 2 ^ 31) : Option.bind (am_as H 0 b i v) f = f (H.set b (.inl (0, l.set n v))) := by
  have c1 : i.toNatClampNeg = n := by rw [hi]; exact nI_clamp (by omega)
  have c2 : am_in i l.length = true := by
    unfold am_in
    rw [c1, hi]
    have : decide (nI n < 0) = false := decide_eq_false (nI_pos (by omega))
    rw [this]
    exact Nat.ble_eq_true_of_le hn
  unfold am_as
  rw [h2]
  simp only [c1, c2, Nat.beq_refl, Bool.and_self, cond_true, Option.bind_some]
def cI_mr : List Int32 := ((((((List.replicate 472 0).set 0 1).set 9 5).set 468 50000).set 469 150).set 470 100).set 471 2
def cI_mod (n : Nat) : am_H := .inr (10, [.ref (n + 1), .ref (n + 2), .int 0, .int 0, .ref (n + 3), .int 0, .int 0, .int 0, .ref (n + 4), .ref (n + 5), .ref (n + 6), .ref (n + 7), .ref (n + 8), .ref (n + 9), .ref (n + 10), .ref (n + 11), .ref (n + 12), .ref (n + 13)]) :: .inl (0, cI_mr) :: [.inl (0, List.replicate 1888 0), .inl (1, List.replicate 80 0), .inl (0, List.replicate 40 0), .inl (0, List.replicate 40 0), .inl (0, List.replicate 40 0), .inl (0, List.replicate 168 0), .inl (0, List.replicate 160 0), .inl (0, List.replicate 20 0), .inl (0, List.replicate 20 0), .inl (0, List.replicate 20 0), .inl (0, List.replicate 20 0), .inl (0, List.replicate 20 0)]
set_option maxHeartbeats 4000000 in
set_option maxRecDepth 20000 in
theorem i_mod (h : am_H) : am_cl m_Mod_init [.ref h.length] (h ++ [.inr (10, am_new 10)]) = some (none, h ++ cI_mod h.length) := by
  refine (e_Mod_init h.length (fs := am_new 10) (h ++ [(.inr (10, am_new 10) : am_C)]) (i_at0.trans rfl)).trans ?_
  refine (i_nap h _ 472 1 _ rfl (by decide) rfl rfl rfl).trans ?_
  refine (i_nap h _ 1888 2 _ rfl (by decide) rfl rfl rfl).trans ?_
  refine (i_nap h _ 80 3 _ rfl (by decide) rfl rfl rfl).trans ?_
  refine (i_nap h _ 40 4 _ rfl (by decide) rfl rfl rfl).trans ?_
  refine (i_nap h _ 40 5 _ rfl (by decide) rfl rfl rfl).trans ?_
  refine (i_nap h _ 40 6 _ rfl (by decide) rfl rfl rfl).trans ?_
  refine (i_nap h _ 168 7 _ rfl (by decide) rfl rfl rfl).trans ?_
  refine (i_nap h _ 160 8 _ rfl (by decide) rfl rfl rfl).trans ?_
  refine (i_nap h _ 20 9 _ rfl (by decide) rfl rfl rfl).trans ?_
  refine (i_nap h _ 20 10 _ rfl (by decide) rfl rfl rfl).trans ?_
  refine (i_nap h _ 20 11 _ rfl (by decide) rfl rfl rfl).trans ?_
  refine (i_nap h _ 20 12 _ rfl (by decide) rfl rfl rfl).trans ?_
  refine (i_nap h _ 20 13 _ rfl (by decide) rfl rfl rfl).trans ?_
  refine (i_gr2 (x := h.length + 1) _ (i_at0.trans rfl) rfl).trans ?_
  refine (i_as (b := h.length + 1) (l := List.replicate 472 0) 0 _ (i_at.trans rfl) rfl (by simp only [List.length_set, List.length_replicate]; omega) (by simp only [List.length_set, List.length_replicate]; omega)).trans ?_
  rw [i_set]
  refine (i_gr2 (x := h.length + 1) _ (i_at0.trans rfl) rfl).trans ?_
  refine (i_as (b := h.length + 1) (l := (List.replicate 472 0).set 0 1) 9 _ (i_at.trans rfl) rfl (by simp only [List.length_set, List.length_replicate]; omega) (by simp only [List.length_set, List.length_replicate]; omega)).trans ?_
  rw [i_set]
  refine (i_gr2 (x := h.length + 1) _ (i_at0.trans rfl) rfl).trans ?_
  refine (i_as (b := h.length + 1) (l := ((List.replicate 472 0).set 0 1).set 9 5) 468 _ (i_at.trans rfl) rfl (by simp only [List.length_set, List.length_replicate]; omega) (by simp only [List.length_set, List.length_replicate]; omega)).trans ?_
  rw [i_set]
  refine (i_gr2 (x := h.length + 1) _ (i_at0.trans rfl) rfl).trans ?_
  refine (i_as (b := h.length + 1) (l := (((List.replicate 472 0).set 0 1).set 9 5).set 468 50000) 469 _ (i_at.trans rfl) rfl (by simp only [List.length_set, List.length_replicate]; omega) (by simp only [List.length_set, List.length_replicate]; omega)).trans ?_
  rw [i_set]
  refine (i_gr2 (x := h.length + 1) _ (i_at0.trans rfl) rfl).trans ?_
  refine (i_as (b := h.length + 1) (l := ((((List.replicate 472 0).set 0 1).set 9 5).set 468 50000).set 469 150) 470 _ (i_at.trans rfl) rfl (by simp only [List.length_set, List.length_replicate]; omega) (by simp only [List.length_set, List.length_replicate]; omega)).trans ?_
  rw [i_set]
  refine (i_gr2 (x := h.length + 1) _ (i_at0.trans rfl) rfl).trans ?_
  refine (i_as (b := h.length + 1) (l := (((((List.replicate 472 0).set 0 1).set 9 5).set 468 50000).set 469 150).set 470 100) 471 _ (i_at.trans rfl) rfl (by simp only [List.length_set, List.length_replicate]; omega) (by simp only [List.length_set, List.length_replicate]; omega)).trans ?_
  rw [i_set]
  rfl
/-! THE HEAP BEHIND BOTH -/
def cI_all (xl : List Int32) : am_H := ([.inl (7, xl)] ++ cI_pa 1) ++ cI_mod 192
theorem i_len_all (xl : List Int32) : List.length ([.inl (7, xl)] ++ cI_pa 1) = 192 := by simp only [cI_pa, cI_letter, List.length_append, List.length_cons, List.length_nil, cI_len_row, cI_len_state, cI_len_hist, cI_len_sale, cI_len_money]
theorem i_law (xl : List Int32) : am_ev m_law (0, am_l0 m_law [.ref 0], [], [.inl (7, xl)]) = am_ev m_law (18, [.ref 0, .ref 1, .ref 192, .int 0], [], cI_all xl) := by
  rw [b_law_0, i_pa [.inl (7, xl)]]
  simp only [am_bv]
  rw [i_mod]
  simp only [am_bv]
  rw [show List.length [(.inl (7, xl) : am_C)] = 1 from rfl, i_len_all]
  rfl
def cI_A (xl : List Int32) (j : Nat) : List Int32 := match (cI_all xl)[j]? with
  | some (.inl (_, l)) => l
  | _ => []
def cI_F (xl : List Int32) (k : Nat) : Int32 := match (cI_all xl)[k / 100]? with
  | some (.inr (_, fs)) => (match fs[k % 100]? with
    | some (.int v) => v
    | _ => 0)
  | _ => 0
def cI_P (k : Nat) : Nat := 36 + 32 * k
set_option maxHeartbeats 4000000 in
set_option maxRecDepth 20000 in
theorem i_heap (xl : List Int32) : cI_all xl = heap (cI_A xl) (cI_F xl) cI_P := rfl

/-! THE CONSTRUCTORS' RUN -/
theorem i_at {h X : am_H} {i : Nat} : (h ++ X)[h.length + i]? = X[i]? := by rw [List.getElem?_append_right (by omega), Nat.add_sub_cancel_left]
theorem i_at0 {h X : am_H} : (h ++ X)[h.length]? = X[0]? := i_at (i := 0)
theorem i_set {h X : am_H} {i : Nat} {c : am_C} : (h ++ X).set (h.length + i) c = h ++ X.set i c := by rw [List.set_append_right _ _ (by omega), Nat.add_sub_cancel_left]
theorem i_set0 {h X : am_H} {c : am_C} : (h ++ X).set h.length c = h ++ X.set 0 c := i_set (i := 0)
theorem i_na {h : am_H} {t : Nat} {m : Int32} (n : Nat) (hm : m = nI n) (hn : n ≤ 1000000) (f : am_H → Option am_R) : Option.bind (am_na h t m) f = f (h ++ [.inl (t, List.replicate n 0)]) := by
  have h1 : m.toNatClampNeg = n := by rw [hm]; exact nI_clamp (by omega)
  have h2 : decide (m < 0) = false := decide_eq_false (by rw [hm]; exact nI_pos (by omega))
  have h3 : Nat.blt 1000000 n = false := by
    cases e : Nat.blt 1000000 n
    · rfl
    · have := Nat.le_of_ble_eq_true e; omega
  unfold am_na
  rw [h1, h2, h3]
  rfl
theorem i_pf {h Y : am_H} {a c k : Nat} {fs : List Value} {v : Value} (f : am_H → Option am_R) (ha : a = h.length) (hk : Nat.blt k fs.length = true) : Option.bind (am_pf (h ++ .inr (c, fs) :: Y) a c k v) f = f (h ++ .inr (c, fs.set k v) :: Y) := by
  subst ha
  unfold am_pf
  rw [i_at0]
  simp only [List.getElem?_cons_zero, hk, Nat.beq_refl, Bool.and_self, cond_true, i_set0, List.set_cons_zero, Option.bind_some]
theorem i_gr {h Y : am_H} {a c k x : Nat} {fs : List Value} (f : Nat → Option am_R) (ha : a = h.length) (hk : fs[k]? = some (.ref x)) : Option.bind (am_gr (h ++ .inr (c, fs) :: Y) a c k) f = f x := by
  subst ha
  unfold am_gr
  rw [i_at0]
  simp only [List.getElem?_cons_zero, hk, Nat.beq_refl, cond_true, Option.bind_some]
theorem i_row (h : am_H) (x : Int32) (n : Nat) (hx : am_max x 0 = nI n) (hn : n ≤ 1000000) : am_cl m_Row_init [.ref h.length, .int x] (h ++ [.inr (5, am_new 5)]) = some (none, h ++ [.inr (5, [.ref (h.length + 1)]), .inl (0, List.replicate n 0)]) := by
  refine (e_Row_init h.length x (fs := am_new 5) (h ++ [(.inr (5, am_new 5) : am_C)]) (i_at0.trans rfl)).trans ?_
  rw [i_na n hx hn, List.append_assoc]
  refine (i_pf _ rfl rfl).trans ?_
  rw [List.length_append]
  rfl
theorem i_put {H : am_H} {r b : Nat} {l : List Int32} {i v : Int32} (n : Nat) (f : am_H → Option am_R) (h1 : H[r]? = some (.inr (5, [.ref b]))) (h2 : H[b]? = some (.inl (0, l))) (hi : i = nI n) (hn : n < l.length) (hl : l.length < 2 ^ 31) : am_bv (am_cl m_Row_put [.ref r, .int i, .int v] H) f = f (H.set b (.inl (0, l.set n v))) := by
  have e1 : am_gr H r 5 0 = some b := by unfold am_gr; rw [h1]; rfl
  have e2 : am_len H b = some (nI l.length) := by unfold am_len; rw [h2]; rfl
  have e3 : am_as H 0 b i v = some (H.set b (.inl (0, l.set n v))) := by
    have c1 : i.toNatClampNeg = n := by rw [hi]; exact nI_clamp (by omega)
    have c2 : am_in i l.length = true := by
      unfold am_in
      rw [c1, hi]
      have : decide (nI n < 0) = false := decide_eq_false (nI_pos (by omega))
      rw [this]
      exact Nat.ble_eq_true_of_le hn
    unfold am_as
    rw [h2]
    simp only [c1, c2, Nat.beq_refl, Bool.and_self, cond_true]
  rw [e_Row_put r i v H h1]
  have d1 : decide (i < 0) = false := decide_eq_false (by rw [hi]; exact nI_pos (by omega))
  have d2 : decide (nI l.length ≤ i) = false := decide_eq_false (by rw [hi, nI_le' hl (by omega)]; omega)
  simp only [e1, e2, e3, d1, d2, cond_false, Option.bind_some, am_bv]
/-! STEPS, LOTS, BIDS -/
def cI_row (n k : Nat) : am_H := [.inr (5, [.ref (n + 1)]), .inl (0, List.replicate k 0)]
def cI_steps (n : Nat) : am_H := .inr (8, [.ref (n + 1), .ref (n + 3), .int 1]) :: (cI_row (n + 1) 8 ++ [.inr (5, [.ref (n + 4)]), .inl (0, (List.replicate 8 0).set 0 5)])
def cI_lots (n : Nat) : am_H := .inr (3, [.ref (n + 1), .ref (n + 3), .ref (n + 5), .ref (n + 7), .int 0]) :: (cI_row (n + 1) 20 ++ cI_row (n + 3) 20 ++ cI_row (n + 5) 20 ++ cI_row (n + 7) 20)
def cI_bids (n : Nat) : am_H := .inr (0, [.ref (n + 1), .ref (n + 3), .ref (n + 5), .ref (n + 7), .ref (n + 9), .ref (n + 11), .int 0]) :: (cI_row (n + 1) 60 ++ cI_row (n + 3) 60 ++ cI_row (n + 5) 60 ++ cI_row (n + 7) 60 ++ cI_row (n + 9) 60 ++ cI_row (n + 11) 60)
theorem i_gr2 {H : am_H} {a c k x : Nat} {fs : List Value} (f : Nat → Option am_R) (h1 : H[a]? = some (.inr (c, fs))) (hk : fs[k]? = some (.ref x)) : Option.bind (am_gr H a c k) f = f x := by
  unfold am_gr
  rw [h1]
  simp only [hk, Nat.beq_refl, cond_true, Option.bind_some]
theorem i_gr3 {h Y : am_H} {q : am_C} {a c k x : Nat} {fs : List Value} (f : Nat → Option am_R) (ha : a = h.length) (hk : fs[k]? = some (.ref x)) : Option.bind (am_gr ((h ++ .inr (c, fs) :: Y) ++ [q]) a c k) f = f x := by
  subst ha
  rw [List.append_assoc]
  exact i_gr2 _ (i_at0.trans rfl) hk
theorem i_rp (h Y : am_H) {x : Int32} {a c k : Nat} {fs : List Value} (n m : Nat) (f : am_H → Option am_R) (hx : am_max x 0 = nI n) (hn : n ≤ 1000000) (ha : a = h.length) (hk : Nat.blt k fs.length = true) (hm : Y.length + 1 = m) : am_bv (am_cl m_Row_init [.ref (List.length (h ++ .inr (c, fs) :: Y)), .int x] ((h ++ .inr (c, fs) :: Y) ++ [.inr (5, am_new 5)])) (fun h1 => Option.bind (am_pf h1 a c k (.ref (List.length (h ++ .inr (c, fs) :: Y)))) f) = f (h ++ .inr (c, fs.set k (.ref (h.length + m))) :: (Y ++ cI_row (h.length + m) n)) := by
  rw [i_row _ x n hx hn]
  simp only [am_bv, List.length_append, List.append_assoc, List.length_cons, List.cons_append, hm]
  exact i_pf f ha hk
theorem i_steps (h : am_H) : am_cl m_Steps_init [.ref h.length] (h ++ [.inr (8, am_new 8)]) = some (none, h ++ cI_steps h.length) := by
  refine (e_Steps_init h.length (fs := am_new 8) (h ++ [(.inr (8, am_new 8) : am_C)]) (i_at0.trans rfl)).trans ?_
  refine (i_rp h _ 8 1 _ rfl (by decide) rfl rfl rfl).trans ?_
  refine (i_rp h _ 8 3 _ rfl (by decide) rfl rfl rfl).trans ?_
  refine (i_pf _ rfl rfl).trans ?_
  refine (i_gr (x := h.length + 3) _ rfl rfl).trans ?_
  refine (i_put (b := h.length + 4) (l := List.replicate 8 0) 0 _ (i_at.trans rfl) (i_at.trans rfl) rfl (by decide) (by decide)).trans ?_
  rw [i_set]
  rfl
theorem i_stepsP (h Y : am_H) {a c k : Nat} {fs : List Value} (m : Nat) (f : am_H → Option am_R) (ha : a = h.length) (hk : Nat.blt k fs.length = true) (hm : Y.length + 1 = m) : am_bv (am_cl m_Steps_init [.ref (List.length (h ++ .inr (c, fs) :: Y))] ((h ++ .inr (c, fs) :: Y) ++ [.inr (8, am_new 8)])) (fun h1 => Option.bind (am_pf h1 a c k (.ref (List.length (h ++ .inr (c, fs) :: Y)))) f) = f (h ++ .inr (c, fs.set k (.ref (h.length + m))) :: (Y ++ cI_steps (h.length + m))) := by
  rw [i_steps (h ++ .inr (c, fs) :: Y)]
  simp only [am_bv, List.length_append, List.append_assoc, List.length_cons, List.cons_append, hm]
  exact i_pf f ha hk
theorem i_lots (h : am_H) : am_cl m_Lots_init [.ref h.length] (h ++ [.inr (3, am_new 3)]) = some (none, h ++ cI_lots h.length) := by
  refine (e_Lots_init h.length (fs := am_new 3) (h ++ [(.inr (3, am_new 3) : am_C)]) (i_at0.trans rfl)).trans ?_
  refine (i_rp h _ 20 1 _ rfl (by decide) rfl rfl rfl).trans ?_
  refine (i_rp h _ 20 3 _ rfl (by decide) rfl rfl rfl).trans ?_
  refine (i_rp h _ 20 5 _ rfl (by decide) rfl rfl rfl).trans ?_
  refine (i_rp h _ 20 7 _ rfl (by decide) rfl rfl rfl).trans ?_
  rfl
theorem i_lotsP (h Y : am_H) {a c k : Nat} {fs : List Value} (m : Nat) (f : am_H → Option am_R) (ha : a = h.length) (hk : Nat.blt k fs.length = true) (hm : Y.length + 1 = m) : am_bv (am_cl m_Lots_init [.ref (List.length (h ++ .inr (c, fs) :: Y))] ((h ++ .inr (c, fs) :: Y) ++ [.inr (3, am_new 3)])) (fun h1 => Option.bind (am_pf h1 a c k (.ref (List.length (h ++ .inr (c, fs) :: Y)))) f) = f (h ++ .inr (c, fs.set k (.ref (h.length + m))) :: (Y ++ cI_lots (h.length + m))) := by
  rw [i_lots (h ++ .inr (c, fs) :: Y)]
  simp only [am_bv, List.length_append, List.append_assoc, List.length_cons, List.cons_append, hm]
  exact i_pf f ha hk
theorem i_bids (h : am_H) : am_cl m_Bids_init [.ref h.length] (h ++ [.inr (0, am_new 0)]) = some (none, h ++ cI_bids h.length) := by
  refine (e_Bids_init h.length (fs := am_new 0) (h ++ [(.inr (0, am_new 0) : am_C)]) (i_at0.trans rfl)).trans ?_
  refine (i_rp h _ 60 1 _ rfl (by decide) rfl rfl rfl).trans ?_
  refine (i_rp h _ 60 3 _ rfl (by decide) rfl rfl rfl).trans ?_
  refine (i_rp h _ 60 5 _ rfl (by decide) rfl rfl rfl).trans ?_
  refine (i_rp h _ 60 7 _ rfl (by decide) rfl rfl rfl).trans ?_
  refine (i_rp h _ 60 9 _ rfl (by decide) rfl rfl rfl).trans ?_
  refine (i_rp h _ 60 11 _ rfl (by decide) rfl rfl rfl).trans ?_
  rfl
theorem i_bidsP (h Y : am_H) {a c k : Nat} {fs : List Value} (m : Nat) (f : am_H → Option am_R) (ha : a = h.length) (hk : Nat.blt k fs.length = true) (hm : Y.length + 1 = m) : am_bv (am_cl m_Bids_init [.ref (List.length (h ++ .inr (c, fs) :: Y))] ((h ++ .inr (c, fs) :: Y) ++ [.inr (0, am_new 0)])) (fun h1 => Option.bind (am_pf h1 a c k (.ref (List.length (h ++ .inr (c, fs) :: Y)))) f) = f (h ++ .inr (c, fs.set k (.ref (h.length + m))) :: (Y ++ cI_bids (h.length + m))) := by
  rw [i_bids (h ++ .inr (c, fs) :: Y)]
  simp only [am_bv, List.length_append, List.append_assoc, List.length_cons, List.cons_append, hm]
  exact i_pf f ha hk
/-! STATE, HISTORY -/
def cI_state (n : Nat) : am_H := .inr (7, [.ref (n + 1), .ref (n + 6), .ref (n + 15), .int 0, .ref (n + 17), .ref (n + 30)]) :: (cI_steps (n + 1) ++ cI_lots (n + 6) ++ cI_row (n + 15) 8 ++ cI_bids (n + 17) ++ [.inr (5, [.ref (n + 31)]), .inl (0, ((((List.replicate 4 0).set 0 50000).set 1 150).set 2 100).set 3 2)])
theorem cI_len_row (n k : Nat) : (cI_row n k).length = 2 := rfl
theorem cI_len_steps (n : Nat) : (cI_steps n).length = 5 := rfl
theorem cI_len_lots (n : Nat) : (cI_lots n).length = 9 := rfl
theorem cI_len_bids (n : Nat) : (cI_bids n).length = 13 := rfl
theorem cI_len_state (n : Nat) : (cI_state n).length = 32 := rfl
set_option maxHeartbeats 2000000 in
theorem i_state (h : am_H) : am_cl m_State_init [.ref h.length] (h ++ [.inr (7, am_new 7)]) = some (none, h ++ cI_state h.length) := by
  refine (e_State_init h.length (fs := am_new 7) (h ++ [(.inr (7, am_new 7) : am_C)]) (i_at0.trans rfl)).trans ?_
  refine (i_stepsP h _ 1 _ rfl rfl rfl).trans ?_
  refine (i_lotsP h _ 6 _ rfl rfl rfl).trans ?_
  refine (i_rp h _ 8 15 _ rfl (by decide) rfl rfl rfl).trans ?_
  refine (i_bidsP h _ 17 _ rfl rfl rfl).trans ?_
  refine (i_rp h _ 4 30 _ rfl (by decide) rfl rfl rfl).trans ?_
  refine (i_gr2 (x := h.length + 30) _ (i_at0.trans rfl) rfl).trans ?_
  refine (i_put (b := h.length + 31) (l := List.replicate 4 0) 0 _ (i_at.trans rfl) (i_at.trans rfl) rfl (by decide) (by decide)).trans ?_
  rw [i_set]
  refine (i_gr2 (x := h.length + 30) _ (i_at0.trans rfl) rfl).trans ?_
  refine (i_put (b := h.length + 31) (l := (List.replicate 4 0).set 0 50000) 1 _ (i_at.trans rfl) (i_at.trans rfl) rfl (by decide) (by decide)).trans ?_
  rw [i_set]
  refine (i_gr2 (x := h.length + 30) _ (i_at0.trans rfl) rfl).trans ?_
  refine (i_put (b := h.length + 31) (l := ((List.replicate 4 0).set 0 50000).set 1 150) 2 _ (i_at.trans rfl) (i_at.trans rfl) rfl (by decide) (by decide)).trans ?_
  rw [i_set]
  refine (i_gr2 (x := h.length + 30) _ (i_at0.trans rfl) rfl).trans ?_
  refine (i_put (b := h.length + 31) (l := (((List.replicate 4 0).set 0 50000).set 1 150).set 2 100) 3 _ (i_at.trans rfl) (i_at.trans rfl) rfl (by decide) (by decide)).trans ?_
  rw [i_set]
  rfl
theorem i_stateP (h Y : am_H) {a c k : Nat} {fs : List Value} (m : Nat) (f : am_H → Option am_R) (ha : a = h.length) (hk : Nat.blt k fs.length = true) (hm : Y.length + 1 = m) : am_bv (am_cl m_State_init [.ref (List.length (h ++ .inr (c, fs) :: Y))] ((h ++ .inr (c, fs) :: Y) ++ [.inr (7, am_new 7)])) (fun h1 => Option.bind (am_pf h1 a c k (.ref (List.length (h ++ .inr (c, fs) :: Y)))) f) = f (h ++ .inr (c, fs.set k (.ref (h.length + m))) :: (Y ++ cI_state (h.length + m))) := by
  rw [i_state (h ++ .inr (c, fs) :: Y)]
  simp only [am_bv, List.length_append, List.append_assoc, List.length_cons, List.cons_append, hm]
  exact i_pf f ha hk
def cI_hist (n : Nat) : am_H := .inr (1, [.ref (n + 1), .int 0]) :: .inr (107, [.ref (n + 2), .ref (n + 34), .ref (n + 66), .ref (n + 98)]) :: (cI_state (n + 2) ++ cI_state (n + 34) ++ cI_state (n + 66) ++ cI_state (n + 98))
def cI_sale (n s : Nat) : am_H := .inr (6, [.ref s, .ref (n + 1), .ref (n + 3), .ref (n + 5), .ref (n + 7), .ref (n + 9), .ref (n + 11), .ref (n + 13), .ref (n + 15), .ref (n + 17), .int 0]) :: (cI_row (n + 1) 20 ++ cI_row (n + 3) 20 ++ cI_row (n + 5) 20 ++ cI_row (n + 7) 20 ++ cI_row (n + 9) 20 ++ cI_row (n + 11) 160 ++ cI_row (n + 13) 60 ++ cI_row (n + 15) 60 ++ cI_row (n + 17) 8)
def cI_money (s a : Nat) : am_H := [.inr (4, [.ref s, .ref a])]
def cI_letter (n : Nat) : am_H := .inr (2, [.ref (n + 1), .int 0, .ref (n + 2), .ref (n + 4), .ref (n + 6), .int 0, .int 0, .int 0, .int 0, .int 0]) :: .inl (1, List.replicate 80 0) :: (cI_row (n + 2) 20 ++ cI_row (n + 4) 20 ++ cI_row (n + 6) 20)
theorem cI_len_hist (n : Nat) : (cI_hist n).length = 130 := by simp only [cI_hist, List.length_cons, List.length_append, cI_len_state]
theorem cI_len_sale (n s : Nat) : (cI_sale n s).length = 19 := rfl
theorem cI_len_money (s a : Nat) : (cI_money s a).length = 1 := rfl
theorem i_nq {h : am_H} (f : am_H → Option am_R) : Option.bind (am_nq h 7 4) f = f (h ++ [.inr (107, List.replicate 4 .null)]) := rfl
theorem i_qs {H : am_H} {a v : Nat} {i : Int32} {vs fs : List Value} (n : Nat) (f : am_H → Option am_R) (h1 : H[a]? = some (.inr (107, vs))) (h2 : H[v]? = some (.inr (7, fs))) (hi : i = nI n) (hn : n < vs.length) (hl : vs.length < 2 ^ 31) : Option.bind (am_qs H a i v) f = f (H.set a (.inr (107, vs.set n (.ref v)))) := by
  have c1 : i.toNatClampNeg = n := by rw [hi]; exact nI_clamp (by omega)
  have c2 : am_in i vs.length = true := by
    unfold am_in
    rw [c1, hi]
    have : decide (nI n < 0) = false := decide_eq_false (nI_pos (by omega))
    rw [this]
    exact Nat.ble_eq_true_of_le hn
  have c3 : Nat.beq 107 (am_qc + 100) = true := rfl
  have c4 : Nat.beq (7 + 100) 107 = true := rfl
  unfold am_qs
  rw [h1]
  simp only [c1, c2, c3, c4, h2, Bool.and_self, cond_true, Option.bind_some]
theorem i_hist1 (h Z : am_H) (vs : List Value) (i : Nat) (m : Nat) (hi : i < 4) (hv : vs.length = 4) (hm : Z.length + 2 = m) : am_ev m_History_init (14, [.ref h.length, .int (nI i)], [], h ++ .inr (1, [.ref (h.length + 1), .int 0]) :: .inr (107, vs) :: Z) = am_ev m_History_init (14, [.ref h.length, .int (nI (i + 1))], [], h ++ .inr (1, [.ref (h.length + 1), .int 0]) :: .inr (107, vs.set i (.ref (h.length + m))) :: (Z ++ cI_state (h.length + m))) := by
  rw [b_History_init_14]
  refine (i_gr2 (x := h.length + 1) _ (i_at0.trans rfl) rfl).trans ?_
  have e1 : am_len (h ++ .inr (1, [.ref (h.length + 1), .int 0]) :: .inr (107, vs) :: Z) (h.length + 1) = some (nI 4) := by
    unfold am_len
    rw [i_at]
    simp only [List.getElem?_cons_succ, List.getElem?_cons_zero, hv]
    rfl
  have d1 : decide (nI 4 ≤ nI i) = false := decide_eq_false (by rw [nI_le' (by omega) (by omega)]; omega)
  rw [e1, Option.bind_some, d1, cond_false]
  refine (i_gr2 (x := h.length + 1) _ (i_at0.trans rfl) rfl).trans ?_
  rw [i_state (h ++ .inr (1, [.ref (h.length + 1), .int 0]) :: .inr (107, vs) :: Z)]
  have e2 : List.length (h ++ .inr (1, [.ref (h.length + 1), .int 0]) :: .inr (107, vs) :: Z) = h.length + m := by simp only [List.length_append, List.length_cons]; omega
  simp only [am_bv]
  refine (i_qs (vs := vs) i _ ?_ (i_at0.trans rfl) rfl (by omega) (by omega)).trans ?_
  · rw [List.append_assoc]; exact i_at.trans rfl
  · rw [e2, List.append_assoc, i_set]
    have e3 : nI i + 1 = nI (i + 1) := nI_addS i 1
    rw [e3]
    rfl
theorem i_hist (h : am_H) : am_cl m_History_init [.ref h.length] (h ++ [.inr (1, am_new 1)]) = some (none, h ++ cI_hist h.length) := by
  refine (e_History_init h.length (fs := am_new 1) (h ++ [(.inr (1, am_new 1) : am_C)]) (i_at0.trans rfl)).trans ?_
  rw [i_nq, List.append_assoc]
  refine (i_pf _ rfl rfl).trans ?_
  rw [List.length_append]
  refine (i_hist1 h [] (List.replicate 4 .null) 0 2 (by decide) rfl rfl).trans ?_
  refine (i_hist1 h _ _ 1 34 (by decide) rfl rfl).trans ?_
  refine (i_hist1 h _ _ 2 66 (by decide) rfl rfl).trans ?_
  refine (i_hist1 h _ _ 3 98 (by decide) rfl rfl).trans ?_
  rw [b_History_init_14]
  refine (i_gr2 (x := h.length + 1) _ (i_at0.trans rfl) rfl).trans ?_
  have e1 : ∀ Z : am_H, am_len (h ++ .inr (1, [.ref (h.length + 1), .int 0]) :: .inr (107, [.ref (h.length + 2), .ref (h.length + 34), .ref (h.length + 66), .ref (h.length + 98)]) :: Z) (h.length + 1) = some (nI 4) := fun Z => by
    unfold am_len
    rw [i_at]
    rfl
  refine (congrArg (fun o => Option.bind o _) (e1 _)).trans ?_
  rfl
theorem i_histP (h Y : am_H) {a c k : Nat} {fs : List Value} (m : Nat) (f : am_H → Option am_R) (ha : a = h.length) (hk : Nat.blt k fs.length = true) (hm : Y.length + 1 = m) : am_bv (am_cl m_History_init [.ref (List.length (h ++ .inr (c, fs) :: Y))] ((h ++ .inr (c, fs) :: Y) ++ [.inr (1, am_new 1)])) (fun h1 => Option.bind (am_pf h1 a c k (.ref (List.length (h ++ .inr (c, fs) :: Y)))) f) = f (h ++ .inr (c, fs.set k (.ref (h.length + m))) :: (Y ++ cI_hist (h.length + m))) := by
  rw [i_hist (h ++ .inr (c, fs) :: Y)]
  simp only [am_bv, List.length_append, List.append_assoc, List.length_cons, List.cons_append, hm]
  exact i_pf f ha hk
/-! THE SALE, MONEY, LETTER -/
set_option maxHeartbeats 2000000 in
theorem i_sale (h : am_H) (a1 : Nat) : am_cl m_Sale_init [.ref h.length, .ref a1] (h ++ [.inr (6, am_new 6)]) = some (none, h ++ cI_sale h.length a1) := by
  refine (e_Sale_init h.length a1 (fs := am_new 6) (h ++ [(.inr (6, am_new 6) : am_C)]) (i_at0.trans rfl)).trans ?_
  refine (i_rp h _ 20 1 _ rfl (by decide) rfl rfl rfl).trans ?_
  refine (i_rp h _ 20 3 _ rfl (by decide) rfl rfl rfl).trans ?_
  refine (i_rp h _ 20 5 _ rfl (by decide) rfl rfl rfl).trans ?_
  refine (i_rp h _ 20 7 _ rfl (by decide) rfl rfl rfl).trans ?_
  refine (i_rp h _ 20 9 _ rfl (by decide) rfl rfl rfl).trans ?_
  refine (i_rp h _ 160 11 _ rfl (by decide) rfl rfl rfl).trans ?_
  refine (i_rp h _ 60 13 _ rfl (by decide) rfl rfl rfl).trans ?_
  refine (i_rp h _ 60 15 _ rfl (by decide) rfl rfl rfl).trans ?_
  refine (i_rp h _ 8 17 _ rfl (by decide) rfl rfl rfl).trans ?_
  refine (i_pf _ rfl rfl).trans ?_
  rfl
theorem i_saleP (h Y : am_H) (a1 : Nat) {a c k : Nat} {fs : List Value} (m : Nat) (f : am_H → Option am_R) (ha : a = h.length) (hk : Nat.blt k fs.length = true) (hm : Y.length + 1 = m) : am_bv (am_cl m_Sale_init [.ref (List.length (h ++ .inr (c, fs) :: Y)), .ref a1] ((h ++ .inr (c, fs) :: Y) ++ [.inr (6, am_new 6)])) (fun h1 => Option.bind (am_pf h1 a c k (.ref (List.length (h ++ .inr (c, fs) :: Y)))) f) = f (h ++ .inr (c, fs.set k (.ref (h.length + m))) :: (Y ++ cI_sale (h.length + m) a1)) := by
  rw [i_sale (h ++ .inr (c, fs) :: Y) a1]
  simp only [am_bv, List.length_append, List.append_assoc, List.length_cons, List.cons_append, hm]
  exact i_pf f ha hk
theorem i_money (h : am_H) (a1 a2 : Nat) : am_cl m_Money_init [.ref h.length, .ref a1, .ref a2] (h ++ [.inr (4, am_new 4)]) = some (none, h ++ cI_money a1 a2) := by
  refine (e_Money_init h.length a1 a2 (fs := am_new 4) (h ++ [(.inr (4, am_new 4) : am_C)]) (i_at0.trans rfl)).trans ?_
  refine (i_pf _ rfl rfl).trans ?_
  refine (i_pf _ rfl rfl).trans ?_
  rfl
theorem i_moneyP (h Y : am_H) (a1 a2 : Nat) {a c k : Nat} {fs : List Value} (m : Nat) (f : am_H → Option am_R) (ha : a = h.length) (hk : Nat.blt k fs.length = true) (hm : Y.length + 1 = m) : am_bv (am_cl m_Money_init [.ref (List.length (h ++ .inr (c, fs) :: Y)), .ref a1, .ref a2] ((h ++ .inr (c, fs) :: Y) ++ [.inr (4, am_new 4)])) (fun h1 => Option.bind (am_pf h1 a c k (.ref (List.length (h ++ .inr (c, fs) :: Y)))) f) = f (h ++ .inr (c, fs.set k (.ref (h.length + m))) :: (Y ++ cI_money a1 a2)) := by
  rw [i_money (h ++ .inr (c, fs) :: Y) a1 a2]
  simp only [am_bv, List.length_append, List.append_assoc, List.length_cons, List.cons_append, hm]
  exact i_pf f ha hk
theorem i_letter (h : am_H) : am_cl m_Letter_init [.ref h.length] (h ++ [.inr (2, am_new 2)]) = some (none, h ++ cI_letter h.length) := by
  refine (e_Letter_init h.length (fs := am_new 2) (h ++ [(.inr (2, am_new 2) : am_C)]) (i_at0.trans rfl)).trans ?_
  rw [show List.length (h ++ [(.inr (2, am_new 2) : am_C)]) = h.length + 1 from List.length_append]
  rw [i_na (m := 80) 80 rfl (by decide), List.append_assoc]
  refine (i_pf _ rfl rfl).trans ?_
  refine (i_rp h _ 20 2 _ rfl (by decide) rfl rfl rfl).trans ?_
  refine (i_rp h _ 20 4 _ rfl (by decide) rfl rfl rfl).trans ?_
  refine (i_rp h _ 20 6 _ rfl (by decide) rfl rfl rfl).trans ?_
  rfl
theorem i_letterP (h Y : am_H) {a c k : Nat} {fs : List Value} (m : Nat) (f : am_H → Option am_R) (ha : a = h.length) (hk : Nat.blt k fs.length = true) (hm : Y.length + 1 = m) : am_bv (am_cl m_Letter_init [.ref (List.length (h ++ .inr (c, fs) :: Y))] ((h ++ .inr (c, fs) :: Y) ++ [.inr (2, am_new 2)])) (fun h1 => Option.bind (am_pf h1 a c k (.ref (List.length (h ++ .inr (c, fs) :: Y)))) f) = f (h ++ .inr (c, fs.set k (.ref (h.length + m))) :: (Y ++ cI_letter (h.length + m))) := by
  rw [i_letter (h ++ .inr (c, fs) :: Y)]
  simp only [am_bv, List.length_append, List.append_assoc, List.length_cons, List.cons_append, hm]
  exact i_pf f ha hk
/-! THE CLASS -/
def cI_pa (n : Nat) : am_H := .inr (9, [.ref (n + 1), .ref (n + 33), .ref (n + 163), .ref (n + 182), .ref (n + 183)]) :: (cI_state (n + 1) ++ cI_hist (n + 33) ++ cI_sale (n + 163) (n + 1) ++ cI_money (n + 1) (n + 163) ++ cI_letter (n + 183))
set_option maxHeartbeats 2000000 in
theorem i_pa (h : am_H) : am_cl m_Pa_init [.ref h.length] (h ++ [.inr (9, am_new 9)]) = some (none, h ++ cI_pa h.length) := by
  refine (e_Pa_init h.length (fs := am_new 9) (h ++ [(.inr (9, am_new 9) : am_C)]) (i_at0.trans rfl)).trans ?_
  refine (i_stateP h _ 1 _ rfl rfl rfl).trans ?_
  refine (i_histP h _ 33 _ rfl rfl (by simp only [List.length_append, List.length_cons, List.length_nil, cI_len_row, cI_len_steps, cI_len_lots, cI_len_bids, cI_len_state, cI_len_hist, cI_len_sale, cI_len_money, Nat.reduceAdd, Nat.zero_add])).trans ?_
  refine (i_gr3 (x := h.length + 1) _ rfl rfl).trans ?_
  refine (i_saleP h _ (h.length + 1) 163 _ rfl rfl (by simp only [List.length_append, List.length_cons, List.length_nil, cI_len_row, cI_len_steps, cI_len_lots, cI_len_bids, cI_len_state, cI_len_hist, cI_len_sale, cI_len_money, Nat.reduceAdd, Nat.zero_add])).trans ?_
  refine (i_gr3 (x := h.length + 1) _ rfl rfl).trans ?_
  refine (i_gr3 (x := h.length + 163) _ rfl rfl).trans ?_
  refine (i_moneyP h _ (h.length + 1) (h.length + 163) 182 _ rfl rfl (by simp only [List.length_append, List.length_cons, List.length_nil, cI_len_row, cI_len_steps, cI_len_lots, cI_len_bids, cI_len_state, cI_len_hist, cI_len_sale, cI_len_money, Nat.reduceAdd, Nat.zero_add])).trans ?_
  refine (i_letterP h _ 183 _ rfl rfl (by simp only [List.length_append, List.length_cons, List.length_nil, cI_len_row, cI_len_steps, cI_len_lots, cI_len_bids, cI_len_state, cI_len_hist, cI_len_sale, cI_len_money, Nat.reduceAdd, Nat.zero_add])).trans ?_
  rfl

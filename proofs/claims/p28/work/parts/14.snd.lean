theorem am_gi_spec {h : am_H} {a c k : Nat} {x : Int32} (hh : am_gi h a c k = some x) : ∃ fs, h[a]? = some (.inr (c, fs)) ∧ fs[k]? = some (.int x) := by
  unfold am_gi at hh
  split at hh
  · rename_i c' fs e
    cases q : Nat.beq c' c <;> rw [q] at hh
    · cases hh
    · have q := Nat.eq_of_beq_eq_true q
      subst q
      dsimp only [cond] at hh
      split at hh
      · rename_i y hy
        cases hh
        exact ⟨fs, e, hy⟩
      · cases hh
  · cases hh
theorem am_gr_spec {h : am_H} {a c k : Nat} {x : Nat} (hh : am_gr h a c k = some x) : ∃ fs, h[a]? = some (.inr (c, fs)) ∧ fs[k]? = some (.ref x) := by
  unfold am_gr at hh
  split at hh
  · rename_i c' fs e
    cases q : Nat.beq c' c <;> rw [q] at hh
    · cases hh
    · have q := Nat.eq_of_beq_eq_true q
      subst q
      dsimp only [cond] at hh
      split at hh
      · rename_i y hy
        cases hh
        exact ⟨fs, e, hy⟩
      · cases hh
  · cases hh
theorem am_bi_spec {o : Option am_R} {f : Int32 → am_H → Option am_R} {z : am_R} (h : am_bi o f = some z) : ∃ x h1, o = some (some (.int x), h1) ∧ f x h1 = some z := by
  unfold am_bi at h
  split at h
  · exact ⟨_, _, rfl, h⟩
  · cases h
theorem am_bl_spec {o : Option am_R} {f : Int64 → am_H → Option am_R} {z : am_R} (h : am_bl o f = some z) : ∃ x h1, o = some (some (.long x), h1) ∧ f x h1 = some z := by
  unfold am_bl at h
  split at h
  · exact ⟨_, _, rfl, h⟩
  · cases h
theorem am_bv_spec {o : Option am_R} {f : am_H → Option am_R} {z : am_R} (h : am_bv o f = some z) : ∃ h1, o = some (none, h1) ∧ f h1 = some z := by
  unfold am_bv at h
  split at h
  · exact ⟨_, rfl, h⟩
  · cases h
def am_nat (j pc : Nat) (L S : List Value) (h : am_H) : Option am_A := match j, S with
    | 1000, .int y :: .int x :: r => am_Go (pc, L, .int (am_max x y) :: r, h)
    | 1001, .int y :: .int x :: r => am_Go (pc, L, .int (am_min x y) :: r, h)
    | 1002, .int n :: .int dp :: .ref b :: .int sp :: .ref a :: r => am_Wr (am_cp h a sp b dp n) (fun h => (pc, L, r, h))
    | 1003, .ref _ :: r => am_Go (pc, L, r, h)
    | _, _ => none
theorem am_inv_spec {E : Nat → List Value → am_H → Option am_R} {K : am_S → Option am_R} {j n pc : Nat} {L S : List Value} {h : am_H} {z : am_R} (hz : am_do E K (am_inv j n pc L S h) = some z) :
    (am_cat (S.drop n) ≤ 8 ∧ n ≤ S.length ∧ (am_cat (S.take n) = n ∨ am_la j S = true)) ∧
    (j < 1000 → (∃ x h1, E j (S.take n).reverse h = some (some (.long x), h1) ∧ K (pc, L, .long x :: S.drop n, h1) = some z) ∨ (∃ x h1, E j (S.take n).reverse h = some (some (.int x), h1) ∧ K (pc, L, .int x :: S.drop n, h1) = some z) ∨ (∃ h1, E j (S.take n).reverse h = some (none, h1) ∧ K (pc, L, S.drop n, h1) = some z)) ∧
    (1000 ≤ j → am_do E K (am_nat j pc L S h) = some z) := by
  unfold am_inv at hz
  cases q : (Nat.blt 8 (am_cat (S.drop n)) || (Nat.blt S.length n || !(Nat.beq (am_cat (S.take n)) n || am_la j S))) <;> rw [q] at hz
  · simp only [Bool.or_eq_false_iff, Bool.not_eq_false'] at q
    obtain ⟨q1, q2, q3⟩ := q
    have nb : ∀ {a b : Nat}, Nat.blt a b = false → b ≤ a := fun {a b} q => Nat.le_of_not_lt fun z => by
      have := Nat.ble_eq_true_of_le (show a + 1 ≤ b from z)
      rw [show Nat.blt a b = Nat.ble (a + 1) b from rfl, this] at q
      cases q
    refine ⟨⟨nb q1, nb q2, (Bool.or_eq_true_iff.mp q3).imp (fun z => Nat.eq_of_beq_eq_true z) id⟩, fun hj => ?_, fun hj => ?_⟩
    · have hb : Nat.blt j 1000 = true := Nat.ble_eq_true_of_le hj
      rw [hb] at hz
      dsimp only [cond] at hz
      split at hz
      · exact Or.inl (am_bl_spec hz)
      · exact Or.inr (Or.inl (am_bi_spec hz))
      · exact Or.inr (Or.inr (am_bv_spec hz))
    · have hb : Nat.blt j 1000 = false := by
        cases w : Nat.blt j 1000
        · rfl
        · have := Nat.le_of_ble_eq_true w; omega
      rw [hb] at hz
      exact hz
  · cases hz
theorem am_bz_spec {x y : Int32} (h : am_bz x = some y) : y = x ∧ (x = 0 ∨ x = 1) := by
  unfold am_bz at h
  cases q : (decide (x = 0) || decide (x = 1)) <;> rw [q] at h
  · cases h
  · cases h
    exact ⟨rfl, by simpa using q⟩
theorem am_dv_spec {x y z : Int32} (h : am_dv x y = some z) : ¬ y = 0 ∧ z = x / y := by
  unfold am_dv at h
  cases q : decide (y = 0) <;> rw [q] at h
  · cases h
    exact ⟨of_decide_eq_false q, rfl⟩
  · cases h
theorem am_rm_spec {x y z : Int32} (h : am_rm x y = some z) : ¬ y = 0 ∧ z = x - x / y * y := by
  unfold am_rm at h
  cases q : decide (y = 0) <;> rw [q] at h
  · cases h
    exact ⟨of_decide_eq_false q, rfl⟩
  · cases h
set_option maxHeartbeats 4000000 in
theorem am_snd_succ (htab : am_tab) {l : Launch} {D : va_G} {ky : Nat → ClassId} {b base : Nat} {xs : List Int32} {n : Nat} (ih : am_snd l D ky b base xs n) : am_snd l D ky b base xs (n + 1) := by
  have hmt := am_met_of htab ih
  intro i pc L S h r h' hi hrun p e R s m args below meth c H locs cells slots Q ls C Sl hfr hok hfm hlo hh hS hl hlg hC hSl hC2 hSl2 kr
  obtain ⟨hx, hb, hml, hrt, hown, hname⟩ := id hfr
  have hz : am_do (fun j As h => bif am_rc j As h then am_run n j (0, am_l0 j As, [], h) else none) (am_run n i) (am_act i (pc, L, S, h)) = some (r, h') := hrun
  have hret := htab.2.2.2.2 i hi
  cases hf : am_find (am_code i) pc with
  | none => simp [am_act, hf, am_do] at hz
  | some e0 =>
  obtain ⟨hmem, hpc⟩ := am_find_spec hf
  have hck := htab.1 i hi e0 hmem
  obtain ⟨pc0, ins, len, a1, a2, a3, ci, cl, sw⟩ := e0
  have hpc : pc0 = pc := hpc
  subst hpc
  have hz : am_do (fun j As h => bif am_rc j As h then am_run n j (0, am_l0 j As, [], h) else none) (am_run n i) (am_step i (pc0, ins, len, a1, a2, a3, ci, cl, sw) L S h) = some (r, h') := by simpa only [am_act, hf] using hz
  obtain ⟨hd, hck⟩ := Bool.and_eq_true_iff.mp hck
  have hd : decode (am_by i) pc0 = .ok (ins, len) := of_decide_eq_true hd
  have hsz : c.maxLocals = ls.size := by rw [hml, hl.1]
  have go : ∀ {pc' : Nat} {L' S' : List Value} {h1 : am_H} {H1 : Heap} {locs1 : List Loc} {cells1 slots1 : Nat} {ls1 : Array Slot}, am_run n i (pc', L', S', h1) = some (r, h') → am_hp D ky b base xs h1 H1 → va_S (fun q : Nat => base ≤ q) s.heap H1 locs1 → lv_has ls1 (am_ml i) (am_ls (am_ad b base) 0 L') → am_lg i L' → cells1 + h'.length = C + h1.length → slots1 + am_sl h' = Sl + am_sl h1 → W p l e R s m args below meth c H1 locs1 cells1 slots1 Q (F0 m pc' ls1 (S'.map (am_cv (am_ad b base)))) := fun hz a1 a2 a3 a6 a4 a5 => ih i _ _ _ _ r h' hi hz C Sl hfr hok hfm hlo a1 a2 a3 a6 a4 a5 hC2 hSl2 kr
  have go0 : ∀ {pc' : Nat} {S' : List Value}, am_run n i (pc', L, S', h) = some (r, h') → W p l e R s m args below meth c H locs cells slots Q (F0 m pc' ls (S'.map (am_cv (am_ad b base)))) := fun hz => go hz hh hS hl hlg hC hSl
  have goL : ∀ {pc' : Nat} {L' S' : List Value} {ls1 : Array Slot}, am_run n i (pc', L', S', h) = some (r, h') → lv_has ls1 (am_ml i) (am_ls (am_ad b base) 0 L') → am_lg i L' → W p l e R s m args below meth c H locs cells slots Q (F0 m pc' ls1 (S'.map (am_cv (am_ad b base)))) := fun hz hl hlg => go hz hh hS hl hlg hC hSl
  have gow : ∀ {pc' : Nat} {S' : List Value} {h1 : am_H} {H1 : Heap} {locs1 : List Loc}, am_run n i (pc', L, S', h1) = some (r, h') → am_hp D ky b base xs h1 H1 → va_S (fun q : Nat => base ≤ q) s.heap H1 locs1 → h1.length = h.length ∧ am_sl h1 = am_sl h → W p l e R s m args below meth c H1 locs1 cells slots Q (F0 m pc' ls (S'.map (am_cv (am_ad b base)))) := fun hz a1 a2 a3 => go hz a1 a2 hl hlg (by rw [a3.1]; exact hC) (by rw [a3.2]; exact hSl)
  have h'le : h.length ≤ h'.length := (am_run_gr (n + 1) _ _ _ hrun).1
  have h'sl : am_sl h ≤ am_sl h' := (am_run_gr (n + 1) _ _ _ hrun).2
  have hcl : cells ≤ R.cells := by omega
  have hsl : slots ≤ R.slots := by omega
  have lenq : ∀ {k : Nat}, Nat.beq len k = true → len = k := fun z => Nat.eq_of_beq_eq_true z
  -- a call of a method of the system
  have sys : ∀ {idx : Nat} {ins : Instr}, decode (am_by i) pc0 = .ok (ins, 3) → am_cj i a1 a2 = true → ((ins = .invokevirtual idx ∧ am_kd a1 = 0 ∧ am_has a3 (.methodLink (am_own i) idx (am_nm a1)) = true) ∨ (ins = .invokespecial idx ∧ am_kd a1 = 2 ∧ (am_has a3 (.methodLink (am_own i) idx (am_nm a1)) = true ∨ am_has a3 (.methodLinkNest (am_own i) idx (am_nm a1) am_host) = true)) ∨ (ins = .invokestatic idx ∧ am_kd a1 = 1 ∧ am_has a3 (.methodLink (am_own i) idx (am_nm a1)) = true)) → am_do (fun j As h => bif am_rc j As h then am_run n j (0, am_l0 j As, [], h) else none) (am_run n i) (am_inv a1 a2 (pc0 + 3) L S h) = some (r, h') → W p l e R s m args below meth c H locs cells slots Q (F0 m pc0 ls (S.map (am_cv (am_ad b base)))) := by
    intro idx ins hd hcj hins hz
    obtain ⟨⟨g1, g2, g3⟩, g4, -⟩ := am_inv_spec hz
    have hj : a1 < 1000 := by
      have hcj := hcj
      unfold am_cj at hcj
      simp only [Bool.and_eq_true, decide_eq_true_eq, and_assoc] at hcj
      exact Nat.le_of_ble_eq_true hcj.2.1
    have grow : ∀ {v : Option Value} {h1 : am_H}, (bif am_rc a1 (S.take a2).reverse h then am_run n a1 (0, am_l0 a1 (S.take a2).reverse, [], h) else none) = some (v, h1) → am_gr_ h h1 := by
      intro v h1 hE
      cases q : am_rc a1 (S.take a2).reverse h <;> rw [q] at hE
      · cases hE
      · exact am_run_gr n _ _ _ hE
    rcases g4 hj with ⟨x, h1, hE, hz⟩ | ⟨x, h1, hE, hz⟩ | ⟨h1, hE, hz⟩
    · have e1 := grow hE
      have e2 : am_gr_ h1 h' := am_run_gr n _ _ _ hz
      have e11 := e1.1; have e12 := e1.2; have e21 := e2.1; have e22 := e2.2
      obtain ⟨av, hr⟩ := am_rt_call htab hmt hx hb hsz hown hok hh hS hfm hlo hcj g1 g2 g3 hE (cells := cells) (slots := slots) (by omega) (by omega) hins hd
      have hr : va_Run p l e R s m args below meth c H locs cells slots (h1.length - h.length) (am_sl h1 - am_sl h) (F0 m pc0 ls (S.map (am_cv (am_ad b base)))) ((S.drop a2).map (am_cv (am_ad b base))) (va_Ql (fun y (_ : Unit) => y = x) (fun _ t => am_hp D ky b base xs h1 t.heap) (fun q : Nat => base ≤ q) av) (fun q : Nat => base ≤ q) := hr
      refine va_calll hr hS (fun _ _ h => h) (fun _ h => h) (fun r2 u t H1 locs1 ht hvm hpost hB hz1 hk1 hS1 => ?_)
      subst hpost
      rw [ht] at hB
      exact go (S' := .long r2 :: S.drop a2) hz hB hS1 hl hlg (by omega) (by omega)
    · have e1 := grow hE
      have e2 : am_gr_ h1 h' := am_run_gr n _ _ _ hz
      have e11 := e1.1; have e12 := e1.2; have e21 := e2.1; have e22 := e2.2
      obtain ⟨av, hr⟩ := am_rt_call htab hmt hx hb hsz hown hok hh hS hfm hlo hcj g1 g2 g3 hE (cells := cells) (slots := slots) (by omega) (by omega) hins hd
      have hr : va_Run p l e R s m args below meth c H locs cells slots (h1.length - h.length) (am_sl h1 - am_sl h) (F0 m pc0 ls (S.map (am_cv (am_ad b base)))) ((S.drop a2).map (am_cv (am_ad b base))) (va_Qi (fun y (_ : Unit) => y = x) (fun _ t => am_hp D ky b base xs h1 t.heap) (fun q : Nat => base ≤ q) av) (fun q : Nat => base ≤ q) := hr
      refine va_calli hr hS (fun _ _ h => h) (fun _ h => h) (fun r2 u t H1 locs1 ht hvm hpost hB hz1 hk1 hS1 => ?_)
      subst hpost
      rw [ht] at hB
      exact go (S' := .int r2 :: S.drop a2) hz hB hS1 hl hlg (by omega) (by omega)
    · have e1 := grow hE
      have e2 : am_gr_ h1 h' := am_run_gr n _ _ _ hz
      have e11 := e1.1; have e12 := e1.2; have e21 := e2.1; have e22 := e2.2
      obtain ⟨av, hr⟩ := am_rt_call htab hmt hx hb hsz hown hok hh hS hfm hlo hcj g1 g2 g3 hE (cells := cells) (slots := slots) (by omega) (by omega) hins hd
      have hr : va_Run p l e R s m args below meth c H locs cells slots (h1.length - h.length) (am_sl h1 - am_sl h) (F0 m pc0 ls (S.map (am_cv (am_ad b base)))) ((S.drop a2).map (am_cv (am_ad b base))) (va_Qv (fun (_ : Unit) => True) (fun _ t => am_hp D ky b base xs h1 t.heap) (fun q : Nat => base ≤ q) av) (fun q : Nat => base ≤ q) := hr
      refine va_callv hr hS (fun _ _ h => h) (fun _ h => h) (fun u t H1 locs1 ht hvm hpost hB hz1 hk1 hS1 => ?_)
      rw [ht] at hB
      exact go (S' := S.drop a2) hz hB hS1 hl hlg (by omega) (by omega)
  have hnck := htab.2.2.2.1
  unfold am_nck at hnck
  simp only [Bool.and_eq_true, and_assoc] at hnck
  obtain ⟨k1, k2, k3, k4, k5, k6, k7, k8, k9, k10, k11, k12, k13, k14⟩ := hnck
  cases ins with
  | iconst k =>
    obtain ⟨c1, c2⟩ := Bool.and_eq_true_iff.mp hck
    have e1 := lenq c1; subst e1
    exact lv_iconst hx hb hd (of_decide_eq_true c2) (go0 (S' := .int ci :: S) hz)
  | bipush k =>
    obtain ⟨c1, c2⟩ := Bool.and_eq_true_iff.mp hck
    have e1 := lenq c1; subst e1
    exact lv_bipush hx hb hd (of_decide_eq_true c2) (go0 (S' := .int ci :: S) hz)
  | sipush k =>
    obtain ⟨c1, c2⟩ := Bool.and_eq_true_iff.mp hck
    have e1 := lenq c1; subst e1
    exact lv_sipush hx hb hd (of_decide_eq_true c2) (go0 (S' := .int ci :: S) hz)
  | ldc k =>
    obtain ⟨c1, c2⟩ := Bool.and_eq_true_iff.mp hck
    have e1 := lenq c1; subst e1
    exact lv_ldc hx hb hown (am_has_at c2 hok.1 args) hd (go0 (S' := .int ci :: S) hz)
  | lconst k =>
    obtain ⟨c1, c2⟩ := Bool.and_eq_true_iff.mp hck
    have e1 := lenq c1; subst e1
    exact lv_lconst hx hb hd (of_decide_eq_true c2) (go0 (S' := .long cl :: S) hz)
  | ldc2_w k =>
    obtain ⟨c1, c2⟩ := Bool.and_eq_true_iff.mp hck
    have e1 := lenq c1; subst e1
    exact lv_ldc2 hx hb hown (am_has_at c2 hok.1 args) hd (go0 (S' := .long cl :: S) hz)
  | aconst_null =>
    have e1 := lenq hck; subst e1
    exact lv_null hx hb hd (go0 (S' := .null :: S) hz)
  | iload_n k =>
    obtain ⟨c1, c2⟩ := Bool.and_eq_true_iff.mp hck
    have e1 := lenq c1; subst e1
    cases hL : L[a1]? with
    | none => simp [am_step, hL, am_do] at hz
    | some v => cases v with
      | int x => exact lv_iload_n hx hb hd (Nat.eq_of_beq_eq_true c2) (am_ls_at hl hL rfl) (go0 (S' := .int x :: S) (by simpa only [am_step, hL, am_do] using hz))
      | _ => simp [am_step, hL, am_do] at hz
  | iload k =>
    obtain ⟨c1, c2⟩ := Bool.and_eq_true_iff.mp hck
    have e1 := lenq c1; subst e1
    cases hL : L[a1]? with
    | none => simp [am_step, hL, am_do] at hz
    | some v => cases v with
      | int x => exact lv_iload hx hb (by rw [Nat.eq_of_beq_eq_true c2] at hd; exact hd) (am_ls_at hl hL rfl) (go0 (S' := .int x :: S) (by simpa only [am_step, hL, am_do] using hz))
      | _ => simp [am_step, hL, am_do] at hz
  | lload_n k =>
    obtain ⟨c1, c2⟩ := Bool.and_eq_true_iff.mp hck
    have e1 := lenq c1; subst e1
    cases hL : L[a1]? with
    | none => simp [am_step, hL, am_do] at hz
    | some v => cases v with
      | long x => exact lv_lload_n hx hb hd (Nat.eq_of_beq_eq_true c2) (am_ls_at hl hL rfl) (go0 (S' := .long x :: S) (by simpa only [am_step, hL, am_do] using hz))
      | _ => simp [am_step, hL, am_do] at hz
  | lload k =>
    obtain ⟨c1, c2⟩ := Bool.and_eq_true_iff.mp hck
    have e1 := lenq c1; subst e1
    cases hL : L[a1]? with
    | none => simp [am_step, hL, am_do] at hz
    | some v => cases v with
      | long x => exact lv_lload hx hb (by rw [Nat.eq_of_beq_eq_true c2] at hd; exact hd) (am_ls_at hl hL rfl) (go0 (S' := .long x :: S) (by simpa only [am_step, hL, am_do] using hz))
      | _ => simp [am_step, hL, am_do] at hz
  | aload_n k =>
    obtain ⟨c1, c2⟩ := Bool.and_eq_true_iff.mp hck
    have e1 := lenq c1; subst e1
    cases hL : L[a1]? with
    | none => simp [am_step, hL, am_do] at hz
    | some v => cases v with
      | ref x => exact lv_aload_n hx hb hd (Nat.eq_of_beq_eq_true c2) (am_ls_at hl hL rfl) (go0 (S' := .ref x :: S) (by simpa only [am_step, hL, am_do] using hz))
      | null => exact lv_aload_nN hx hb hd (Nat.eq_of_beq_eq_true c2) (am_ls_at hl hL rfl) (go0 (S' := .null :: S) (by simpa only [am_step, hL, am_do] using hz))
      | _ => simp [am_step, hL, am_do] at hz
  | aload k =>
    obtain ⟨c1, c2⟩ := Bool.and_eq_true_iff.mp hck
    have e1 := lenq c1; subst e1
    cases hL : L[a1]? with
    | none => simp [am_step, hL, am_do] at hz
    | some v => cases v with
      | ref x => exact lv_aload hx hb (by rw [Nat.eq_of_beq_eq_true c2] at hd; exact hd) (am_ls_at hl hL rfl) (go0 (S' := .ref x :: S) (by simpa only [am_step, hL, am_do] using hz))
      | null => exact lv_aloadN hx hb (by rw [Nat.eq_of_beq_eq_true c2] at hd; exact hd) (am_ls_at hl hL rfl) (go0 (S' := .null :: S) (by simpa only [am_step, hL, am_do] using hz))
      | _ => simp [am_step, hL, am_do] at hz
  | istore_n k =>
    obtain ⟨c1, c4⟩ := Bool.and_eq_true_iff.mp hck; obtain ⟨c1, c3⟩ := Bool.and_eq_true_iff.mp c1; obtain ⟨c1, c2⟩ := Bool.and_eq_true_iff.mp c1
    have e1 := lenq c1; subst e1
    match S, hz with
    | .int x :: rs, hz =>
      have hz : am_do (fun j As h => bif am_rc j As h then am_run n j (0, am_l0 j As, [], h) else none) (am_run n i) (bif am_dl i a1 && !(am_nl L a1) then none else am_Go (pc0 + 1, am_st1 L a1 (.int x), rs, h)) = some (r, h') := hz
      cases q : (am_dl i a1 && !(am_nl L a1)) <;> rw [q] at hz
      · exact lv_istore_n (lv := am_ls (am_ad b base) 0 L) hx hb hd (Nat.eq_of_beq_eq_true c2) hl (Nat.le_of_ble_eq_true c3) rfl (fun ls1 hl1 => goL (S' := rs) hz (am_ls_st1 (am_lg_no' hlg c4 q) rfl hl1) (am_lg_st1 hlg (fun _ z => by cases z)))
      · cases hz
  | istore k =>
    obtain ⟨c1, c4⟩ := Bool.and_eq_true_iff.mp hck; obtain ⟨c1, c3⟩ := Bool.and_eq_true_iff.mp c1; obtain ⟨c1, c2⟩ := Bool.and_eq_true_iff.mp c1
    have e1 := lenq c1; subst e1
    rw [Nat.eq_of_beq_eq_true c2] at hd
    match S, hz with
    | .int x :: rs, hz =>
      have hz : am_do (fun j As h => bif am_rc j As h then am_run n j (0, am_l0 j As, [], h) else none) (am_run n i) (bif am_dl i a1 && !(am_nl L a1) then none else am_Go (pc0 + 2, am_st1 L a1 (.int x), rs, h)) = some (r, h') := hz
      cases q : (am_dl i a1 && !(am_nl L a1)) <;> rw [q] at hz
      · exact lv_istore (lv := am_ls (am_ad b base) 0 L) hx hb hd hl (Nat.le_of_ble_eq_true c3) rfl (fun ls1 hl1 => goL (S' := rs) hz (am_ls_st1 (am_lg_no' hlg c4 q) rfl hl1) (am_lg_st1 hlg (fun _ z => by cases z)))
      · cases hz
  | lstore_n k =>
    obtain ⟨c1, c5⟩ := Bool.and_eq_true_iff.mp hck; obtain ⟨c1, c4⟩ := Bool.and_eq_true_iff.mp c1; obtain ⟨c1, c3⟩ := Bool.and_eq_true_iff.mp c1; obtain ⟨c1, c2⟩ := Bool.and_eq_true_iff.mp c1
    have e1 := lenq c1; subst e1
    match S, hz with
    | .long x :: rs, hz => exact lv_lstore_n (lv := am_ls (am_ad b base) 0 L) hx hb hd (Nat.eq_of_beq_eq_true c2) hl (Nat.le_of_ble_eq_true c3) rfl (fun ls1 hl1 => goL (S' := rs) hz (am_ls_st2 (am_lg_no hlg c4) rfl hl1) (am_lg_st2 hlg c5))
  | lstore k =>
    obtain ⟨c1, c5⟩ := Bool.and_eq_true_iff.mp hck; obtain ⟨c1, c4⟩ := Bool.and_eq_true_iff.mp c1; obtain ⟨c1, c3⟩ := Bool.and_eq_true_iff.mp c1; obtain ⟨c1, c2⟩ := Bool.and_eq_true_iff.mp c1
    have e1 := lenq c1; subst e1
    rw [Nat.eq_of_beq_eq_true c2] at hd
    match S, hz with
    | .long x :: rs, hz => exact lv_lstore (lv := am_ls (am_ad b base) 0 L) hx hb hd hl (Nat.le_of_ble_eq_true c3) rfl (fun ls1 hl1 => goL (S' := rs) hz (am_ls_st2 (am_lg_no hlg c4) rfl hl1) (am_lg_st2 hlg c5))
  | astore_n k =>
    obtain ⟨c1, c4⟩ := Bool.and_eq_true_iff.mp hck; obtain ⟨c1, c3⟩ := Bool.and_eq_true_iff.mp c1; obtain ⟨c1, c2⟩ := Bool.and_eq_true_iff.mp c1
    have e1 := lenq c1; subst e1
    match S, hz with
    | .ref x :: rs, hz => exact lv_astore_n (lv := am_ls (am_ad b base) 0 L) hx hb hd (Nat.eq_of_beq_eq_true c2) hl (Nat.le_of_ble_eq_true c3) rfl (fun ls1 hl1 => goL (S' := rs) hz (am_ls_st1 (am_lg_no hlg c4) rfl hl1) (am_lg_st1 hlg (fun _ z => by cases z)))
    | .null :: rs, hz => exact lv_astore_nN (lv := am_ls (am_ad b base) 0 L) hx hb hd (Nat.eq_of_beq_eq_true c2) hl (Nat.le_of_ble_eq_true c3) rfl (fun ls1 hl1 => goL (S' := rs) hz (am_ls_st1 (am_lg_no hlg c4) rfl hl1) (am_lg_st1 hlg (fun _ z => by cases z)))
  | astore k =>
    obtain ⟨c1, c4⟩ := Bool.and_eq_true_iff.mp hck; obtain ⟨c1, c3⟩ := Bool.and_eq_true_iff.mp c1; obtain ⟨c1, c2⟩ := Bool.and_eq_true_iff.mp c1
    have e1 := lenq c1; subst e1
    rw [Nat.eq_of_beq_eq_true c2] at hd
    match S, hz with
    | .ref x :: rs, hz => exact lv_astore (lv := am_ls (am_ad b base) 0 L) hx hb hd hl (Nat.le_of_ble_eq_true c3) rfl (fun ls1 hl1 => goL (S' := rs) hz (am_ls_st1 (am_lg_no hlg c4) rfl hl1) (am_lg_st1 hlg (fun _ z => by cases z)))
    | .null :: rs, hz => exact lv_astoreN (lv := am_ls (am_ad b base) 0 L) hx hb hd hl (Nat.le_of_ble_eq_true c3) rfl (fun ls1 hl1 => goL (S' := rs) hz (am_ls_st1 (am_lg_no hlg c4) rfl hl1) (am_lg_st1 hlg (fun _ z => by cases z)))
  | iinc k0 k =>
    obtain ⟨c1, c5⟩ := Bool.and_eq_true_iff.mp hck; obtain ⟨c1, c4⟩ := Bool.and_eq_true_iff.mp c1; obtain ⟨c1, c3⟩ := Bool.and_eq_true_iff.mp c1; obtain ⟨c1, c2⟩ := Bool.and_eq_true_iff.mp c1
    have e1 := lenq c1; subst e1
    rw [Nat.eq_of_beq_eq_true c2] at hd
    cases hL : L[a1]? with
    | none => simp [am_step, hL, am_do] at hz
    | some v => cases v with
      | int x =>
        obtain ⟨kk, hkk⟩ := List.getElem?_of_mem (am_ls_mem (ρ := am_ad b base) (k := 0) (q := (a1, .int x)) |>.mpr ⟨a1, .int x, hL, rfl, by simp [am_cv]⟩)
        exact lv_iinc (lv := am_ls (am_ad b base) 0 L) hx hb hd hl hkk (v := x + ci) (by rw [of_decide_eq_true c3]) (Nat.le_of_ble_eq_true c4) rfl (fun ls1 hl1 => goL (S' := S) (by simpa only [am_step, hL, am_do] using hz) (am_ls_st1 (v := .int (x + ci)) (am_lg_no hlg c5) rfl hl1) (am_lg_st1 hlg (fun _ z => by cases z)))
      | _ => simp [am_step, hL, am_do] at hz
  | iadd =>
    have e1 := lenq hck; subst e1
    match S, hz with
    | .int y :: .int x :: rs, hz => exact lv_iadd hx hb hd (go0 (S' := .int (x + y) :: rs) hz)
  | isub =>
    have e1 := lenq hck; subst e1
    match S, hz with
    | .int y :: .int x :: rs, hz => exact lv_isub hx hb hd (go0 (S' := .int (x - y) :: rs) hz)
  | imul =>
    have e1 := lenq hck; subst e1
    match S, hz with
    | .int y :: .int x :: rs, hz => exact lv_imul hx hb hd (go0 (S' := .int (x * y) :: rs) hz)
  | iand =>
    have e1 := lenq hck; subst e1
    match S, hz with
    | .int y :: .int x :: rs, hz => exact lv_iand hx hb hd (go0 (S' := .int (x &&& y) :: rs) hz)
  | ishr =>
    have e1 := lenq hck; subst e1
    match S, hz with
    | .int y :: .int x :: rs, hz => exact lv_ishr hx hb hd (go0 (S' := .int (x >>> (y &&& 31)) :: rs) hz)
  | ladd =>
    have e1 := lenq hck; subst e1
    match S, hz with
    | .long y :: .long x :: rs, hz => exact lv_ladd hx hb hd (go0 (S' := .long (x + y) :: rs) hz)
  | lsub =>
    have e1 := lenq hck; subst e1
    match S, hz with
    | .long y :: .long x :: rs, hz => exact lv_lsub hx hb hd (go0 (S' := .long (x - y) :: rs) hz)
  | lmul =>
    have e1 := lenq hck; subst e1
    match S, hz with
    | .long y :: .long x :: rs, hz => exact lv_lmul hx hb hd (go0 (S' := .long (x * y) :: rs) hz)
  | idiv =>
    have e1 := lenq hck; subst e1
    match S, hz with
    | .int y :: .int x :: rs, hz =>
      obtain ⟨z, hg, hz⟩ := Option.bind_eq_some_iff.mp hz
      obtain ⟨hne, rfl⟩ := am_dv_spec hg
      exact lv_idiv hx hb hd hne (go0 (S' := .int (x / y) :: rs) hz)
  | irem =>
    have e1 := lenq hck; subst e1
    match S, hz with
    | .int y :: .int x :: rs, hz =>
      obtain ⟨z, hg, hz⟩ := Option.bind_eq_some_iff.mp hz
      obtain ⟨hne, rfl⟩ := am_rm_spec hg
      exact lv_irem hx hb hd hne (go0 (S' := .int (x - x / y * y) :: rs) hz)
  | ldiv =>
    have e1 := lenq hck; subst e1
    match S, hz with
    | .long y :: .long x :: rs, hz =>
      cases q : decide (y = 0)
      · have hz : am_run n i (pc0 + 1, L, .long (x / y) :: rs, h) = some (r, h') := by simpa only [am_step, q, cond, am_do] using hz
        exact lv_ldiv hx hb hd (of_decide_eq_false q) (go0 (S' := .long (x / y) :: rs) hz)
      · simp [am_step, q, am_do] at hz
  | lcmp =>
    have e1 := lenq hck; subst e1
    match S, hz with
    | .long y :: .long x :: rs, hz => exact W.lcmp hx hb hd (go0 (S' := .int (lg_cmp x y) :: rs) hz)
  | i2l =>
    have e1 := lenq hck; subst e1
    match S, hz with
    | .int x :: rs, hz => exact lv_i2l hx hb hd rfl (go0 (S' := .long x.toInt64 :: rs) hz)
  | l2i =>
    have e1 := lenq hck; subst e1
    match S, hz with
    | .long x :: rs, hz => exact lv_l2i hx hb hd rfl (go0 (S' := .int x.toInt32 :: rs) hz)
  | i2c =>
    have e1 := lenq hck; subst e1
    match S, hz with
    | .int x :: rs, hz => exact lv_i2c hx hb hd rfl (go0 (S' := .int (x.toUInt32 % 65536).toInt32 :: rs) hz)
  | dup =>
    have e1 := lenq hck; subst e1
    match S, hz with
    | .ref x :: rs, hz => exact lv_dup hx hb hd rfl (go0 (S' := .ref x :: .ref x :: rs) hz)
    | .int x :: rs, hz => exact lv_dup hx hb hd rfl (go0 (S' := .int x :: .int x :: rs) hz)
  | dup2 =>
    have e1 := lenq hck; subst e1
    match S, hz with
    | .int y :: .ref x :: rs, hz => exact lv_dup2_11 hx hb hd rfl rfl (go0 (S' := .int y :: .ref x :: .int y :: .ref x :: rs) hz)
  | pop =>
    have e1 := lenq hck; subst e1
    match S, hz with
    | .int x :: rs, hz => exact lv_pop hx hb hd rfl (go0 (S' := rs) hz)
  | if_icmp cd off =>
    obtain ⟨c1, c2⟩ := Bool.and_eq_true_iff.mp hck
    have e1 := lenq c1; subst e1
    match S, hz with
    | .int y :: .int x :: rs, hz =>
      have hz : (bif am_cm cd x y then am_run n i (a1, L, rs, h) else am_run n i (pc0 + 3, L, rs, h)) = some (r, h') := hz
      cases cd with
      | eq => exact lv_icmp_eq hx hb hd (of_decide_eq_true c2) (fun g => go0 (S' := rs) (am_bt (decide_eq_true g) hz)) (fun g => go0 (S' := rs) (am_bf (decide_eq_false g) hz))
      | ne => exact lv_icmp_ne hx hb hd (of_decide_eq_true c2) (fun g => go0 (S' := rs) (am_bt (decide_eq_true g) hz)) (fun g => go0 (S' := rs) (am_bf (decide_eq_false (fun q => q g)) hz))
      | lt => exact lv_icmp_lt hx hb hd (of_decide_eq_true c2) (fun g => go0 (S' := rs) (am_bt (decide_eq_true g) hz)) (fun g => go0 (S' := rs) (am_bf (decide_eq_false g) hz))
      | ge => exact lv_icmp_ge hx hb hd (of_decide_eq_true c2) (fun g => go0 (S' := rs) (am_bt (decide_eq_true g) hz)) (fun g => go0 (S' := rs) (am_bf (decide_eq_false g) hz))
      | gt => exact lv_icmp_gt hx hb hd (of_decide_eq_true c2) (fun g => go0 (S' := rs) (am_bt (decide_eq_true g) hz)) (fun g => go0 (S' := rs) (am_bf (decide_eq_false g) hz))
      | le => exact lv_icmp_le hx hb hd (of_decide_eq_true c2) (fun g => go0 (S' := rs) (am_bt (decide_eq_true g) hz)) (fun g => go0 (S' := rs) (am_bf (decide_eq_false g) hz))
  | ifCond cd off =>
    obtain ⟨c1, c2⟩ := Bool.and_eq_true_iff.mp hck
    have e1 := lenq c1; subst e1
    match S, hz with
    | .int x :: rs, hz =>
      have hz : (bif am_cm cd x 0 then am_run n i (a1, L, rs, h) else am_run n i (pc0 + 3, L, rs, h)) = some (r, h') := hz
      cases cd with
      | eq => exact lv_if_eq hx hb hd (of_decide_eq_true c2) (fun g => go0 (S' := rs) (am_bt (decide_eq_true g) hz)) (fun g => go0 (S' := rs) (am_bf (decide_eq_false g) hz))
      | ne => exact lv_if_ne hx hb hd (of_decide_eq_true c2) (fun g => go0 (S' := rs) (am_bt (decide_eq_true g) hz)) (fun g => go0 (S' := rs) (am_bf (decide_eq_false (fun q => q g)) hz))
      | lt => exact lv_if_lt hx hb hd (of_decide_eq_true c2) (fun g => go0 (S' := rs) (am_bt (decide_eq_true g) hz)) (fun g => go0 (S' := rs) (am_bf (decide_eq_false g) hz))
      | ge => exact lv_if_ge hx hb hd (of_decide_eq_true c2) (fun g => go0 (S' := rs) (am_bt (decide_eq_true g) hz)) (fun g => go0 (S' := rs) (am_bf (decide_eq_false g) hz))
      | gt => exact lv_if_gt hx hb hd (of_decide_eq_true c2) (fun g => go0 (S' := rs) (am_bt (decide_eq_true g) hz)) (fun g => go0 (S' := rs) (am_bf (decide_eq_false g) hz))
      | le => exact lv_if_le hx hb hd (of_decide_eq_true c2) (fun g => go0 (S' := rs) (am_bt (decide_eq_true g) hz)) (fun g => go0 (S' := rs) (am_bf (decide_eq_false g) hz))
  | ifnull off =>
    obtain ⟨c1, c2⟩ := Bool.and_eq_true_iff.mp hck
    have e1 := lenq c1; subst e1
    match S, hz with
    | .ref x :: rs, hz => exact lv_ifnull hx hb hd (go0 (S' := rs) hz)
    | .null :: rs, hz => exact lv_ifnullN hx hb hd (of_decide_eq_true c2) (go0 (S' := rs) hz)
  | goto off =>
    obtain ⟨c1, c2⟩ := Bool.and_eq_true_iff.mp hck
    have e1 := lenq c1; subst e1
    exact lv_goto hx hb hd (of_decide_eq_true c2) (go0 (S' := S) hz)
  | tableswitch d lo hi offs =>
    obtain ⟨c1, c4⟩ := Bool.and_eq_true_iff.mp hck; obtain ⟨c1, c3⟩ := Bool.and_eq_true_iff.mp c1; obtain ⟨c1, c2⟩ := Bool.and_eq_true_iff.mp c1
    have hhi : hi + 1 = lo + sw.length := of_decide_eq_true c2
    have hsw : ∀ (k : Nat) q, sw[k]? = some q → q.1.toInt = lo + k ∧ ∃ o, offs[k]? = some o ∧ (pc0 : Int) + o = (q.2 : Int) := by
      intro k q hq
      have hk := List.all_eq_true.mp c4 k (List.mem_range.mpr (List.getElem?_eq_some_iff.mp hq).1)
      rw [hq] at hk
      split at hk
      · rename_i q1 o e1 e2
        cases e1
        simp only [Bool.and_eq_true, decide_eq_true_eq] at hk
        exact ⟨hk.1, o, e2, hk.2⟩
      · cases hk
    match S, hz with
    | .int x :: rs, hz =>
      have hz : am_sw x sw a1 (fun pc => am_run n i (pc, L, rs, h)) = some (r, h') := hz
      rcases am_sw_tab (x := x) (d := a1) (K := fun pc => am_run n i (pc, L, rs, h)) (fun k q hq => (hsw k q hq).1) with ⟨k, q, h1, h2, h3⟩ | ⟨h1, h2⟩
      · obtain ⟨-, o, ho, hpo⟩ := hsw k q h1
        have hkl := (List.getElem?_eq_some_iff.mp h1).1
        rw [h3] at hz
        exact lv_tableIn hx hb hd (by omega) (by omega) (by rw [show (x.toInt - lo).toNat = k by omega]; exact ho) hpo (go0 (S' := rs) hz)
      · rw [h2] at hz
        exact lv_tableOut hx hb hd (by omega) (of_decide_eq_true c1) (go0 (S' := rs) hz)
  | lookupswitch d ps =>
    obtain ⟨c1, c4⟩ := Bool.and_eq_true_iff.mp hck; obtain ⟨c1, c3⟩ := Bool.and_eq_true_iff.mp c1; obtain ⟨c1, c2⟩ := Bool.and_eq_true_iff.mp c1
    match S, hz with
    | .int x :: rs, hz =>
      have hz : am_sw x sw a1 (fun pc => am_run n i (pc, L, rs, h)) = some (r, h') := hz
      obtain ⟨t, h1, h2⟩ := am_sw_look (x := x) (d := a1) (K := fun pc => am_run n i (pc, L, rs, h)) (of_decide_eq_true c1) (Nat.eq_of_beq_eq_true c3) c4
      rw [h1] at hz
      exact lv_lookup hx hb hd c2 rfl h2 (go0 (S' := rs) hz)
  | getfield k =>
    obtain ⟨c1, c2⟩ := Bool.and_eq_true_iff.mp hck
    have e1 := lenq c1; subst e1
    have hlt : a1 < am_cls.length := Nat.le_of_ble_eq_true (Bool.and_eq_true_iff.mp (Bool.and_eq_true_iff.mp c2).1).1
    match S, hz with
    | .ref a :: rs, hz =>
      cases hty : am_ty a1 a2 with
      | object _ =>
        simp only [am_step, hty, am_do] at hz
        obtain ⟨x, hg, hz⟩ := Option.bind_eq_some_iff.mp hz
        obtain ⟨fs, g1, g2⟩ := am_gr_spec hg
        exact am_rt_get hx hb hown hok hh (htab.2.2.1 a1 hlt) c2 g1 g2 hd (go0 (S' := .ref x :: rs) hz)
      | array _ =>
        simp only [am_step, hty, am_do] at hz
        obtain ⟨x, hg, hz⟩ := Option.bind_eq_some_iff.mp hz
        obtain ⟨fs, g1, g2⟩ := am_gr_spec hg
        exact am_rt_get hx hb hown hok hh (htab.2.2.1 a1 hlt) c2 g1 g2 hd (go0 (S' := .ref x :: rs) hz)
      | _ =>
        simp only [am_step, hty, am_do] at hz
        obtain ⟨x, hg, hz⟩ := Option.bind_eq_some_iff.mp hz
        obtain ⟨fs, g1, g2⟩ := am_gi_spec hg
        exact am_rt_get hx hb hown hok hh (htab.2.2.1 a1 hlt) c2 g1 g2 hd (go0 (S' := .int x :: rs) hz)
  | putfield k =>
    obtain ⟨c1, c2⟩ := Bool.and_eq_true_iff.mp hck
    have e1 := lenq c1; subst e1
    have hlt : a1 < am_cls.length := Nat.le_of_ble_eq_true (Bool.and_eq_true_iff.mp (Bool.and_eq_true_iff.mp c2).1).1
    match S, hz with
    | .int x :: .ref a :: rs, hz =>
      cases hty : am_ty a1 a2 with
      | int =>
        simp only [am_step, hty, am_do] at hz
        obtain ⟨h1, hg, hz⟩ := Option.bind_eq_some_iff.mp hz
        obtain ⟨fs, g1, g2, rfl⟩ := am_pf_spec hg
        exact am_rt_put (v := .int x) hx hb hown hname hok hh hS (htab.2.2.1 a1 hlt) c2 g1 g2 (by rw [hty]; rfl) (by rw [hty]; rfl) hd (fun H1 locs1 q1 q2 => gow (S' := rs) hz q1 q2 (am_set_eq g1 (by simp [am_sz])))
      | boolean =>
        simp only [am_step, hty, am_do] at hz
        cases q : (decide (x = 0) || decide (x = 1)) <;> rw [q] at hz
        · simp at hz
        · have q : x = 0 ∨ x = 1 := by simpa using q
          dsimp only [cond] at hz
          obtain ⟨h1, hg, hz⟩ := Option.bind_eq_some_iff.mp hz
          obtain ⟨fs, g1, g2, rfl⟩ := am_pf_spec hg
          exact am_rt_put (v := .int x) hx hb hown hname hok hh hS (htab.2.2.1 a1 hlt) c2 g1 g2 (by rw [hty]; rcases q with q | q <;> subst q <;> rfl) (by rw [hty]; rcases q with q | q <;> subst q <;> rfl) hd (fun H1 locs1 q1 q2 => gow (S' := rs) hz q1 q2 (am_set_eq g1 (by simp [am_sz])))
      | _ => simp [am_step, hty, am_do] at hz
    | .ref x :: .ref a :: rs, hz =>
      cases hty : am_ty a1 a2 with
      | object _ =>
        simp only [am_step, hty, am_do] at hz
        obtain ⟨h1, hg, hz⟩ := Option.bind_eq_some_iff.mp hz
        obtain ⟨fs, g1, g2, rfl⟩ := am_pf_spec hg
        exact am_rt_put (v := .ref x) hx hb hown hname hok hh hS (htab.2.2.1 a1 hlt) c2 g1 g2 (by rw [hty]; rfl) (by rw [hty]; rfl) hd (fun H1 locs1 q1 q2 => gow (S' := rs) hz q1 q2 (am_set_eq g1 (by simp [am_sz])))
      | array _ =>
        simp only [am_step, hty, am_do] at hz
        obtain ⟨h1, hg, hz⟩ := Option.bind_eq_some_iff.mp hz
        obtain ⟨fs, g1, g2, rfl⟩ := am_pf_spec hg
        exact am_rt_put (v := .ref x) hx hb hown hname hok hh hS (htab.2.2.1 a1 hlt) c2 g1 g2 (by rw [hty]; rfl) (by rw [hty]; rfl) hd (fun H1 locs1 q1 q2 => gow (S' := rs) hz q1 q2 (am_set_eq g1 (by simp [am_sz])))
      | _ => simp [am_step, hty, am_do] at hz
  | arraylength =>
    have e1 := lenq hck; subst e1
    match S, hz with
    | .ref a :: rs, hz =>
      obtain ⟨x, hg, hz⟩ := Option.bind_eq_some_iff.mp hz
      exact am_rt_len hx hb hok hh hS hg hd (go0 (S' := .int x :: rs) hz)
  | iaload =>
    have e1 := lenq hck; subst e1
    match S, hz with
    | .int j :: .ref a :: rs, hz =>
      obtain ⟨x, hg, hz⟩ := Option.bind_eq_some_iff.mp hz
      exact am_rt_al hx hb hok hh hS hg hd (go0 (S' := .int x :: rs) hz)
  | caload =>
    have e1 := lenq hck; subst e1
    match S, hz with
    | .int j :: .ref a :: rs, hz =>
      obtain ⟨x, hg, hz⟩ := Option.bind_eq_some_iff.mp hz
      exact am_rt_cl hx hb hok hh hg hd (go0 (S' := .int x :: rs) hz)
  | aaload =>
    have e1 := lenq hck; subst e1
    match S, hz with
    | .int j :: .ref a :: rs, hz =>
      obtain ⟨x, hg, hz⟩ := Option.bind_eq_some_iff.mp hz
      exact am_rt_ql hx hb hok hh hg hd (go0 (S' := .ref x :: rs) hz)
  | iastore =>
    have e1 := lenq hck; subst e1
    match S, hz with
    | .int v :: .int j :: .ref a :: rs, hz =>
      obtain ⟨h1, hg, hz⟩ := Option.bind_eq_some_iff.mp hz
      have hq : h1.length = h.length ∧ am_sl h1 = am_sl h := by
        obtain ⟨q, g1, -, rfl⟩ := am_as_spec hg
        exact am_set_eq g1 (by simp [am_sz])
      exact am_rt_ias hx hb hok hh hS hg hd (fun H1 locs1 q1 q2 => gow (S' := rs) hz q1 q2 hq)
  | castore =>
    have e1 := lenq hck; subst e1
    match S, hz with
    | .int v :: .int j :: .ref a :: rs, hz =>
      obtain ⟨h1, hg, hz⟩ := Option.bind_eq_some_iff.mp hz
      have hq : h1.length = h.length ∧ am_sl h1 = am_sl h := by
        obtain ⟨q, g1, -, rfl⟩ := am_as_spec hg
        exact am_set_eq g1 (by simp [am_sz])
      exact am_rt_cas hx hb hok hh hS hg hd (fun H1 locs1 q1 q2 => gow (S' := rs) hz q1 q2 hq)
  | aastore =>
    have e1 := lenq hck; subst e1
    match S, hz with
    | .ref v :: .int j :: .ref a :: rs, hz =>
      obtain ⟨h1, hg, hz⟩ := Option.bind_eq_some_iff.mp hz
      have hq : h1.length = h.length ∧ am_sl h1 = am_sl h := by
        obtain ⟨q, fs, g1, -, -, rfl⟩ := am_qs_spec hg
        exact am_set_eq g1 (by simp [am_sz])
      exact am_rt_qs hx hb hok hh hS (Nat.le_of_ble_eq_true k14) hg hd (fun H1 locs1 q1 q2 => gow (S' := rs) hz q1 q2 hq)
  | new k =>
    obtain ⟨c1, c3⟩ := Bool.and_eq_true_iff.mp hck; obtain ⟨c1, c2⟩ := Bool.and_eq_true_iff.mp c1
    have e1 := lenq c1; subst e1
    have hz : am_run n i (pc0 + 3, L, .ref h.length :: S, h ++ [.inr (a1, am_new a1)]) = some (r, h') := hz
    have g := am_run_gr n _ _ _ hz
    have g1 : h.length + 1 ≤ h'.length := by have := g.1; simp only [List.length_append, List.length_singleton] at this; exact this
    have g2 : am_sl h + (am_new a1).length ≤ am_sl h' := by have := g.2; rw [am_sl_app] at this; exact this
    exact am_rt_new hx hb hown hok hh hS (htab.2.2.1 a1 (Nat.le_of_ble_eq_true c2)) (Nat.le_of_ble_eq_true c2) c3 (by omega) (by omega) hd (fun H1 q1 q2 => go (S' := .ref h.length :: S) hz q1 q2 hl hlg (by simp only [List.length_append, List.length_singleton]; omega) (by rw [am_sl_app]; simp only [am_sz]; omega))
  | newarray t =>
    obtain ⟨c1, c2⟩ := Bool.and_eq_true_iff.mp hck
    have e1 := lenq c1; subst e1
    match S, hz with
    | .int k :: rs, hz =>
      obtain ⟨h1, hg, hz9⟩ := Option.bind_eq_some_iff.mp hz
      have g := am_run_gr n _ _ _ hz9
      obtain ⟨-, -, q1⟩ := am_na_spec hg
      have g1 : h1.length = h.length + 1 := by rw [q1]; simp
      have g2 : am_sl h1 = am_sl h + k.toNatClampNeg := by rw [q1, am_sl_app]; simp [am_sz]
      have g3 : h1.length ≤ h'.length := g.1
      have g4 : am_sl h1 ≤ am_sl h' := g.2
      rcases Bool.or_eq_true_iff.mp c2 with c3 | c3
      · obtain ⟨c3, c4⟩ := Bool.and_eq_true_iff.mp c3
        have c3 := of_decide_eq_true c3
        have c4 := Nat.eq_of_beq_eq_true c4
        subst c3; subst c4
        exact am_rt_na hx hb hok hh (at_ := .int) hS k11 rfl rfl (by decide) rfl (fun _ z => z) hg (by omega) (by omega) hd (fun H1 q1 q2 => go (S' := .ref h.length :: rs) hz9 q1 q2 hl hlg (by omega) (by omega))
      · obtain ⟨c3, c4⟩ := Bool.and_eq_true_iff.mp c3
        have c3 := of_decide_eq_true c3
        have c4 := Nat.eq_of_beq_eq_true c4
        subst c3; subst c4
        exact am_rt_na hx hb hok hh (at_ := .char) hS k12 rfl rfl (by decide) rfl (fun _ z => z) hg (by omega) (by omega) hd (fun H1 q1 q2 => go (S' := .ref h.length :: rs) hz9 q1 q2 hl hlg (by omega) (by omega))
  | anewarray t =>
    obtain ⟨c1, c3⟩ := Bool.and_eq_true_iff.mp hck; obtain ⟨c1, c2⟩ := Bool.and_eq_true_iff.mp c1
    have e1 := lenq c1; subst e1
    match S, hz with
    | .int k :: rs, hz =>
      obtain ⟨h1, hg, hz9⟩ := Option.bind_eq_some_iff.mp hz
      have g := am_run_gr n _ _ _ hz9
      obtain ⟨-, -, q1⟩ := am_nq_spec hg
      have g1 : h1.length = h.length + 1 := by rw [q1]; simp
      have g2 : am_sl h1 = am_sl h + k.toNatClampNeg := by rw [q1, am_sl_app]; simp [am_sz]
      have g3 : h1.length ≤ h'.length := g.1
      have g4 : am_sl h1 ≤ am_sl h' := g.2
      have c4 := Nat.eq_of_beq_eq_true c2
      subst c4
      exact am_rt_nq hx hb hown hok hh hS c3 k13 hg (by omega) (by omega) hd (fun H1 q1 q2 => go (S' := .ref h.length :: rs) hz9 q1 q2 hl hlg (by omega) (by omega))
  | invokevirtual k =>
    obtain ⟨c1, c4⟩ := Bool.and_eq_true_iff.mp hck; obtain ⟨c1, c3⟩ := Bool.and_eq_true_iff.mp c1; obtain ⟨c1, c2⟩ := Bool.and_eq_true_iff.mp c1
    have e1 := lenq c1; subst e1
    exact sys hd c2 (Or.inl ⟨rfl, Nat.eq_of_beq_eq_true c3, c4⟩) hz
  | invokespecial k =>
    obtain ⟨c1, c2⟩ := Bool.and_eq_true_iff.mp hck
    have e1 := lenq c1; subst e1
    have hz : am_do (fun j As h => bif am_rc j As h then am_run n j (0, am_l0 j As, [], h) else none) (am_run n i) (am_inv a1 a2 (pc0 + 3) L S h) = some (r, h') := hz
    cases q : Nat.beq a1 1003 <;> rw [q] at c2
    · have c2 : (am_cj i a1 a2 && Nat.beq (am_kd a1) 2 && (am_has a3 (.methodLink (am_own i) k (am_nm a1)) || am_has a3 (.methodLinkNest (am_own i) k (am_nm a1) am_host))) = true := c2
      simp only [Bool.and_eq_true, Bool.or_eq_true, and_assoc] at c2
      exact sys hd c2.1 (Or.inr (Or.inl ⟨rfl, Nat.eq_of_beq_eq_true c2.2.1, c2.2.2⟩)) hz
    · have c2 : (Nat.beq a2 1 && Nat.blt 0 (am_rank i) && am_has a3 (.methodLink (am_own i) k objectInit)) = true := c2
      simp only [Bool.and_eq_true, and_assoc] at c2
      obtain ⟨d1, d2, d3⟩ := c2
      have q := Nat.eq_of_beq_eq_true q
      have q2 := Nat.eq_of_beq_eq_true d1
      have q3 : 0 < am_rank i := Nat.le_of_ble_eq_true d2
      subst q; subst q2
      obtain ⟨⟨g1, -, -⟩, -, g4⟩ := am_inv_spec hz
      have hz := g4 (by decide)
      match S, hz, g1 with
      | .ref x :: rs, hz, g1 =>
        have g1 : am_cat rs ≤ 8 := g1
        exact W.objInit hx hb hown (am_has_at d3 hok.1 args) (am_has_at k9 hok.1 args) (am_has_at k10 hok.1 args) rfl hsz.symm rfl hd (by omega) (by show 2 * 0 + _ + 12 ≤ _; rw [am_cat_map]; omega) (go0 (S' := rs) hz)
  | invokestatic k =>
    obtain ⟨c1, c2⟩ := Bool.and_eq_true_iff.mp hck
    have e1 := lenq c1; subst e1
    have hz : am_do (fun j As h => bif am_rc j As h then am_run n j (0, am_l0 j As, [], h) else none) (am_run n i) (am_inv a1 a2 (pc0 + 3) L S h) = some (r, h') := hz
    cases q : Nat.beq a1 1000 <;> rw [q] at c2
    · have c2 : (bif Nat.beq a1 1001 then Nat.beq a2 2 && Nat.blt 0 (am_rank i) && am_has a3 (.methodLink (am_own i) k Lib.Math.min.name) else bif Nat.beq a1 1002 then Nat.beq a2 5 && Nat.blt 0 (am_rank i) && am_has a3 (.methodLink (am_own i) k arraycopyName) else am_cj i a1 a2 && Nat.beq (am_kd a1) 1 && am_has a3 (.methodLink (am_own i) k (am_nm a1))) = true := c2
      cases q : Nat.beq a1 1001 <;> rw [q] at c2
      · have c2 : (bif Nat.beq a1 1002 then Nat.beq a2 5 && Nat.blt 0 (am_rank i) && am_has a3 (.methodLink (am_own i) k arraycopyName) else am_cj i a1 a2 && Nat.beq (am_kd a1) 1 && am_has a3 (.methodLink (am_own i) k (am_nm a1))) = true := c2
        cases q : Nat.beq a1 1002 <;> rw [q] at c2
        · have c2 : (am_cj i a1 a2 && Nat.beq (am_kd a1) 1 && am_has a3 (.methodLink (am_own i) k (am_nm a1))) = true := c2
          simp only [Bool.and_eq_true, and_assoc] at c2
          exact sys hd c2.1 (Or.inr (Or.inr ⟨rfl, Nat.eq_of_beq_eq_true c2.2.1, c2.2.2⟩)) hz
        · have c2 : (Nat.beq a2 5 && Nat.blt 0 (am_rank i) && am_has a3 (.methodLink (am_own i) k arraycopyName)) = true := c2
          simp only [Bool.and_eq_true, and_assoc] at c2
          obtain ⟨d1, d2, d3⟩ := c2
          have q := Nat.eq_of_beq_eq_true q
          have q2 := Nat.eq_of_beq_eq_true d1
          have q3 : 0 < am_rank i := Nat.le_of_ble_eq_true d2
          subst q; subst q2
          obtain ⟨⟨g1, -, -⟩, -, g4⟩ := am_inv_spec hz
          have hz := g4 (by decide)
          match S, hz, g1 with
          | .int nn :: .int dp :: .ref x2 :: .int sp :: .ref x1 :: rs, hz, g1 =>
            have g1 : am_cat rs ≤ 8 := g1
            obtain ⟨h1, hg, hz⟩ := Option.bind_eq_some_iff.mp hz
            have hq : h1.length = h.length ∧ am_sl h1 = am_sl h := by
              obtain ⟨f, g, -, g2, -, -, -, -, -, rfl⟩ := am_cp_spec hg
              exact am_set_eq g2 (by simp [am_sz, am_cpl])
            exact am_rt_cp hx hb hsz hown hok hh hS d3 k6 k7 k8 hg (by omega) (by omega) (by rw [am_cat_map]; exact g1) hd (fun H1 locs1 q1 q2 => gow (S' := rs) hz q1 q2 hq)
      · skip
        have c2 : (Nat.beq a2 2 && Nat.blt 0 (am_rank i) && am_has a3 (.methodLink (am_own i) k Lib.Math.min.name)) = true := c2
        simp only [Bool.and_eq_true, and_assoc] at c2
        obtain ⟨d1, d2, d3⟩ := c2
        have q := Nat.eq_of_beq_eq_true q
        have q2 := Nat.eq_of_beq_eq_true d1
        have q3 : 0 < am_rank i := Nat.le_of_ble_eq_true d2
        subst q; subst q2
        obtain ⟨⟨g1, -, -⟩, -, g4⟩ := am_inv_spec hz
        have hz := g4 (by decide)
        match S, hz, g1 with
        | .int y :: .int x :: rs, hz, g1 =>
          have g1 : am_cat rs ≤ 8 := g1
          exact va_mmin hx hb hsz hown (am_has_at d3 hok.1 args) (am_has_at k4 hok.1 args) (am_has_at k2 hok.1 args) (am_has_at k5 hok.1 args) (by omega) (by rw [am_cat_map]; omega) hcl hsl hd (go0 (S' := .int (am_min x y) :: rs) hz)
    · skip
      have c2 : (Nat.beq a2 2 && Nat.blt 0 (am_rank i) && am_has a3 (.methodLink (am_own i) k Lib.Math.max.name)) = true := c2
      simp only [Bool.and_eq_true, and_assoc] at c2
      obtain ⟨d1, d2, d3⟩ := c2
      have q := Nat.eq_of_beq_eq_true q
      have q2 := Nat.eq_of_beq_eq_true d1
      have q3 : 0 < am_rank i := Nat.le_of_ble_eq_true d2
      subst q; subst q2
      obtain ⟨⟨g1, -, -⟩, -, g4⟩ := am_inv_spec hz
      have hz := g4 (by decide)
      match S, hz, g1 with
      | .int y :: .int x :: rs, hz, g1 =>
        have g1 : am_cat rs ≤ 8 := g1
        exact va_mmax hx hb hsz hown (am_has_at d3 hok.1 args) (am_has_at k1 hok.1 args) (am_has_at k2 hok.1 args) (am_has_at k3 hok.1 args) (by omega) (by rw [am_cat_map]; omega) hcl hsl hd (go0 (S' := .int (am_max x y) :: rs) hz)
  | ireturn =>
    have e1 := lenq hck; subst e1
    match S, hz with
    | [.int x], hz =>
      cases hty : am_ret i with
      | none => simp [am_step, hty, am_do] at hz
      | some ty => cases ty with
        | boolean =>
          simp only [am_step, hty, am_do] at hz
          obtain ⟨y, hg, hz9⟩ := Option.bind_eq_some_iff.mp hz
          obtain ⟨q1, hy⟩ := am_bz_spec hg
          rw [q1] at hz9
          clear hz
          cases hz9
          have e2 : C = cells := by omega
          have e3 : Sl = slots := by omega
          subst e2; subst e3
          exact kr pc0 ls H locs hh hS ⟨hd, Or.inr ⟨by rw [← hret, hty], hy⟩⟩
        | int =>
          simp only [am_step, hty, am_do] at hz
          cases hz
          have e2 : C = cells := by omega
          have e3 : Sl = slots := by omega
          subst e2; subst e3
          exact kr pc0 ls H locs hh hS ⟨hd, Or.inl (by rw [← hret, hty])⟩
        | _ => simp [am_step, hty, am_do] at hz
  | lreturn =>
    have e1 := lenq hck; subst e1
    match S, hz with
    | [.long x], hz =>
      cases hty : am_ret i with
      | none => simp [am_step, hty, am_do] at hz
      | some ty => cases ty with
        | long =>
          simp only [am_step, hty, am_do] at hz
          cases hz
          have e2 : C = cells := by omega
          have e3 : Sl = slots := by omega
          subst e2; subst e3
          exact kr pc0 ls H locs hh hS ⟨hd, by rw [← hret, hty]⟩
        | _ => simp [am_step, hty, am_do] at hz
  | return_ =>
    have e1 := lenq hck; subst e1
    match S, hz with
    | [], hz =>
      cases hty : am_ret i with
      | none =>
        simp only [am_step, hty, am_do] at hz
        cases hz
        have e2 : C = cells := by omega
        have e3 : Sl = slots := by omega
        subst e2; subst e3
        exact kr pc0 ls H locs hh hS ⟨hd, by rw [← hret, hty]⟩
      | some ty => simp [am_step, hty, am_do] at hz
  | _ => exact absurd (show (none : Option am_R) = some _ from hz) (by simp)
theorem am_snd_all (htab : am_tab) {l : Launch} {D : va_G} {ky : Nat → ClassId} {b base : Nat} {xs : List Int32} (n : Nat) : am_snd l D ky b base xs n := by
  induction n with
  | zero => intro i pc L S h r h' hi hrun; cases hrun
  | succ n ih => exact am_snd_succ htab ih

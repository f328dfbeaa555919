theorem am_cat_map (ρ : Nat → Nat) (S : List Value) : ((S.map (am_cv ρ)).map fun v => v.category).sum = am_cat S := by
  unfold am_cat
  rw [List.map_map]
  congr 1
  apply List.map_congr_left
  intro v _
  exact am_cv_cat v
theorem am_cat_one {S : List Value} (h : am_cat S = S.length) : ∀ v ∈ S, v.category = 1 := by
  have hge : ∀ S : List Value, S.length ≤ am_cat S := by
    intro S
    induction S with
    | nil => exact Nat.le_refl _
    | cons v r ih =>
      have e : am_cat (v :: r) = v.category + am_cat r := by simp [am_cat]
      rw [e, List.length_cons]
      rcases lv_cat v with q | q <;> omega
  induction S with
  | nil => intro v hv; cases hv
  | cons x r ih =>
    have e : am_cat (x :: r) = x.category + am_cat r := by simp [am_cat]
    rw [e, List.length_cons] at h
    have h1 := hge r
    intro v hv
    rcases List.mem_cons.mp hv with q | q
    · subst q
      rcases lv_cat v with z | z <;> omega
    · exact ih (by rcases lv_cat x with z | z <;> omega) v q
theorem am_sl_len {vs : List Value} (h : ∀ v ∈ vs, v.category = 1) : (lg_sl vs).length = vs.length := by
  induction vs with
  | nil => rfl
  | cons v r ih =>
    have h1 := h v List.mem_cons_self
    have e : lg_sl (v :: r) = .val v :: lg_sl r := by simp [lg_sl, h1]
    rw [e, List.length_cons, List.length_cons, ih (fun w hw => h w (List.mem_cons_of_mem _ hw))]
theorem am_lv_args {vs : List Value} (h : ∀ v ∈ vs, v.category = 1) : ∀ (k j : Nat) (v : Value), vs[j]? = some v → (k + j, v) ∈ lv_args k vs := by
  induction vs with
  | nil => intro k j v hv; simp at hv
  | cons x r ih =>
    intro k j v hv
    have h1 := h x List.mem_cons_self
    have e : lv_args k (x :: r) = (k, x) :: lv_args (k + 1) r := by
      show (k, x) :: lv_args (if x.category = 2 then k + 2 else k + 1) r = _
      rw [if_neg (by omega)]
    rw [e]
    cases j with
    | zero =>
      have hv : x = v := by simpa using hv
      rw [hv]
      exact List.mem_cons_self
    | succ j =>
      have := ih (fun w hw => h w (List.mem_cons_of_mem _ hw)) (k + 1) j v (by simpa using hv)
      rw [show k + (j + 1) = k + 1 + j by omega]
      exact List.mem_cons_of_mem _ this
theorem am_mck_all {j : Nat} (h : am_mck j = true) :
    (am_has (am_mp j).1 (.code (am_nm j) (am_by j) (am_ml j) (am_rt j)) = true ∧ am_has (am_mp j).2.1 (.initialized (am_nm j).cls) = true ∧ plainName (am_nm j).cls = true) ∧
    (am_kd j = 1 → am_has (am_mp j).2.2.1 (.static (am_nm j)) = true) ∧ (am_kd j ≠ 1 → am_has (am_mp j).2.2.1 (.instanceMethod (am_nm j)) = true) ∧ (am_kd j = 0 → am_has (am_mp j).2.2.2 (.selects (am_nm j).cls (am_nm j) (am_nm j)) = true) ∧
    (am_kd j ≠ 1 → ∃ c, am_rk j = some c ∧ c < am_cls.length ∧ (am_cl1 c).1 = (am_nm j).cls ∧ 0 < am_na_ j) ∧ (am_kd j = 2 → (am_nm j).name = "<init>" ∧ am_rt j = none) ∧
    ((am_nm j).cls ≠ "java/lang/invoke/MethodHandle" ∧ (am_nm j).cls ≠ "java/lang/invoke/VarHandle") ∧ (parseMethodDescriptor (am_nm j).desc).map (fun d => d.parameters.length) = some (am_na_ j - (bif Nat.beq (am_kd j) 1 then 0 else 1)) ∧
    am_ml j ≤ 20 ∧ am_na_ j ≤ am_ml j ∧ am_maxl j = am_ml j ∧ am_own j = (am_nm j).cls := by
  unfold am_mck at h
  simp only [Bool.and_eq_true, decide_eq_true_eq, and_assoc] at h
  obtain ⟨a1, a2, a3, a4, a5, a6, a7, a8, a9, b1, b2, b3, b4, b5, b6, b7⟩ := h
  refine ⟨⟨a1, a2, a7⟩, fun k => ?_, fun k => ?_, fun k => ?_, fun k => ?_, fun k => ?_, ⟨a8, a9⟩, b1, Nat.le_of_ble_eq_true b2, Nat.le_of_ble_eq_true b3, Nat.eq_of_beq_eq_true b4, b6⟩
  · rw [k] at a3; exact a3
  · have : Nat.beq (am_kd j) 1 = false := by
      cases z : Nat.beq (am_kd j) 1
      · rfl
      · exact absurd (Nat.eq_of_beq_eq_true z) k
    rw [this] at a3; exact a3
  · rw [k] at a4; exact a4
  · have : Nat.beq (am_kd j) 1 = false := by
      cases z : Nat.beq (am_kd j) 1
      · rfl
      · exact absurd (Nat.eq_of_beq_eq_true z) k
    rw [this] at a5
    have a5 : (match am_rk j with
      | some c => Nat.blt c am_cls.length && decide ((am_cl1 c).1 = (am_nm j).cls) && Nat.blt 0 (am_na_ j)
      | none => false) = true := a5
    split at a5
    · rename_i c hc
      simp only [Bool.and_eq_true, decide_eq_true_eq] at a5
      simp only [and_assoc] at a5
      exact ⟨c, hc, Nat.le_of_ble_eq_true a5.1, a5.2.1, Nat.le_of_ble_eq_true a5.2.2⟩
    · cases a5
  · rw [k] at a6
    have a6 : (decide ((am_nm j).name = "<init>") && decide (am_rt j = none)) = true := a6
    simp only [Bool.and_eq_true, decide_eq_true_eq] at a6
    exact a6
theorem am_la_ok {j : Nat} (h : am_la1 j = true) : 2 ≤ am_ml j ∧ am_na_ j = 1 ∧ am_lp j 0 = true := by
  have e : j = 102 := Nat.eq_of_beq_eq_true h
  subst e
  decide +kernel
/-- what the arguments of a call give its first frame -/
theorem am_args {b base j : Nat} {As : List Value} (hlen : As.length = am_na_ j) (hnm : am_na_ j ≤ am_ml j) (hcat : am_cat As = am_na_ j ∨ am_la j As = true) : (lg_sl (As.map (am_cv (am_ad b base)))).length ≤ am_ml j ∧ (∀ i v, As[i]? = some v → (i, am_cv (am_ad b base) v) ∈ lv_args 0 (As.map (am_cv (am_ad b base)))) ∧ ∀ i x, As[i]? = some (.long x) → am_lp j i = true := by
  rcases hcat with hcat | hla
  · have h1 : ∀ v ∈ As.map (am_cv (am_ad b base)), v.category = 1 := by
      intro v hv
      obtain ⟨w, hw, rfl⟩ := List.mem_map.mp hv
      rw [am_cv_cat]
      exact am_cat_one (by omega) w hw
    refine ⟨by rw [am_sl_len h1, List.length_map]; omega, fun i v hi => ?_, fun i x hi => ?_⟩
    · have := am_lv_args h1 0 i (am_cv (am_ad b base) v) (by rw [List.getElem?_map, hi]; rfl)
      rw [Nat.zero_add] at this
      exact this
    · have := am_cat_one (by omega) _ (List.mem_of_getElem? hi)
      cases this
  · unfold am_la at hla
    split at hla
    · rename_i y r
      obtain ⟨k1, k2, k3⟩ := am_la_ok hla
      have hr : r = [] := by
        cases r with
        | nil => rfl
        | cons _ _ => rw [k2] at hlen; simp at hlen
      subst hr
      refine ⟨k1, fun i v hi => ?_, fun i x hi => ?_⟩
      · cases i with
        | zero => cases hi; exact List.mem_cons_self
        | succ i => simp at hi
      · cases i with
        | zero => exact k3
        | succ i => simp at hi
    · cases hla
theorem am_met_of (htab : am_tab) {l : Launch} {D : va_G} {ky : Nat → ClassId} {b base : Nat} {xs : List Int32} {n : Nat} (hs : am_snd l D ky b base xs n) : am_mt l D ky b base xs n := by
  intro j As h r h' hj hlaw hcat hlen hrun
  obtain ⟨⟨m1, m2, m3⟩, m4, m5, m6, m7, m8, m9, m10, m11, m12, m13, m14⟩ := am_mck_all (htab.2.1 j hj hlaw)
  have hgr := am_run_gr n _ _ _ hrun
  have hgr1 : h.length ≤ h'.length := hgr.1
  have hgr2 : am_sl h ≤ am_sl h' := hgr.2
  refine Met.ofW (cc := am_by j) (maxL := am_ml j) (ret := am_rt j) m3 rfl ?_
  intro p e s m args below meth c s₁ B hml hv
  obtain ⟨rfl, hok, hh⟩ := hv
  have hx := B.exec
  have hb := B.bytes
  have hr := B.returns
  have hown : s.vm.findClass (am_own j) = some m.cls := by rw [m14]; exact findClass_of_methodNamed B.named
  have hlocks := B.notSynchronized
  have hname : (am_nm j).name = "<init>" → meth.name = "<init>" := fun z => (name_of_methodNamed B.named B.method).1.trans z
  rw [lg_entry_eq]
  obtain ⟨h1, h2, h3⟩ := am_args (b := b) (base := base) hlen m12 hcat
  have hl := lv_entry (As.map (am_cv (am_ad b base))) (n := am_ml j) h1
  have hl2 := am_ls_sub (ρ := am_ad b base) (L := am_l0 j As) hl (fun i v hi hv => by
    unfold am_l0 at hi
    rw [List.getElem?_append] at hi
    split at hi
    · exact h2 i v hi
    · have := List.eq_of_mem_replicate (List.mem_of_getElem? hi)
      rw [this] at hv
      cases hv)
  refine hs j 0 (am_l0 j As) [] h r h' hj hrun (h'.length - h.length) (am_sl h' - am_sl h) ⟨hx, hb, hml, hr, hown, hname⟩ hok (Nat.le_refl _) (Nat.le_refl _) hh va_S.rf hl2 (fun i x hi => by
    unfold am_l0 at hi
    rw [List.getElem?_append] at hi
    split at hi
    · exact h3 i x hi
    · have := List.eq_of_mem_replicate (List.mem_of_getElem? hi)
      cases this) (by omega) (by omega) (Nat.le_refl _) (Nat.le_refl _) ?_
  intro pc' ls' H' locs' hh' hS' hend
  match r, hend with
  | some (.int x), hend =>
    obtain ⟨hd, h2 | ⟨h2, h3⟩⟩ := hend
    · exact W.zret (ty := .int) hx hb (by rw [hr]; exact h2) rfl (fun t ht hW => ⟨⟨x, (), rfl, rfl, show am_hp D ky b base xs h' t.heap by rw [ht]; exact hh'⟩, hS'.F ht⟩) hS'.2.2 hd hlocks
    · exact W.zret (ty := .boolean) hx hb (by rw [hr]; exact h2) (by rcases h3 with h3 | h3 <;> subst h3 <;> rfl) (fun t ht hW => ⟨⟨x, (), rfl, rfl, show am_hp D ky b base xs h' t.heap by rw [ht]; exact hh'⟩, hS'.F ht⟩) hS'.2.2 hd hlocks
  | some (.long x), hend =>
    exact W.lret hx hb (by rw [hr]; exact hend.2) (fun t ht hW => ⟨⟨x, (), rfl, rfl, show am_hp D ky b base xs h' t.heap by rw [ht]; exact hh'⟩, hS'.F ht⟩) hS'.2.2 hend.1 hlocks
  | none, hend =>
    exact W.vret hx hb (by rw [hr]; exact hend.2) (fun t ht hW => ⟨⟨(), rfl, trivial, show am_hp D ky b base xs h' t.heap by rw [ht]; exact hh'⟩, hS'.F ht⟩) hS'.2.2 hend.1 hlocks

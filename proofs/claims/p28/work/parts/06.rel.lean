/-! HOW THE ABSTRACT HEAP LIES IN THE MACHINE'S: place 0 is the script's address b, place k + 1 the address base + k -/
theorem am_okw_keep {w : Cond} (h : am_okw w = true) {s U : State} (hW : s.WarmedH U.vm) (hs : w.before #[] s = true) : w.before #[] U = true := by
  cases w with
  | fieldLinkNest a i b n d o => exact va_Nw.warmF hW hs
  | methodLinkNest a i x o => exact va_Nw.warmM hW hs
  | arrayOver ty =>
    cases ty with
    | object C => exact va_AO.moved hW.alike hs
    | _ => simp [am_okw, goodWord, Cond.onTables] at h
  | _ => exact word_at hW (good_of_word h) hs
theorem am_okw_at {w : Cond} (h : am_okw w = true) {s U : State} (hv : s.vm = U.vm) {args args' : Array Value} (hs : w.before args s = true) : w.before args' U = true := by
  cases w with
  | fieldLinkNest a i b n d o => exact va_tabs rfl hv hs
  | methodLinkNest a i x o => exact va_tabs rfl hv hs
  | arrayOver ty =>
    cases ty with
    | object C => 
      have hs : va_AO C s := hs
      exact va_AO.moved (by rw [hv]; exact Vm.Alike.refl _) hs
    | _ => simp [am_okw, goodWord, Cond.onTables] at h
  | arrayClass ty =>
    have e : (Cond.arrayClass ty).before args s = (Cond.arrayClass ty).before args' U := by
      simp only [Cond.before, Cond.holds, Cond.value, hv]
    rw [← e]; exact hs
  | _ => first | exact va_tabs rfl hv hs | exact absurd (show false = true from h) (by decide)
/-- the tables' words hold -/
def am_T (U : State) : Prop := ∀ w ∈ lw_tbl, am_okw w = true → w.before #[] U = true
theorem am_T.warm {s U : State} (hW : s.WarmedH U.vm) (h : am_T s) : am_T U := fun w hw ho => am_okw_keep ho hW (h w hw ho)
theorem am_T.same {s U : State} (hv : s.vm = U.vm) (h : am_T s) : am_T U := fun w hw ho => am_okw_at ho hv (h w hw ho)
theorem am_has_at {p : Nat} {w : Cond} (h : am_has p w = true) {s : State} (hT : am_T s) (args : Array Value) : w.before args s = true := by
  have h2 := Bool.and_eq_true_iff.mp h
  exact am_okw_at h2.2 rfl (hT w (List.mem_of_getElem? (of_decide_eq_true h2.1)) h2.2)
theorem am_has_good {p : Nat} {w : Cond} (h : am_has p w = true) : am_okw w = true := (Bool.and_eq_true_iff.mp h).2
def am_ad (b base : Nat) (k : Nat) : Nat := match k with
  | 0 => b
  | j + 1 => base + j
def am_cv (ρ : Nat → Nat) (v : Value) : Value := match v with
  | .ref k => .ref (ρ k)
  | v => v
def am_or (ρ : Nat → Nat) (v : Value) : Option Nat := match v with
  | .ref k => some (ρ k)
  | _ => none
def am_cc (ky : Nat → ClassId) (ρ : Nat → Nat) (c : am_C) : va_E := match c with
  | .inl (t, l) => .inl (ky t, l.length, .inl (fun j => l.getD j 0))
  | .inr (c, vs) => bif Nat.ble 100 c then .inl (ky c, vs.length, .inr (.inr (.inr (.inr (fun j => am_or ρ (vs.getD j .null)))))) else .inr (c, vs.map (am_cv ρ))
def am_ws (ky : Nat → ClassId) (b base : Nat) (h : am_H) : va_W := (h.drop 1).mapIdx (fun k c => (base + k, am_cc ky (am_ad b base) c))
theorem am_ws_get {ky : Nat → ClassId} {b base : Nat} {h : am_H} (k : Nat) : (am_ws ky b base h)[k]? = (h[k + 1]?).map (fun c => (base + k, am_cc ky (am_ad b base) c)) := by
  unfold am_ws
  rw [List.getElem?_mapIdx, List.getElem?_drop, Nat.add_comm 1 k]
theorem am_ws_set {ky : Nat → ClassId} {b base : Nat} {h : am_H} (k : Nat) (c : am_C) : (am_ws ky b base h).set k (base + k, am_cc ky (am_ad b base) c) = am_ws ky b base (h.set (k + 1) c) := by
  apply List.ext_getElem?
  intro j
  rw [am_ws_get, List.getElem?_set, List.getElem?_set]
  by_cases hj : k = j
  · subst hj
    have e : (am_ws ky b base h).length = h.length - 1 := by simp [am_ws]
    rw [if_pos rfl, if_pos rfl, e]
    by_cases hl : k + 1 < h.length
    · rw [if_pos (by omega), if_pos hl]; rfl
    · rw [if_neg (by omega), if_neg hl]; rfl
  · rw [if_neg hj, if_neg (by omega), am_ws_get]
theorem am_ws_app {ky : Nat → ClassId} {b base : Nat} {h : am_H} (h0 : 0 < h.length) (c : am_C) : am_ws ky b base h ++ [(base + (h.length - 1), am_cc ky (am_ad b base) c)] = am_ws ky b base (h ++ [c]) := by
  apply List.ext_getElem?
  intro j
  have e : (am_ws ky b base h).length = h.length - 1 := by simp [am_ws]
  rw [am_ws_get, List.getElem?_append, List.getElem?_append, e]
  by_cases hl : j < h.length - 1
  · rw [if_pos hl, if_pos (by omega), am_ws_get]
  · rw [if_neg hl, if_neg (by omega)]
    rcases Nat.eq_or_lt_of_le (Nat.le_of_not_lt hl) with q | q
    · rw [← q, Nat.sub_self, show h.length - 1 + 1 - h.length = 0 by omega]; rfl
    · have h1 : ([(base + (h.length - 1), am_cc ky (am_ad b base) c)] : va_W)[j - (h.length - 1)]? = none := List.getElem?_eq_none (by simp; omega)
      have h2 : ([c] : List am_C)[j + 1 - h.length]? = none := List.getElem?_eq_none (by simp; omega)
      rw [h1, h2]; rfl
theorem am_ws_D {ky : Nat → ClassId} {b base : Nat} (h : am_H) : va_D (fun q : Nat => base ≤ q) (am_ws ky b base h) := by
  have key : ∀ (k : Nat) (q : Nat × va_E), (am_ws ky b base h)[k]? = some q → q.1 = base + k := by
    intro k q hq
    rw [am_ws_get] at hq
    cases e : h[k + 1]? with
    | none => rw [e] at hq; cases hq
    | some c => rw [e] at hq; cases hq; rfl
  refine ⟨fun i j p q hi hj hpq => ?_, fun k q hk => ?_⟩
  · have h1 := key i p hi; have h2 := key j q hj; omega
  · have h1 := key k q hk
    show base ≤ q.1
    omega
/-- the kinds of arrays -/
def am_tys (ky : Nat → ClassId) : List (ClassId × FieldType) := [(ky 0, .int), (ky 1, .char), (ky (am_qc + 100), .object (am_cl1 am_qc).1)]
/-- the abstract heap h lies in H -/
def am_hp (D : va_G) (ky : Nat → ClassId) (b base : Nat) (xs : List Int32) (h : am_H) (H : Heap) : Prop :=
  va_P D am_cls (am_ws ky b base h) H ∧ H.size + 1 = base + h.length ∧ h[0]? = some (.inl (7, xs))
/-- what holds of a state at a method's start -/
def am_ok (D : va_G) (ky : Nat → ClassId) (b base : Nat) (xs : List Int32) (U : State) : Prop :=
  am_T U ∧ va_K D am_cls (am_tys ky) U ∧ va_X b xs.length (fun j => xs.getD j 0) U U.heap ∧ b < base ∧ base ≤ U.heap.size
theorem am_ok.calling {D : va_G} {ky : Nat → ClassId} {b base : Nat} {xs : List Int32} {U : State} (h : am_ok D ky b base xs U) (g : JFrame) (mk : MethodId) (a : Array Value) : am_ok D ky b base xs (U.calling g mk a) :=
  ⟨am_T.same (s := U) (U := U.calling g mk a) rfl h.1, va_K.moved (u := U) (U := U.calling g mk a) (Vm.Alike.refl U.vm) h.2.1, va_X.moved (u := U) (U := U.calling g mk a) (Vm.Alike.refl U.vm) h.2.2.1, h.2.2.2⟩
/-- in a state of the same method: another heap, in which nothing below base is changed -/
theorem am_ok.moved {D : va_G} {ky : Nat → ClassId} {b base : Nat} {xs : List Int32} {s U : State} (h : am_ok D ky b base xs s) (hW : s.WarmedH U.vm) {H : Heap} {locs : List Loc} (hS : va_S (fun q : Nat => base ≤ q) s.heap H locs) (hU : U.heap = H) : am_ok D ky b base xs U := by
  obtain ⟨h1, h2, h3, h4, h5⟩ := h
  refine ⟨h1.warm hW, va_K.moved hW.alike h2, ?_, h4, by rw [hU]; exact Nat.le_trans h5 hS.1⟩
  refine va_X.kept (va_X.moved hW.alike h3) ?_
  rw [hU]
  exact hS.2.1 b (Nat.lt_of_lt_of_le h4 h5) (Nat.not_le.mpr h4)
/-- locals -/
def am_nf (v : Value) : Bool := match v with
  | .float _ => false
  | .double _ => false
  | .retAddr _ => false
  | _ => true
def am_ls (ρ : Nat → Nat) (k : Nat) (L : List Value) : List (Nat × Value) := match L with
  | [] => []
  | v :: r => bif am_nf v then (k, am_cv ρ v) :: am_ls ρ (k + 1) r else am_ls ρ (k + 1) r
theorem am_ls_mem {ρ : Nat → Nat} {L : List Value} {k : Nat} {q : Nat × Value} : q ∈ am_ls ρ k L ↔ ∃ j v, L[j]? = some v ∧ am_nf v = true ∧ q = (k + j, am_cv ρ v) := by
  induction L generalizing k with
  | nil => simp [am_ls]
  | cons v r ih =>
    constructor
    · intro h
      unfold am_ls at h
      cases e : am_nf v <;> rw [e] at h
      · obtain ⟨j, w, h1, h2, h3⟩ := ih.mp h
        exact ⟨j + 1, w, by simpa using h1, h2, by rw [h3]; congr 1; omega⟩
      · rcases List.mem_cons.mp h with h | h
        · exact ⟨0, v, rfl, e, h⟩
        · obtain ⟨j, w, h1, h2, h3⟩ := ih.mp h
          exact ⟨j + 1, w, by simpa using h1, h2, by rw [h3]; congr 1; omega⟩
    · rintro ⟨j, w, h1, h2, h3⟩
      unfold am_ls
      cases j with
      | zero =>
        have h1 : v = w := by simpa using h1
        subst h1
        rw [h2]
        exact List.mem_cons.mpr (Or.inl h3)
      | succ j =>
        have : q ∈ am_ls ρ (k + 1) r := ih.mpr ⟨j, w, by simpa using h1, h2, by rw [h3]; congr 1; omega⟩
        cases am_nf v
        · exact this
        · exact List.mem_cons.mpr (Or.inr this)
theorem am_ls_at {ρ : Nat → Nat} {L : List Value} {ls : Array Slot} {n : Nat} (h : lv_has ls n (am_ls ρ 0 L)) {i : Nat} {v : Value} (hi : L[i]? = some v) (hv : am_nf v = true) : ls[i]? = some (.val (am_cv ρ v)) := h.2.2 (i, am_cv ρ v) (am_ls_mem.mpr ⟨i, v, hi, hv, by simp⟩)
theorem am_ls_sub {ρ : Nat → Nat} {L : List Value} {ls : Array Slot} {n : Nat} {l : List (Nat × Value)} (h : lv_has ls n l) (hl : ∀ j v, L[j]? = some v → am_nf v = true → (j, am_cv ρ v) ∈ l) : lv_has ls n (am_ls ρ 0 L) := by
  refine ⟨h.1, h.2.1, fun q hq => ?_⟩
  obtain ⟨j, v, h1, h2, h3⟩ := am_ls_mem.mp hq
  rw [h3, Nat.zero_add]
  exact h.2.2 _ (hl j v h1 h2)
theorem am_cv_cat {ρ : Nat → Nat} (v : Value) : (am_cv ρ v).category = v.category := by cases v <;> rfl
theorem am_ls_old {ρ : Nat → Nat} {L : List Value} {i j : Nat} {u : Value} (hl : ∀ j x, i = j + 1 → L[j]? ≠ some (.long x)) (hj : L[j]? = some u) (hu : am_nf u = true) : ¬ (j + 1 = i ∧ u.category = 2) := by
  rintro ⟨q1, q2⟩
  cases u with
  | long x => exact hl j x q1.symm hj
  | double x => cases hu
  | _ => cases q2
theorem am_ls_st1 {ρ : Nat → Nat} {L : List Value} {ls : Array Slot} {n i : Nat} {v w : Value} (hl : ∀ j x, i = j + 1 → L[j]? ≠ some (.long x)) (hw : am_cv ρ v = w) (h : lv_has ls n ((i, w) :: (am_ls ρ 0 L).filter (fun q => !(q.1 == i) && !(q.1 + 1 == i && q.2.category == 2)))) : lv_has ls n (am_ls ρ 0 (am_st1 L i v)) := by
  refine am_ls_sub h fun j u hj hu => ?_
  unfold am_st1 at hj
  rw [List.getElem?_set] at hj
  by_cases q : i = j
  · rw [if_pos q] at hj
    split at hj
    · cases hj; subst q; rw [hw]; exact List.mem_cons_self
    · cases hj
  · rw [if_neg q] at hj
    have h2 := am_ls_old (ρ := ρ) hl hj hu
    refine List.mem_cons.mpr (Or.inr (List.mem_filter.mpr ⟨am_ls_mem.mpr ⟨j, u, hj, hu, by simp⟩, ?_⟩))
    simp only [am_cv_cat]
    simp only [Bool.and_eq_true, Bool.not_eq_true', beq_eq_false_iff_ne, ne_eq, Bool.and_eq_false_imp, beq_iff_eq]
    exact ⟨fun z => q z.symm, fun z1 z2 => h2 ⟨z1, z2⟩⟩
theorem am_ls_st2 {ρ : Nat → Nat} {L : List Value} {ls : Array Slot} {n i : Nat} {v w : Value} (hl : ∀ j x, i = j + 1 → L[j]? ≠ some (.long x)) (hw : am_cv ρ v = w) (h : lv_has ls n ((i, w) :: (am_ls ρ 0 L).filter (fun q => !(q.1 == i) && (!(q.1 == i + 1) && !(q.1 + 1 == i && q.2.category == 2))))) : lv_has ls n (am_ls ρ 0 (am_st2 L i v)) := by
  refine am_ls_sub h fun j u hj hu => ?_
  unfold am_st2 at hj
  rw [List.getElem?_set] at hj
  by_cases q : i + 1 = j
  · rw [if_pos q] at hj
    split at hj
    · cases hj; cases hu
    · cases hj
  · rw [if_neg q, List.getElem?_set] at hj
    by_cases q2 : i = j
    · rw [if_pos q2] at hj
      split at hj
      · cases hj; subst q2; rw [hw]; exact List.mem_cons_self
      · cases hj
    · rw [if_neg q2] at hj
      have h2 := am_ls_old (ρ := ρ) hl hj hu
      refine List.mem_cons.mpr (Or.inr (List.mem_filter.mpr ⟨am_ls_mem.mpr ⟨j, u, hj, hu, by simp⟩, ?_⟩))
      simp only [am_cv_cat]
      simp only [Bool.and_eq_true, Bool.not_eq_true', beq_eq_false_iff_ne, ne_eq, Bool.and_eq_false_imp, beq_iff_eq]
      exact ⟨fun z => q2 z.symm, fun z => q z.symm, fun z1 z2 => h2 ⟨z1, z2⟩⟩
/-- longs lie in their places alone -/
def am_lg (i : Nat) (L : List Value) : Prop := ∀ (j : Nat) x, L[j]? = some (.long x) → am_lp i j = true
theorem am_lg_no {i a : Nat} {L : List Value} (h : am_lg i L) (hq : am_lq i a = true) : ∀ j x, a = j + 1 → L[j]? ≠ some (.long x) := by
  intro j x e hj
  subst e
  have h1 := h j x hj
  rcases Bool.or_eq_true_iff.mp hq with q | q
  · cases q
  · rw [show j + 1 - 1 = j by omega, h1] at q; cases q
theorem am_lg_no' {i a : Nat} {L : List Value} (h : am_lg i L) (hq : (am_lq i a || am_dl i a) = true) (hd : (am_dl i a && !(am_nl L a)) = false) : ∀ j x, a = j + 1 → L[j]? ≠ some (.long x) := by
  cases e : am_lq i a with
  | true => exact am_lg_no h e
  | false =>
    rw [e, Bool.false_or] at hq
    rw [hq, Bool.true_and, Bool.not_eq_false'] at hd
    intro j x ha hj
    subst ha
    unfold am_nl at hd
    simp only [hj] at hd
    cases hd
theorem am_lg_st1 {i a : Nat} {L : List Value} {v : Value} (h : am_lg i L) (hv : ∀ x, v ≠ .long x) : am_lg i (am_st1 L a v) := by
  intro j x hj
  unfold am_st1 at hj
  rw [List.getElem?_set] at hj
  split at hj
  · split at hj
    · cases hj; exact absurd rfl (hv x)
    · cases hj
  · exact h j x hj
theorem am_lg_st2 {i a : Nat} {L : List Value} {v : Value} (h : am_lg i L) (ha : am_lp i a = true) : am_lg i (am_st2 L a v) := by
  intro j x hj
  unfold am_st2 at hj
  rw [List.getElem?_set] at hj
  split at hj
  · split at hj
    · cases hj
    · cases hj
  · rw [List.getElem?_set] at hj
    split at hj
    · rename_i q; rw [← q]; exact ha
    · exact h j x hj

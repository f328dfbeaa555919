theorem am_in_lt {i : Int32} {n : Nat} (h : am_in i n = true) : i.toNatClampNeg < n := Nat.le_of_ble_eq_true (Bool.and_eq_true_iff.mp h).2
theorem am_getD_at {l : List Int32} {k : Nat} {x : Int32} (h : l[k]? = some x) : l.getD k 0 = x := by rw [List.getD_eq_getElem?_getD, h]; rfl
theorem am_upd_set {l : List Int32} {k : Nat} {x : Int32} (hk : k < l.length) : upd (fun j => l.getD j 0) k x = fun j => (l.set k x).getD j 0 := by
  funext j
  simp only [upd, List.getD_eq_getElem?_getD, List.getElem?_set]
  by_cases hj : j = k
  · subst hj
    simp [hk]
  · rw [if_neg hj, if_neg (fun q => hj q.symm)]
theorem am_up_set {ρ : Nat → Nat} {vs : List Value} {k v : Nat} (hk : k < vs.length) : va_up (fun j => am_or ρ (vs.getD j .null)) k (some (ρ v)) = fun j => am_or ρ ((vs.set k (.ref v)).getD j .null) := by
  funext j
  simp only [va_up, List.getD_eq_getElem?_getD, List.getElem?_set]
  by_cases hj : j = k
  · subst hj
    simp [hk, am_or]
  · rw [if_neg hj, if_neg (fun q => hj q.symm)]
theorem am_cpy_fun {f g : List Int32} {sp dp n : Nat} (hg : dp + n ≤ g.length) : va_cpy (fun j => f.getD j 0) (fun j => g.getD j 0) sp dp n = fun j => (am_cpl f g sp dp n).getD j 0 := by
  funext j
  simp only [va_cpy, am_cpl, List.getD_eq_getElem?_getD, List.getElem?_map]
  by_cases hj : j < g.length
  · rw [List.getElem?_range hj]; rfl
  · have e1 : (List.range g.length)[j]? = none := List.getElem?_eq_none (by simpa using Nat.le_of_not_lt hj)
    have e2 : g[j]? = none := List.getElem?_eq_none (Nat.le_of_not_lt hj)
    rw [e1, if_neg (by omega), e2]; rfl
section AMR
variable {p : Program} {l : Launch} {e : Env} {R : Room} {s : State} {m : MethodId} {args : Array Value} {below : List Frame} {meth : Method} {c : Code} {H : Heap} {locs : List Loc} {cells slots : Nat} {Q : State → Prop} {pc : Nat} {ls : Array Slot} {rest : List Value} {cc : ByteArray}
variable {D : va_G} {ky : Nat → ClassId} {b base : Nat} {xs : List Int32} {h : am_H} {own : String} {a : Nat}
theorem am_rt_al (hx : p.tables.exec = Jvm.exec) (hb : c.code = cc) (hok : am_ok D ky b base xs s) (hh : am_hp D ky b base xs h H) (hS : va_S (fun q : Nat => base ≤ q) s.heap H locs) {i x : Int32} (hr : am_al h 0 a i = some x) (hdg : decode cc pc = .ok (.iaload, 1))
    (kk : W p l e R s m args below meth c H locs cells slots Q (F0 m (pc + 1) ls (.int x :: rest))) : W p l e R s m args below meth c H locs cells slots Q (F0 m pc ls (.int i :: .ref (am_ad b base a) :: rest)) := by
  unfold am_al at hr
  split at hr
  · rename_i t q hc
    cases g : ((Nat.beq t 0 || (Nat.beq t 7 && (Nat.beq a 0 && Nat.beq 0 0))) && am_in i q.length) <;> rw [g] at hr
    · cases hr
    · obtain ⟨g1, g2⟩ := Bool.and_eq_true_iff.mp g
      have hr : q[i.toNatClampNeg]? = some x := hr
      cases a with
      | zero =>
        rw [hh.2.2] at hc
        cases hc
        rw [← am_getD_at hr] at kk
        exact va_sld (A := fun q : Nat => base ≤ q) hx hb hok.2.2.1 (Nat.lt_of_lt_of_le hok.2.2.2.1 hok.2.2.2.2) (Nat.not_le.mpr hok.2.2.2.1) hS (am_in_vp g2) hdg kk
      | succ k =>
        have g3 : t = 0 := by
          rcases Bool.or_eq_true_iff.mp g1 with z | z
          · exact Nat.eq_of_beq_eq_true z
          · have z2 := (Bool.and_eq_true_iff.mp (Bool.and_eq_true_iff.mp z).2).1
            cases z2
        subst g3
        have hw : (am_ws ky b base h)[k]? = some (base + k, .inl (ky 0, q.length, .inl (fun j => q.getD j 0))) := by rw [am_ws_get, hc]; rfl
        rw [← am_getD_at hr] at kk
        exact va_iald hx hb hok.2.1 hh.1 k 0 hw (by rfl) (am_in_vp g2) hdg kk
  · cases hr
theorem am_rt_cl (hx : p.tables.exec = Jvm.exec) (hb : c.code = cc) (hok : am_ok D ky b base xs s) (hh : am_hp D ky b base xs h H) {i x : Int32} (hr : am_al h 1 a i = some x) (hdg : decode cc pc = .ok (.caload, 1))
    (kk : W p l e R s m args below meth c H locs cells slots Q (F0 m (pc + 1) ls (.int x :: rest))) : W p l e R s m args below meth c H locs cells slots Q (F0 m pc ls (.int i :: .ref (am_ad b base a) :: rest)) := by
  unfold am_al at hr
  split at hr
  · rename_i t q hc
    cases g : ((Nat.beq t 1 || (Nat.beq t 7 && (Nat.beq a 0 && Nat.beq 1 0))) && am_in i q.length) <;> rw [g] at hr
    · cases hr
    · obtain ⟨g1, g2⟩ := Bool.and_eq_true_iff.mp g
      have hr : q[i.toNatClampNeg]? = some x := hr
      have g3 : t = 1 := by
        rcases Bool.or_eq_true_iff.mp g1 with z | z
        · exact Nat.eq_of_beq_eq_true z
        · have z2 := (Bool.and_eq_true_iff.mp (Bool.and_eq_true_iff.mp z).2).2
          cases z2
      subst g3
      obtain ⟨k, rfl, hw⟩ := am_pos hh hc (fun l q => by cases q)
      rw [← am_getD_at hr] at kk
      exact va_cald hx hb hok.2.1 hh.1 k 1 hw (by rfl) (am_in_vp g2) hdg kk
  · cases hr
theorem am_rt_ql (hx : p.tables.exec = Jvm.exec) (hb : c.code = cc) (hok : am_ok D ky b base xs s) (hh : am_hp D ky b base xs h H) {i : Int32} {x : Nat} (hr : am_ql h a i = some x) (hdg : decode cc pc = .ok (.aaload, 1))
    (kk : W p l e R s m args below meth c H locs cells slots Q (F0 m (pc + 1) ls (.ref (am_ad b base x) :: rest))) : W p l e R s m args below meth c H locs cells slots Q (F0 m pc ls (.int i :: .ref (am_ad b base a) :: rest)) := by
  unfold am_ql at hr
  split at hr
  · rename_i t q hc
    cases g : (Nat.beq t (am_qc + 100) && am_in i q.length) <;> rw [g] at hr
    · cases hr
    · obtain ⟨g1, g2⟩ := Bool.and_eq_true_iff.mp g
      have g3 := Nat.eq_of_beq_eq_true g1
      subst g3
      have hr : (match q[i.toNatClampNeg]? with
        | some (.ref x) => some x
        | _ => none) = some x := hr
      split at hr
      · rename_i y hy
        cases hr
        obtain ⟨k, rfl, hw⟩ := am_pos hh hc (fun l q => by cases q)
        have hw : (am_ws ky b base h)[k]? = some (base + k, .inl (ky (am_qc + 100), q.length, .inr (.inr (.inr (.inr (fun j => am_or (am_ad b base) (q.getD j .null))))))) := hw
        have e1 : am_or (am_ad b base) (q.getD i.toNatClampNeg .null) = some (am_ad b base x) := by rw [List.getD_eq_getElem?_getD, hy]; rfl
        refine va_aldq hx hb hok.2.1 hh.1 k 2 hw (by rfl) (am_in_vp g2) hdg ?_
        show W p l e R s m args below meth c H locs cells slots Q (F0 m (pc + 1) ls (va_rf (am_or (am_ad b base) (q.getD i.toNatClampNeg .null)) :: rest))
        rw [e1]
        exact kk
      · cases hr
  · cases hr
theorem am_rt_len (hx : p.tables.exec = Jvm.exec) (hb : c.code = cc) (hok : am_ok D ky b base xs s) (hh : am_hp D ky b base xs h H) (hS : va_S (fun q : Nat => base ≤ q) s.heap H locs) {x : Int32} (hr : am_len h a = some x) (hdg : decode cc pc = .ok (.arraylength, 1))
    (kk : W p l e R s m args below meth c H locs cells slots Q (F0 m (pc + 1) ls (.int x :: rest))) : W p l e R s m args below meth c H locs cells slots Q (F0 m pc ls (.ref (am_ad b base a) :: rest)) := by
  unfold am_len at hr
  split at hr
  · rename_i t q hc
    cases g : (Nat.ble t 1 || (Nat.beq t 7 && Nat.beq a 0)) <;> rw [g] at hr
    · cases hr
    · cases hr
      cases a with
      | zero =>
        rw [hh.2.2] at hc
        cases hc
        exact va_slen (A := fun q : Nat => base ≤ q) hx hb hok.2.2.1 (Nat.lt_of_lt_of_le hok.2.2.2.1 hok.2.2.2.2) (Nat.not_le.mpr hok.2.2.2.1) hS hdg kk
      | succ k =>
        have g3 : t = 0 ∨ t = 1 := by
          rcases Bool.or_eq_true_iff.mp g with z | z
          · have := Nat.le_of_ble_eq_true z; omega
          · have z2 := (Bool.and_eq_true_iff.mp z).2
            cases z2
        have hw : (am_ws ky b base h)[k]? = some (base + k, .inl (ky t, q.length, .inl (fun j => q.getD j 0))) := by rw [am_ws_get, hc]; rfl
        rcases g3 with g3 | g3
        · subst g3
          exact va_alen hx hb hok.2.1 hh.1 k 0 hw (ty := .int) (by rfl) rfl hdg kk
        · subst g3
          exact va_alen hx hb hok.2.1 hh.1 k 1 hw (ty := .char) (by rfl) rfl hdg kk
  · rename_i t q hc
    cases g : Nat.beq t (am_qc + 100) <;> rw [g] at hr
    · cases hr
    · have g3 := Nat.eq_of_beq_eq_true g
      subst g3
      cases hr
      obtain ⟨k, rfl, hw⟩ := am_pos hh hc (fun l q => by cases q)
      have hw : (am_ws ky b base h)[k]? = some (base + k, .inl (ky (am_qc + 100), q.length, .inr (.inr (.inr (.inr (fun j => am_or (am_ad b base) (q.getD j .null))))))) := hw
      exact va_alen hx hb hok.2.1 hh.1 k 2 hw (ty := .object (am_cl1 am_qc).1) (by rfl) rfl hdg kk
  · cases hr
theorem am_rt_ias (hx : p.tables.exec = Jvm.exec) (hb : c.code = cc) (hok : am_ok D ky b base xs s) (hh : am_hp D ky b base xs h H) (hS : va_S (fun q : Nat => base ≤ q) s.heap H locs) {i v : Int32} {h1 : am_H} (hr : am_as h 0 a i v = some h1) (hdg : decode cc pc = .ok (.iastore, 1))
    (kk : ∀ H1 locs1, am_hp D ky b base xs h1 H1 → va_S (fun q : Nat => base ≤ q) s.heap H1 locs1 → W p l e R s m args below meth c H1 locs1 cells slots Q (F0 m (pc + 1) ls rest)) : W p l e R s m args below meth c H locs cells slots Q (F0 m pc ls (.int v :: .int i :: .ref (am_ad b base a) :: rest)) := by
  obtain ⟨q, hc, hin, rfl⟩ := am_as_spec hr
  obtain ⟨k, rfl, hw⟩ := am_pos hh hc (fun l q => by cases q)
  have hw : (am_ws ky b base h)[k]? = some (base + k, .inl (ky 0, q.length, .inl (fun j => q.getD j 0))) := hw
  have ht : (am_tys ky)[0]? = some (ky 0, .int) := rfl
  refine W.iast hx hb (hh.1 k _ hw) ((hok.2.1.2 0 _ ht).1 q.length (fun j => .int (q.getD j 0))) (fun q => by cases q) (by show ¬ (i < 0 ∨ (arrV _ _ _).slots.size ≤ _); rw [arrV_size]; exact am_in_vp hin) rfl rfl hdg fun H1 e1 e2 e3 => ?_
  refine kk H1 _ (am_hp_set hh (y := .inl (ky 0, q.length, .inl (upd (fun j => q.getD j 0) i.toNatClampNeg v))) ?_ (va_P.set hh.1 (am_ws_D h) hw ?_ e3) e2) (hS.put e2 e3 (Nat.le_add_right _ _))
  · rw [am_upd_set (am_in_lt hin)]
    simp only [am_cc, List.length_set]
  · show H1[base + k]? = some (vp_cell _ _)
    rw [e1, vp_cell_i, vp_cell_i, arrV_store]
    congr 2
    funext j
    by_cases hj : j = i.toNatClampNeg
    · subst hj
      simp [updV, upd, vp_nar]
      try rfl
    · simp [updV, upd, hj]
theorem am_rt_cas (hx : p.tables.exec = Jvm.exec) (hb : c.code = cc) (hok : am_ok D ky b base xs s) (hh : am_hp D ky b base xs h H) (hS : va_S (fun q : Nat => base ≤ q) s.heap H locs) {i v : Int32} {h1 : am_H} (hr : am_as h 1 a i (vp_nar .char v) = some h1) (hdg : decode cc pc = .ok (.castore, 1))
    (kk : ∀ H1 locs1, am_hp D ky b base xs h1 H1 → va_S (fun q : Nat => base ≤ q) s.heap H1 locs1 → W p l e R s m args below meth c H1 locs1 cells slots Q (F0 m (pc + 1) ls rest)) : W p l e R s m args below meth c H locs cells slots Q (F0 m pc ls (.int v :: .int i :: .ref (am_ad b base a) :: rest)) := by
  obtain ⟨q, hc, hin, rfl⟩ := am_as_spec hr
  obtain ⟨k, rfl, hw⟩ := am_pos hh hc (fun l q => by cases q)
  have hw : (am_ws ky b base h)[k]? = some (base + k, .inl (ky 1, q.length, .inl (fun j => q.getD j 0))) := hw
  have ht : (am_tys ky)[1]? = some (ky 1, .char) := rfl
  refine W.cast hx hb (hh.1 k _ hw) ((hok.2.1.2 1 _ ht).1 q.length (fun j => .int (q.getD j 0))) (fun q => by cases q) (by show ¬ (i < 0 ∨ (arrV _ _ _).slots.size ≤ _); rw [arrV_size]; exact am_in_vp hin) rfl rfl hdg fun H1 e1 e2 e3 => ?_
  refine kk H1 _ (am_hp_set hh (y := .inl (ky 1, q.length, .inl (upd (fun j => q.getD j 0) i.toNatClampNeg (vp_nar .char v)))) ?_ (va_P.set hh.1 (am_ws_D h) hw ?_ e3) e2) (hS.put e2 e3 (Nat.le_add_right _ _))
  · rw [am_upd_set (am_in_lt hin)]
    simp only [am_cc, List.length_set]
  · show H1[base + k]? = some (vp_cell _ _)
    rw [e1, vp_cell_i, vp_cell_i, arrV_store]
    congr 2
    funext j
    by_cases hj : j = i.toNatClampNeg
    · subst hj
      simp [updV, upd, vp_nar]
      try rfl
    · simp [updV, upd, hj]
theorem am_rt_qs (hx : p.tables.exec = Jvm.exec) (hb : c.code = cc) (hok : am_ok D ky b base xs s) (hh : am_hp D ky b base xs h H) (hS : va_S (fun q : Nat => base ≤ q) s.heap H locs) (hqc : am_qc < am_cls.length) {i : Int32} {v : Nat} {h1 : am_H} (hr : am_qs h a i v = some h1) (hdg : decode cc pc = .ok (.aastore, 1))
    (kk : ∀ H1 locs1, am_hp D ky b base xs h1 H1 → va_S (fun q : Nat => base ≤ q) s.heap H1 locs1 → W p l e R s m args below meth c H1 locs1 cells slots Q (F0 m (pc + 1) ls rest)) : W p l e R s m args below meth c H locs cells slots Q (F0 m pc ls (.ref (am_ad b base v) :: .int i :: .ref (am_ad b base a) :: rest)) := by
  obtain ⟨q, fs, hc, hin, hv, rfl⟩ := am_qs_spec hr
  obtain ⟨k, rfl, hw⟩ := am_pos hh hc (fun l q => by cases q)
  obtain ⟨k2, rfl, hw2⟩ := am_pos hh hv (fun l q => by cases q)
  have hw : (am_ws ky b base h)[k]? = some (base + k, .inl (ky (am_qc + 100), q.length, .inr (.inr (.inr (.inr (fun j => am_or (am_ad b base) (q.getD j .null))))))) := hw
  have hw2 : (am_ws ky b base h)[k2]? = some (base + k2, .inr (am_qc, fs.map (am_cv (am_ad b base)))) := hw2
  have ht : (am_tys ky)[2]? = some (ky (am_qc + 100), .object (am_cl1 am_qc).1) := rfl
  have hlt := am_in_lt hin
  have h0 : ¬ i < 0 := fun q => am_in_vp hin (Or.inl q)
  obtain ⟨r', hr', cellV, g1, g2, g3, -⟩ := hh.1 k2 _ hw2
  have hcls := (hok.2.1.1 am_qc _ (am_cls_at hqc)).2
  obtain ⟨kA, comp, k1, k2', k3, -⟩ := (hok.2.1.2 2 _ ht).2
  have hcomp : comp = D.1 am_qc := Option.some.inj (k3.symm.trans hcls.1)
  subst hcomp
  obtain ⟨kC, hkC, -⟩ := hcls.2
  refine W.aast hx hb (hh.1 k _ hw) (fun q h => by cases h) (fun h => by cases h) k1 k2' rfl hkC ⟨h0, by show _ < (arrV _ _ _).slots.size; rw [arrV_size]; exact hlt⟩ g1 (fun q h => by rw [g3] at h; cases h) (by rw [g2]; exact hkC) (by rw [g2]; exact va_assign hcls) rfl rfl hdg fun H1 e1 e2 e3 => ?_
  refine kk H1 _ (am_hp_set hh (y := .inl (ky (am_qc + 100), q.length, .inr (.inr (.inr (.inr (va_up (fun j => am_or (am_ad b base) (q.getD j .null)) i.toNatClampNeg (some (base + k2)))))))) ?_ (va_P.set hh.1 (am_ws_D h) hw ?_ e3) e2) (hS.put e2 e3 (Nat.le_add_right _ _))
  · have e4 := am_up_set (ρ := am_ad b base) (v := k2 + 1) hlt
    have e5 : am_ad b base (k2 + 1) = base + k2 := rfl
    rw [e5] at e4
    rw [e4]
    simp only [am_cc, List.length_set]
    rfl
  · show H1[base + k]? = some (vp_cell _ _)
    rw [e1, vp_cell_q, vp_cell_q, arrV_store]
    congr 2
    funext j
    by_cases hj : j = i.toNatClampNeg
    · subst hj
      simp [updV, va_up, va_rf]
      try rfl
    · simp [updV, va_up, hj]
end AMR

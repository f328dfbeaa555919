/-! ROWS: what the heap's instructions do to the abstract heap (each with the machine's heap's size, which the allocation needs) -/
theorem am_cls_len : am_cls.length ≤ 100 := by decide
theorem am_cls_at {k : Nat} (h : k < am_cls.length) : am_cls[k]? = some (am_cl1 k) := by
  unfold am_cl1
  rw [List.getD_eq_getElem?_getD, List.getElem?_eq_getElem h]; rfl
theorem am_cck_lay {k : Nat} (h : am_cck k = true) : ∀ j, j < (am_cl1 k).2.2 → am_has ((am_cp1 k).2.2.getD j 0) (u_lay (am_cl1 k).1 (am_cl1 k).2.1 j) = true ∧ parseFieldDescriptor ((am_cl1 k).2.1 j).2.2.1 = some (am_ty k j) ∧ ((am_cl1 k).2.1 j).1 = (am_cl1 k).1 ∧ (∀ j', j' < (am_cl1 k).2.2 → j ≠ j' → ((am_cl1 k).2.1 j).2.1 ≠ ((am_cl1 k).2.1 j').2.1) ∧ (am_new k)[j]? = some (defaultValue (am_ty k j)) := by
  intro j hj
  have h1 := (Bool.and_eq_true_iff.mp (Bool.and_eq_true_iff.mp h).1).2
  have h2 := List.all_eq_true.mp h1 j (List.mem_range.mpr hj)
  simp only [Bool.and_eq_true, decide_eq_true_eq] at h2
  obtain ⟨⟨⟨⟨a1, a2⟩, a3⟩, a4⟩, a5⟩ := h2
  refine ⟨a1, a2, a3, fun j' hj' hne => ?_, a5⟩
  have h3 := List.all_eq_true.mp a4 j' (List.mem_range.mpr hj')
  simp only [Bool.or_eq_true, decide_eq_true_eq] at h3
  rcases h3 with h3 | h3
  · exact absurd (Nat.eq_of_beq_eq_true h3) hne
  · exact h3
theorem am_cck_ws {k : Nat} (h : am_cck k = true) {s : State} (hT : am_T s) (args : Array Value) : ∀ w ∈ u_ws (am_cl1 k).1 (am_cl1 k).2.1 (am_cl1 k).2.2, w.before args s = true := by
  intro w hw
  obtain ⟨j, hj, rfl⟩ := List.mem_map.mp hw
  exact am_has_at (am_cck_lay h j (List.mem_range.mp hj)).1 hT args
theorem am_pos {D : va_G} {ky : Nat → ClassId} {b base : Nat} {xs : List Int32} {h : am_H} {H : Heap} (hh : am_hp D ky b base xs h H) {a : Nat} {x : am_C} (hc : h[a]? = some x) (hne : ∀ l, x ≠ .inl (7, l)) : ∃ k, a = k + 1 ∧ (am_ws ky b base h)[k]? = some (base + k, am_cc ky (am_ad b base) x) := by
  cases a with
  | zero => rw [hh.2.2] at hc; cases hc; exact absurd rfl (hne xs)
  | succ k => exact ⟨k, rfl, by rw [am_ws_get, hc]; rfl⟩
theorem am_in_vp {i : Int32} {n : Nat} (h : am_in i n = true) : vp_in i n := by
  obtain ⟨h1, h2⟩ := Bool.and_eq_true_iff.mp h
  rintro (q | q)
  · rw [decide_eq_true q] at h1; cases h1
  · have := Nat.le_of_ble_eq_true h2
    omega
theorem am_hp_set {D : va_G} {ky : Nat → ClassId} {b base : Nat} {xs : List Int32} {h : am_H} {H H1 : Heap} (hh : am_hp D ky b base xs h H) {k : Nat} {x : am_C} {y : va_E} (hy : y = am_cc ky (am_ad b base) x) (hP : va_P D am_cls ((am_ws ky b base h).set k (base + k, y)) H1) (hz : H1.size = H.size) : am_hp D ky b base xs (h.set (k + 1) x) H1 := by
  refine ⟨?_, by rw [hz, List.length_set]; exact hh.2.1, by rw [List.getElem?_set_ne (by omega)]; exact hh.2.2⟩
  rw [← am_ws_set, ← hy]
  exact hP
theorem am_hp_app {D : va_G} {ky : Nat → ClassId} {b base : Nat} {xs : List Int32} {h : am_H} {H H1 : Heap} (hh : am_hp D ky b base xs h H) {x : am_C} {y : va_E} (hy : y = am_cc ky (am_ad b base) x) (hP : va_P D am_cls (am_ws ky b base h ++ [(H.size, y)]) H1) (hz : H1.size = H.size + 1) : am_hp D ky b base xs (h ++ [x]) H1 ∧ am_ad b base h.length = H.size := by
  have h0 : 0 < h.length := (List.getElem?_eq_some_iff.mp hh.2.2).1
  have e : H.size = base + (h.length - 1) := by have := hh.2.1; omega
  refine ⟨⟨?_, by rw [hz, List.length_append]; have := hh.2.1; simp; omega, by rw [List.getElem?_append_left h0]; exact hh.2.2⟩, ?_⟩
  · rw [← am_ws_app h0, ← hy, ← e]
    exact hP
  · obtain ⟨n, hn⟩ : ∃ n, h.length = n + 1 := ⟨h.length - 1, by omega⟩
    rw [hn] at e ⊢
    exact e.symm
section AMR
variable {p : Program} {l : Launch} {e : Env} {R : Room} {s : State} {m : MethodId} {args : Array Value} {below : List Frame} {meth : Method} {c : Code} {H : Heap} {locs : List Loc} {cells slots : Nat} {Q : State → Prop} {pc : Nat} {ls : Array Slot} {rest : List Value} {cc : ByteArray}
variable {D : va_G} {ky : Nat → ClassId} {b base : Nat} {xs : List Int32} {h : am_H} {own : String} {a : Nat}
theorem am_rt_get (hx : p.tables.exec = Jvm.exec) (hb : c.code = cc) (hown : s.vm.findClass own = some m.cls) (hok : am_ok D ky b base xs s) (hh : am_hp D ky b base xs h H) {ci k idx q : Nat} (hck : am_cck ci = true) (hfl : am_fl own idx ci k q = true) {fs : List Value} {v : Value} (hc : h[a]? = some (.inr (ci, fs))) (hv : fs[k]? = some v) (hdg : decode cc pc = .ok (.getfield idx, 3))
    (kk : W p l e R s m args below meth c H locs cells slots Q (F0 m (pc + 3) ls (am_cv (am_ad b base) v :: rest))) : W p l e R s m args below meth c H locs cells slots Q (F0 m pc ls (.ref (am_ad b base a) :: rest)) := by
  obtain ⟨h1, h2⟩ := Bool.and_eq_true_iff.mp hfl
  obtain ⟨h3, h4⟩ := Bool.and_eq_true_iff.mp h1
  have hci : ci < am_cls.length := Nat.le_of_ble_eq_true h3
  have hk : k < (am_cl1 ci).2.2 := Nat.le_of_ble_eq_true h4
  obtain ⟨k', rfl, hw⟩ := am_pos hh hc (fun l q => by cases q)
  have hcc : am_cc ky (am_ad b base) (.inr (ci, fs)) = .inr (ci, fs.map (am_cv (am_ad b base))) := by
    have : Nat.ble 100 ci = false := by
      cases z : Nat.ble 100 ci
      · rfl
      · have := Nat.le_of_ble_eq_true z; have := am_cls_len; omega
    simp only [am_cc, this]; rfl
  rw [hcc] at hw
  have hlay := am_cck_lay hck k hk
  have hv' : (fs.map (am_cv (am_ad b base)))[k]? = some (am_cv (am_ad b base) v) := by rw [List.getElem?_map, hv]; rfl
  rcases Bool.or_eq_true_iff.mp h2 with g | g
  · exact va_get (Ts := u_ws (am_cl1 ci).1 (am_cl1 ci).2.1 (am_cl1 ci).2.2) hx hb (am_cck_ws hck hok.1 args) (fun w h => h) hown hok.2.1 hh.1 k' hw (am_cls_at hci) k hk (am_has_at g hok.1 args) (fun x h => by rw [hlay.2.2.1] at h; exact h) hv' hdg kk
  · exact va_getN (Ts := u_ws (am_cl1 ci).1 (am_cl1 ci).2.1 (am_cl1 ci).2.2) hx hb (am_cck_ws hck hok.1 args) (fun w h => h) hown hok.2.1 hh.1 k' hw (am_cls_at hci) k hk (am_has_at g hok.1 args) (fun x h => by rw [hlay.2.2.1] at h; exact h) hv' hdg kk
theorem am_rt_put {i : Nat} (hx : p.tables.exec = Jvm.exec) (hb : c.code = cc) (hown : s.vm.findClass own = some m.cls) (hname : (am_nm i).name = "<init>" → meth.name = "<init>") (hok : am_ok D ky b base xs s) (hh : am_hp D ky b base xs h H) (hS : va_S (fun q : Nat => base ≤ q) s.heap H locs) {ci k idx q : Nat} (hck : am_cck ci = true) (hfl : am_fw i own idx ci k q = true) {fs : List Value} {v : Value} (hc : h[a]? = some (.inr (ci, fs))) (hl : k < fs.length) (hn : narrow (am_ty ci k) (am_cv (am_ad b base) v) = am_cv (am_ad b base) v) (hfit : fits (am_ty ci k) (am_cv (am_ad b base) v) = true) (hdg : decode cc pc = .ok (.putfield idx, 3))
    (kk : ∀ H1 locs1, am_hp D ky b base xs (h.set a (.inr (ci, fs.set k v))) H1 → va_S (fun q : Nat => base ≤ q) s.heap H1 locs1 → W p l e R s m args below meth c H1 locs1 cells slots Q (F0 m (pc + 3) ls rest)) : W p l e R s m args below meth c H locs cells slots Q (F0 m pc ls (am_cv (am_ad b base) v :: .ref (am_ad b base a) :: rest)) := by
  obtain ⟨h1, h2⟩ := Bool.and_eq_true_iff.mp hfl
  obtain ⟨h3, h4⟩ := Bool.and_eq_true_iff.mp h1
  have hci : ci < am_cls.length := Nat.le_of_ble_eq_true h3
  have hk : k < (am_cl1 ci).2.2 := Nat.le_of_ble_eq_true h4
  obtain ⟨k', rfl, hw⟩ := am_pos hh hc (fun l q => by cases q)
  have h100 : Nat.ble 100 ci = false := by
    cases z : Nat.ble 100 ci
    · rfl
    · have := Nat.le_of_ble_eq_true z; have := am_cls_len; omega
  have hcc : ∀ fs, am_cc ky (am_ad b base) (.inr (ci, fs)) = .inr (ci, fs.map (am_cv (am_ad b base))) := by
    intro fs
    simp only [am_cc, h100]; rfl
  rw [hcc] at hw
  have hlay := am_cck_lay hck k hk
  have hts := am_cck_ws hck hok.1 args
  have hin : ∀ w ∈ u_ws (am_cl1 ci).1 (am_cl1 ci).2.1 (am_cl1 ci).2.2, w ∈ u_ws (am_cl1 ci).1 (am_cl1 ci).2.1 (am_cl1 ci).2.2 := fun w h => h
  have hcl := am_cls_at hci
  have hap := va_apart (own := own) hts hin (am_ty ci) (fun j hj => (am_cck_lay hck j hj).2.1) (fun x hx y hy hne => (am_cck_lay hck x hx).2.2.2.1 y hy hne) hok.2.1 hcl
  obtain ⟨r, hr1, cell, q1, q2, q3, q4⟩ := hh.1 k' _ hw
  have hr : r = am_cl1 ci := Option.some.inj (hr1.symm.trans hcl)
  subst hr
  obtain ⟨hSl, hfc, kC, hkC, hkind⟩ := hok.2.1.1 ci _ hcl
  obtain ⟨cf, kf, fi, f, hi, hsl⟩ := hSl k hk
  have hlw := hts _ (hin _ (u_in_lay hk))
  have hst := (u_facts hfc hkC (u_lays hts hin hk) hi).1
  have hsame : s.fieldFound? (am_cl1 ci).1 ((am_cl1 ci).2.1 k).2.1 ((am_cl1 ci).2.1 k).2.2.1 = some (cf, kf, fi, f) := by rw [hlay.2.2.1] at hi; exact hi
  have fin : ∀ H', H'[base + k']? = some (cell.setSlot ((D.2 ci) k) (am_cv (am_ad b base) v)) → H'.size = H.size → (∀ q : Nat, q ≠ base + k' → H'[q]? = H[q]?) → am_hp D ky b base xs (h.set (k' + 1) (.inr (ci, fs.set k v))) H' := by
    intro H' e1 e2 e3
    refine am_hp_set hh (y := .inr (ci, (fs.map (am_cv (am_ad b base))).set k (am_cv (am_ad b base) v))) (by rw [hcc, List.map_set]) (va_P.set hh.1 (am_ws_D h) hw ⟨_, hcl, t_OB.to (V := updV (vp_V (fs.map (am_cv (am_ad b base)))) k (am_cv (am_ad b base) v)) ⟨_, e1, q2, q3, t_set q4 hap hk _⟩ (fun j _ => vp_updV_set (by simpa using hl) _ j)⟩ e3) e2
  cases hfin : ((am_cl1 ci).2.1 k).2.2.2
  · rw [hfin] at h2
    unfold u_lay at hlw
    rw [if_neg (by rw [hfin]; decide)] at hlw
    have h6 := u_store hfc hkC hkind hlw hi hlay.2.1 hn hfit
    rcases Bool.or_eq_true_iff.mp h2 with g | g
    · refine W.putK hx hb (f := f) ⟨hown, am_has_at g hok.1 args, ⟨_, _, _, hsame⟩, hst⟩ (by rw [q2]; exact h6) q1 q3 (by rw [hsl]; exact k2_hasslot (q4 k hk)) rfl rfl hdg fun H' e1 e2 e3 => ?_
      rw [hsl] at e1 ⊢
      exact kk H' _ (fin H' e1 e2 e3) (hS.put e2 e3 (Nat.le_add_right _ _))
    · refine va_WputK hx hb (f := f) hown (am_has_at g hok.1 args) hsame hst (by rw [q2]; exact h6) q1 q3 (by rw [hsl]; exact k2_hasslot (q4 k hk)) rfl rfl hdg fun H' e1 e2 e3 => ?_
      rw [hsl] at e1 ⊢
      exact kk H' _ (fin H' e1 e2 e3) (hS.put e2 e3 (Nat.le_add_right _ _))
  · rw [hfin] at h2
    obtain ⟨h5, h7⟩ := Bool.and_eq_true_iff.mp h2
    obtain ⟨h5, h6⟩ := Bool.and_eq_true_iff.mp h5
    have hin2 : meth.name = "<init>" := hname (of_decide_eq_true h6)
    have hdecl : (am_cl1 ci).1 = own := of_decide_eq_true h7
    unfold u_lay at hlw
    rw [if_pos hfin] at hlw
    have hcf : m.cls = cf := by
      obtain ⟨_, _, c', _, _, _, -, -, hf', -, -, -, hown2, -⟩ := Cond.laysFinal_spec hlw
      have e1 : c' = cf := by have := hi.symm.trans hf'; simp at this; exact this.1.symm
      rw [hlay.2.2.1, hdecl] at hown2
      rw [← e1]; exact Option.some.inj (hown.symm.trans hown2)
    have h6 := u_fits hfc hkC hkind (Or.inr hlw) hi hlay.2.1 hn hfit
    refine W.putFinK hx hb hown (am_has_at h5 hok.1 args) hsame hst hcf hin2 (by rw [q2]; exact h6) q1 q3 (by rw [hsl]; exact k2_hasslot (q4 k hk)) rfl rfl hdg fun H' e1 e2 e3 => ?_
    rw [hsl] at e1 ⊢
    exact kk H' _ (fin H' e1 e2 e3) (hS.put e2 e3 (Nat.le_add_right _ _))
end AMR

section AMR
variable {p : Program} {l : Launch} {e : Env} {R : Room} {s : State} {m : MethodId} {args : Array Value} {below : List Frame} {meth : Method} {c : Code} {H : Heap} {locs : List Loc} {cells slots : Nat} {Q : State → Prop} {pc : Nat} {ls : Array Slot} {rest : List Value} {cc : ByteArray}
variable {D : va_G} {ky : Nat → ClassId} {b base : Nat} {xs : List Int32} {h : am_H} {own : String} {a : Nat}
theorem am_S_new {A : Nat → Prop} {H0 H1 : Heap} (hS : va_S A H0 H locs) (hz : H1.size = H.size + 1) (ho : ∀ q, q < H.size → H1[q]? = H[q]?) : va_S A H0 H1 locs :=
  ⟨Nat.le_trans hS.1 (by omega), fun x h1 h2 => (ho x (Nat.lt_of_lt_of_le h1 hS.1)).trans (hS.2.1 x h1 h2), hS.2.2⟩
theorem am_P_new {ws : va_W} {H1 : Heap} {y : va_E} (hP : va_P D am_cls ws H) (ho : ∀ q, q < H.size → H1[q]? = H[q]?) (hy : va_at D am_cls (H.size, y) H1) : va_P D am_cls (ws ++ [(H.size, y)]) H1 := by
  refine (hP.kept (fun k x hx => ho x.1 ((hP k x hx).lt))).app (fun k x hx => ?_)
  have hz : k < 1 := (List.getElem?_eq_some_iff.mp hx).1
  rw [show k = 0 by omega] at hx
  cases hx
  exact hy
theorem am_rt_new (hx : p.tables.exec = Jvm.exec) (hb : c.code = cc) (hown : s.vm.findClass own = some m.cls) (hok : am_ok D ky b base xs s) (hh : am_hp D ky b base xs h H) (hS : va_S (fun q : Nat => base ≤ q) s.heap H locs) {ci idx q : Nat} (hck : am_cck ci = true) (hci : ci < am_cls.length) (hl : am_has q (.classLink own idx (am_cl1 ci).1) = true) (hcells : cells + 1 ≤ R.cells) (hslots : slots + (am_new ci).length ≤ R.slots) (hdg : decode cc pc = .ok (.new idx, 3))
    (kk : ∀ H1, am_hp D ky b base xs (h ++ [.inr (ci, am_new ci)]) H1 → va_S (fun q : Nat => base ≤ q) s.heap H1 locs → W p l e R s m args below meth c H1 locs (cells + 1) (slots + (am_new ci).length) Q (F0 m (pc + 3) ls (.ref (am_ad b base h.length) :: rest))) : W p l e R s m args below meth c H locs cells slots Q (F0 m pc ls rest) := by
  obtain ⟨h1, h2⟩ := Bool.and_eq_true_iff.mp hck
  obtain ⟨h1, h3⟩ := Bool.and_eq_true_iff.mp h1
  obtain ⟨h1, h4⟩ := Bool.and_eq_true_iff.mp h1
  have hlen : (am_new ci).length = (am_cl1 ci).2.2 := Nat.eq_of_beq_eq_true h2
  have hKn := hok.2.1.1 ci _ (am_cls_at hci)
  have h100 : Nat.ble 100 ci = false := by
    cases z : Nat.ble 100 ci
    · rfl
    · have := Nat.le_of_ble_eq_true z; have := am_cls_len; omega
  have hnr : ∀ v, v ∈ am_new ci → am_cv (am_ad b base) v = v := by
    intro v hv
    obtain ⟨j, hj⟩ := List.getElem?_of_mem hv
    have hjl := (List.getElem?_eq_some_iff.mp hj).1
    have h5 := (am_cck_lay hck j (by omega)).2.2.2.2
    rw [hj] at h5
    cases h5
    cases am_ty ci j <;> rfl
  have hcc : am_cc ky (am_ad b base) (.inr (ci, am_new ci)) = .inr (ci, am_new ci) := by
    simp only [am_cc, h100]
    show Sum.inr (ci, (am_new ci).map (am_cv (am_ad b base))) = _
    rw [List.map_congr_left hnr, List.map_id']
  rw [hlen] at hslots kk
  refine W.newcK hx hb hown (am_has_at hl hok.1 args) (am_has_at h1 hok.1 args) (am_has_at h4 hok.1 args) rfl hdg hcells hslots hKn.2.1 rfl fun H1 kC hkC e1 z1 o1 => ?_
  have hy : va_at D am_cls (H.size, .inr (ci, am_new ci)) H1 := ⟨_, am_cls_at hci, (u_born (am_ty ci) (am_cck_ws hck hok.1 args) (fun w h => h) hKn hkC e1 (fun j hj => (am_cck_lay hck j hj).2.1)).to (fun j hj => by
    have h5 := (am_cck_lay hck j hj).2.2.2.2
    show _ = (am_new ci).getD j .null
    rw [List.getD_eq_getElem?_getD, h5]; rfl)⟩
  obtain ⟨g1, g2⟩ := am_hp_app hh (x := .inr (ci, am_new ci)) hcc.symm (am_P_new hh.1 o1 hy) z1
  have := kk H1 g1 (am_S_new hS z1 o1)
  rw [g2] at this
  exact this
theorem am_rt_na (hx : p.tables.exec = Jvm.exec) (hb : c.code = cc) (hok : am_ok D ky b base xs s) (hh : am_hp D ky b base xs h H) (hS : va_S (fun q : Nat => base ≤ q) s.heap H locs) {t q : Nat} {at_ : ArrayType} {n : Int32} {h1 : am_H} (hl : am_has q (.arrayClass (newarray.typeOf at_)) = true) (ht : (am_tys ky)[t]? = some (ky t, newarray.typeOf at_)) (hdv : defaultValue (newarray.typeOf at_) = .int 0) (hcb : componentBytes (newarray.typeOf at_) ≤ 4) (hnm : ("[" ++ (newarray.typeOf at_).toString) = ("[" ++ (newarray.typeOf at_).toString)) (hra : ∀ cA, va_RA s cA (newarray.typeOf at_) → s.vm.findClass ("[" ++ (newarray.typeOf at_).toString) = some cA) (hr : am_na h t n = some h1) (hcells : cells + 1 ≤ R.cells) (hslots : slots + n.toNatClampNeg ≤ R.slots) (hdg : decode cc pc = .ok (.newarray at_, 2))
    (kk : ∀ H1, am_hp D ky b base xs h1 H1 → va_S (fun q : Nat => base ≤ q) s.heap H1 locs → W p l e R s m args below meth c H1 locs (cells + 1) (slots + n.toNatClampNeg) Q (F0 m (pc + 2) ls (.ref (am_ad b base h.length) :: rest))) : W p l e R s m args below meth c H locs cells slots Q (F0 m pc ls (.int n :: rest)) := by
  obtain ⟨hn, hle, rfl⟩ := am_na_spec hr
  have hb2 : n.toNatClampNeg * componentBytes (newarray.typeOf at_) ≤ 536870912 := Nat.le_trans (Nat.mul_le_mul hle hcb) (by decide)
  refine va_newaK hx hb (am_has_at hl hok.1 args) rfl hdg rfl hn rfl hb2 hcells hslots rfl fun H1 cA e1 z1 o1 hAr hNm => ?_
  have hcA : cA = ky t := by
    have h2 := hra _ (hok.2.1.2 t _ ht).2
    exact Option.some.inj (hNm.symm.trans h2)
  subst hcA
  have hy : va_at D am_cls (H.size, .inl (ky t, n.toNatClampNeg, .inl (fun j => (List.replicate n.toNatClampNeg (0 : Int32)).getD j 0))) H1 := by
    show H1[H.size]? = some (vp_cell _ _)
    rw [e1, vp_cell_i, hdv]
    congr 2
    funext j
    congr 1
    rw [List.getD_eq_getElem?_getD, List.getElem?_replicate]
    split <;> rfl
  obtain ⟨g1, g2⟩ := am_hp_app hh (x := .inl (t, List.replicate n.toNatClampNeg 0)) (by simp only [am_cc, List.length_replicate]) (am_P_new hh.1 o1 hy) z1
  have := kk H1 g1 (am_S_new hS z1 o1)
  rw [g2] at this
  exact this
theorem am_rt_nq (hx : p.tables.exec = Jvm.exec) (hb : c.code = cc) (hown : s.vm.findClass own = some m.cls) (hok : am_ok D ky b base xs s) (hh : am_hp D ky b base xs h H) (hS : va_S (fun q : Nat => base ≤ q) s.heap H locs) {idx q q2 : Nat} {n : Int32} {h1 : am_H} (hl : am_has q (.classLink own idx (am_cl1 am_qc).1) = true) (hl2 : am_has q2 (.arrayOver (.object (am_cl1 am_qc).1)) = true) (hr : am_nq h am_qc n = some h1) (hcells : cells + 1 ≤ R.cells) (hslots : slots + n.toNatClampNeg ≤ R.slots) (hdg : decode cc pc = .ok (.anewarray idx, 3))
    (kk : ∀ H1, am_hp D ky b base xs h1 H1 → va_S (fun q : Nat => base ≤ q) s.heap H1 locs → W p l e R s m args below meth c H1 locs (cells + 1) (slots + n.toNatClampNeg) Q (F0 m (pc + 3) ls (.ref (am_ad b base h.length) :: rest))) : W p l e R s m args below meth c H locs cells slots Q (F0 m pc ls (.int n :: rest)) := by
  obtain ⟨hn, hle, rfl⟩ := am_nq_spec hr
  refine W.anew hx hb hown (am_has_at hl hok.1 args) (am_has_at hl2 hok.1 args) rfl hdg rfl hn (Nat.le_trans (Nat.mul_le_mul_right 4 hle) (by decide)) hcells hslots fun cA kA comp f1 f2 f3 f4 => ?_
  have ht : (am_tys ky)[2]? = some (ky (am_qc + 100), .object (am_cl1 am_qc).1) := rfl
  have hcA : cA = ky (am_qc + 100) := by
    obtain ⟨_, _, -, -, -, h2⟩ := (hok.2.1.2 2 _ ht).2
    exact Option.some.inj (f1.symm.trans h2)
  subst hcA
  generalize hH1 : H.push ({ cls := ky (am_qc + 100), slots := Array.replicate n.toNatClampNeg .null, vm := .none } : Cell) = H1
  have z1 : H1.size = H.size + 1 := by rw [← hH1, Array.size_push]
  have e1 : H1[H.size]? = some (arrV (ky (am_qc + 100)) n.toNatClampNeg (fun _ => .null)) := by rw [← hH1, Array.getElem?_push_size, ← arrV_new]
  have o1 : ∀ q : Nat, q < H.size → H1[q]? = H[q]? := fun q hq => by rw [← hH1, Array.getElem?_push, if_neg (Nat.ne_of_lt hq)]
  have hor : ∀ j, am_or (am_ad b base) ((List.replicate n.toNatClampNeg Value.null).getD j .null) = none := by
    intro j
    rw [List.getD_eq_getElem?_getD, List.getElem?_replicate]
    split <;> rfl
  have hy : va_at D am_cls (H.size, .inl (ky (am_qc + 100), n.toNatClampNeg, .inr (.inr (.inr (.inr (fun j => am_or (am_ad b base) ((List.replicate n.toNatClampNeg Value.null).getD j .null))))))) H1 := by
    show H1[H.size]? = some (vp_cell _ _)
    rw [e1, vp_cell_q]
    congr 2
    funext j
    rw [hor j]; rfl
  obtain ⟨g1, g2⟩ := am_hp_app hh (x := .inr (am_qc + 100, List.replicate n.toNatClampNeg .null)) (by simp only [am_cc, List.length_replicate]; rfl) (am_P_new hh.1 o1 hy) z1
  have := kk H1 g1 (am_S_new hS z1 o1)
  rw [g2] at this
  exact this
theorem am_rt_cp (hx : p.tables.exec = Jvm.exec) (hb : c.code = cc) (hml : c.maxLocals = ls.size) (hown : s.vm.findClass own = some m.cls) (hok : am_ok D ky b base xs s) (hh : am_hp D ky b base xs h H) (hS : va_S (fun q : Nat => base ≤ q) s.heap H locs) {idx q q1 q2 q3 a2 : Nat} (hl : am_has q (.methodLink own idx arraycopyName) = true) (hl1 : am_has q1 (.native arraycopyName) = true) (hl2 : am_has q2 (.static arraycopyName) = true) (hl3 : am_has q3 (.initialized "java/lang/System") = true) {sp dp n : Int32} {h1 : am_H} (hr : am_cp h a sp a2 dp n = some h1) (hframes : 1 ≤ R.frames) (hlocals : 38 ≤ R.locals) (hrest : (rest.map fun v => v.category).sum ≤ 8) (hdg : decode cc pc = .ok (.invokestatic idx, 3))
    (kk : ∀ H1 locs1, am_hp D ky b base xs h1 H1 → va_S (fun q : Nat => base ≤ q) s.heap H1 locs1 → W p l e R s m args below meth c H1 locs1 cells slots Q (F0 m (pc + 3) ls rest)) : W p l e R s m args below meth c H locs cells slots Q (F0 m pc ls (.int n :: .int dp :: .ref (am_ad b base a2) :: .int sp :: .ref (am_ad b base a) :: rest)) := by
  obtain ⟨f, g, hc0, hc1, g1, g2, g3, g4, g5, rfl⟩ := am_cp_spec hr
  obtain ⟨k, rfl, hw⟩ := am_pos hh hc0 (fun l q => by cases q)
  obtain ⟨k2, rfl, hw2⟩ := am_pos hh hc1 (fun l q => by cases q)
  have hw : (am_ws ky b base h)[k]? = some (base + k, .inl (ky 0, f.length, .inl (fun j => f.getD j 0))) := hw
  have hw2 : (am_ws ky b base h)[k2]? = some (base + k2, .inl (ky 0, g.length, .inl (fun j => g.getD j 0))) := hw2
  have ht : (am_tys ky)[0]? = some (ky 0, .int) := rfl
  have nn : ∀ z : Int32, ¬ z < 0 → z.toInt = (z.toNatClampNeg : Int) := by
    intro z hz
    have hz0 : (0 : Int) ≤ z.toInt := by
      have := Int32.not_lt.mp hz
      simpa using Int32.le_iff_toInt_le.mp this
    show z.toInt = ((z.toInt.toNat : Nat) : Int)
    omega
  have hw7 : 2 * 0 + (rest.map fun v => v.category).sum + (nativeFrameWords "java/lang/System" "arraycopy" 5 + 11) ≤ R.locals := by
    have e7 : nativeFrameWords "java/lang/System" "arraycopy" 5 = 7 := by decide +kernel
    rw [e7]
    omega
  intro T hT X
  have hc0 := hh.1 k _ hw
  have hc1 := hh.1 k2 _ hw2
  obtain ⟨-, kk0, hk0, cm0, hkk0⟩ := (hok.2.1.2 0 _ ht).1 f.length (fun j => .int (f.getD j 0))
  obtain ⟨-, kk1, hk1, cm1, hkk1⟩ := (hok.2.1.2 0 _ ht).1 g.length (fun j => .int (g.getD j 0))
  have hc0 : H[base + k]? = some (vp_cell (ky 0) (f.length, .inl (fun j => f.getD j 0))) := hc0
  have hc1 : H[base + k2]? = some (vp_cell (ky 0) (g.length, .inl (fun j => g.getD j 0))) := hc1
  obtain ⟨vm', X', step⟩ := X.arraycopy hx hown (am_has_at hl hok.1 args) (am_has_at hl1 hok.1 args) (am_has_at hl2 hok.1 args) (am_has_at hl3 hok.1 args) (src := base + k) (dst := base + k2) (cs := vp_cell (ky 0) (f.length, .inl (fun j => f.getD j 0))) (cd := vp_cell (ky 0) (g.length, .inl (fun j => g.getD j 0))) (srcPos := sp) (destPos := dp) (n := n) (by rw [hT]; exact hc0) (by rw [hT]; exact hc1)
    (fun _ h => by cases h) (fun _ h => by cases h) (fun h => by cases h) (fun h => by cases h) hk0 hk1 hkk0 hkk1 (by simp [refKind]) g1 g2 g3
    (by rw [nn sp g1, nn n g3]; show ¬ _ > ((arrV (ky 0) f.length (fun j => .int (f.getD j 0))).slots.size : Int); rw [arrV_size]; omega)
    (by rw [nn dp g2, nn n g3]; show ¬ _ > ((arrV (ky 0) g.length (fun j => .int (g.getD j 0))).slots.size : Int); rw [arrV_size]; omega)
    (fun vm₁ _ i hi => by
      have e : (vp_cell (ky 0) (f.length, .inl (fun j => f.getD j 0))).slots.getD (sp.toNatClampNeg + i) .null = .int (f.getD (sp.toNatClampNeg + i) 0) := by
        show (arrV (ky 0) f.length (fun j => .int (f.getD j 0))).slots.getD _ _ = _
        rw [Array.getD_eq_getD_getElem?, arrV_read _ _ (by omega)]
        rfl
      refine ⟨?_, ?_⟩
      · rw [e]
        rfl
      · rw [e]
        exact trivial)
    (g := F0 m pc ls (.int n :: .int dp :: .ref (base + k2) :: .int sp :: .ref (base + k) :: rest)) rfl (by rw [hml]) (rest := rest) rfl (by rw [hb]; exact hdg) hframes hw7
  have e1 : copied (vp_cell (ky 0) (f.length, .inl (fun j => f.getD j 0))) (vp_cell (ky 0) (g.length, .inl (fun j => g.getD j 0))) sp dp n = vp_cell (ky 0) (g.length, .inl (va_cpy (fun j => f.getD j 0) (fun j => g.getD j 0) sp.toNatClampNeg dp.toNatClampNeg n.toNatClampNeg)) := va_copied (fun z => .int z) (ky 0) (ky 0) (fun j => f.getD j 0) (fun j => g.getD j 0) g4
  rw [e1, am_cpy_fun g5] at X' step
  have hl : base + k2 < H.size := (Array.getElem?_eq_some_iff.mp hc1).1
  generalize hce : vp_cell (ky 0) (g.length, .inl (fun j => (am_cpl f g sp.toNatClampNeg dp.toNatClampNeg n.toNatClampNeg).getD j 0)) = ce at X' step
  have hheap : ((T.setVm vm').setCell (base + k2) ce).heap = H.setIfInBounds (base + k2) ce := by rw [← hT]; rfl
  have oq : ∀ q : Nat, q ≠ base + k2 → (H.setIfInBounds (base + k2) ce)[q]? = H[q]? := fun q hq => by simp [Array.getElem?_setIfInBounds, Ne.symm hq]
  obtain ⟨t, a1, b1⟩ := kk _ _ (am_hp_set hh (k := k2) (x := .inl (0, am_cpl f g sp.toNatClampNeg dp.toNatClampNeg n.toNatClampNeg)) (y := .inl (ky 0, g.length, .inl (fun j => (am_cpl f g sp.toNatClampNeg dp.toNatClampNeg n.toNatClampNeg).getD j 0))) (by simp only [am_cc]; congr 2; simp [am_cpl]) (va_P.set hh.1 (am_ws_D h) hw2 (show (H.setIfInBounds (base + k2) _)[base + k2]? = some _ by rw [← hce]; simp [Array.getElem?_setIfInBounds, hl]) oq) (by simp)) ⟨by simp; exact hS.1, fun q g1 g2 => by
      rw [oq q (fun e => g2 (by rw [e]; exact Nat.le_add_right _ _))]
      exact hS.2.1 q g1 g2, fun q hq => by
      rcases List.mem_append.mp hq with h | h
      · exact hS.2.2 q h
      · obtain ⟨z, -, hz⟩ := List.mem_map.mp h
        rw [← hz]
        exact Nat.le_add_right _ _⟩ _ hheap X'
  exact ⟨t, step t a1, b1⟩
end AMR

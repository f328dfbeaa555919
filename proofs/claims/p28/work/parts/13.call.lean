section AMR
variable {p : Program} {l : Launch} {e : Env} {R : Room} {s : State} {m : MethodId} {args : Array Value} {below : List Frame} {meth : Method} {c : Code} {H : Heap} {locs : List Loc} {cells slots : Nat} {Q : State → Prop} {pc : Nat} {ls : Array Slot} {rest : List Value} {cc : ByteArray}
variable {D : va_G} {ky : Nat → ClassId} {b base : Nat} {xs : List Int32} {h : am_H} {own : String} {a : Nat}
theorem am_rc_spec {j c : Nat} {As : List Value} {h : am_H} (hr : am_rc j As h = true) (hk : am_rk j = some c) : ∃ a As0 fs, As = .ref a :: As0 ∧ h[a]? = some (.inr (c, fs)) := by
  unfold am_rc at hr
  rw [hk] at hr
  dsimp only at hr
  split at hr
  · split at hr
    · rename_i hc
      have := Nat.eq_of_beq_eq_true hr
      subst this
      exact ⟨_, _, _, rfl, hc⟩
    · cases hr
  · cases hr
/-- a call of one of the system's methods -/
theorem am_rt_call (htab : am_tab) {n i j idx q : Nat} (hmt : am_mt l D ky b base xs n) {S : List Value} {r : Option Value} {h1 : am_H} {ins : Instr} (hx : p.tables.exec = Jvm.exec) (hb : c.code = am_by i) (hml : c.maxLocals = ls.size) (hown : s.vm.findClass (am_own i) = some m.cls) (hok : am_ok D ky b base xs s) (hh : am_hp D ky b base xs h H) (hS : va_S (fun q : Nat => base ≤ q) s.heap H locs)
    (hfr : am_rank i ≤ R.frames) (hlo : 39 * am_rank i ≤ R.locals) {na : Nat} (hcj : am_cj i j na = true) (hcat : am_cat (S.drop na) ≤ 8) (hlen : na ≤ S.length) (hca : am_cat (S.take na) = na ∨ am_la j S = true)
    (hz : (bif am_rc j (S.take na).reverse h then am_run n j (0, am_l0 j (S.take na).reverse, [], h) else none) = some (r, h1)) (hcells : cells + (h1.length - h.length) ≤ R.cells) (hslots : slots + (am_sl h1 - am_sl h) ≤ R.slots)
    (hins : (ins = .invokevirtual idx ∧ am_kd j = 0 ∧ am_has q (.methodLink (am_own i) idx (am_nm j)) = true) ∨ (ins = .invokespecial idx ∧ am_kd j = 2 ∧ (am_has q (.methodLink (am_own i) idx (am_nm j)) = true ∨ am_has q (.methodLinkNest (am_own i) idx (am_nm j) am_host) = true)) ∨ (ins = .invokestatic idx ∧ am_kd j = 1 ∧ am_has q (.methodLink (am_own i) idx (am_nm j)) = true))
    (hdg : decode (am_by i) pc = .ok (ins, 3)) :
    ∃ av, va_Run p l e R s m args below meth c H locs cells slots (h1.length - h.length) (am_sl h1 - am_sl h) (F0 m pc ls (S.map (am_cv (am_ad b base)))) ((S.drop na).map (am_cv (am_ad b base))) (am_Q D ky b base xs r h1 av) (fun q : Nat => base ≤ q) := by
  unfold am_cj at hcj
  simp only [Bool.and_eq_true, decide_eq_true_eq, and_assoc] at hcj
  obtain ⟨c1, c2, c3, c4, c5⟩ := hcj
  have hj : j < am_N := Nat.le_of_ble_eq_true c1
  have hna : na = am_na_ j := Nat.eq_of_beq_eq_true c3
  have hrk : am_rank j < am_rank i := Nat.le_of_ble_eq_true c4
  obtain ⟨⟨m1, m2, m3⟩, m4, m5, m6, m7, m8, m9, m10, m11, m12, m13, m14⟩ := am_mck_all (htab.2.1 j hj c5)
  cases hrc : am_rc j (S.take na).reverse h <;> rw [hrc] at hz
  · cases hz
  · have hz : am_run n j (0, am_l0 j (S.take na).reverse, [], h) = some (r, h1) := hz
    have hlt : (S.take na).reverse.length = am_na_ j := by rw [List.length_reverse, List.length_take]; omega
    have hct : am_cat (S.take na).reverse = am_na_ j ∨ am_la j (S.take na).reverse = true := by
      rcases hca with hca | hca
      · refine Or.inl ?_
        have : am_cat (S.take na).reverse = am_cat (S.take na) := by unfold am_cat; rw [List.map_reverse, List.sum_reverse]
        rw [this, hca, hna]
      · refine Or.inr ?_
        unfold am_la at hca
        split at hca
        · rename_i y r
          have k2 := (am_la_ok hca).2.1
          rw [hna, k2]
          exact hca
        · cases hca
    have hM := hmt j _ h r h1 hj c5 hct hlt hz
    have hbl : FrameBlind (va_Pc ((S.take na).reverse.map (am_cv (am_ad b base))) (fun U => am_ok D ky b base xs U ∧ am_hp D ky b base xs h U.heap)) := fun a U g mk z => ⟨z.1, z.2.1.calling g mk a, z.2.2⟩
    have hPc : ∀ U : State, U.heap = H → s.WarmedH U.vm → va_Pc ((S.take na).reverse.map (am_cv (am_ad b base))) (fun U => am_ok D ky b base xs U ∧ am_hp D ky b base xs h U.heap) ((S.take na).reverse.map (am_cv (am_ad b base))).toArray U := fun U hU hW => ⟨rfl, hok.moved hW hS hU, show am_hp D ky b base xs h U.heap by rw [hU]; exact hh⟩
    have hws : ∀ w ∈ am_wl j, ∀ (a' : Array Value) (U : State), s.WarmedH U.vm → w.before a' U = true := by
      intro w hw a' U hW
      have : w = .code (am_nm j) (am_by j) (am_ml j) (am_rt j) := by simpa using hw
      subst this
      exact word_at hW (Or.inl rfl) (am_has_at m1 hok.1 args)
    have hrest : (((S.drop na).map (am_cv (am_ad b base))).map fun v => v.category).sum ≤ 8 := by rw [am_cat_map]; exact hcat
    have hst0 : S.map (am_cv (am_ad b base)) = ((S.take na).reverse.map (am_cv (am_ad b base))).reverse ++ (S.drop na).map (am_cv (am_ad b base)) := by
      rw [← List.map_reverse, List.reverse_reverse, ← List.map_append, List.take_append_drop]
    have hfx : CallFix p m c (am_by i) ls.size s args [] (am_own i) := ⟨hx, hb, hml, hown, fun w hw => by cases hw⟩
    have hcb : ∀ k, (Cond.methodLink (am_own i) idx (am_nm j)).before args s = true → am_na_ j - k = am_na_ j - (bif Nat.beq (am_kd j) 1 then 0 else 1) → CallB R s args (am_own i) idx (am_nm j) (am_by j) (am_ml j) (am_rt j) (am_wl j) (am_rm_ j (h1.length - h.length) (am_sl h1 - am_sl h)) (h1.length - h.length) (am_sl h1 - am_sl h) (am_na_ j - k) := by
      intro k hl hk
      refine ⟨rfl, rfl, ?_, ?_, hws, List.mem_cons_self, am_has_at m1 hok.1 args, am_has_at m2 hok.1 args, m9, fun sig h => ?_, hl⟩
      · show am_rank j + 1 ≤ R.frames
        omega
      · show 8 + (am_ml j + 11) + 39 * am_rank j ≤ R.locals
        omega
      · rw [h] at m10
        rw [hk]
        exact (Option.some.inj m10).symm
    rcases hins with ⟨rfl, hkd, hl⟩ | ⟨rfl, hkd, hl⟩ | ⟨rfl, hkd, hl⟩
    · obtain ⟨ci, k1, k2, k3, k4⟩ := m7 (by omega)
      obtain ⟨a, As0, fs, e1, e2⟩ := am_rc_spec hrc k1
      rw [e1] at hM hPc hbl hst0
      obtain ⟨k, rfl, hw⟩ := am_pos hh e2 (fun l q => by cases q)
      have h100 : Nat.ble 100 ci = false := by
        cases z : Nat.ble 100 ci
        · rfl
        · have := Nat.le_of_ble_eq_true z; have := am_cls_len; omega
      have hw : (am_ws ky b base h)[k]? = some (base + k, .inr (ci, fs.map (am_cv (am_ad b base)))) := by
        rw [hw]
        simp only [am_cc, h100]; rfl
      have hrec := va_recv hok.2.1 hh.1 (am_cls_at k2) hw
      rw [k3] at hrec
      have hl0 : As0.length = am_na_ j - 1 := by rw [e1] at hlt; simp at hlt; omega
      refine ⟨_, va_runV (As := As0.map (am_cv (am_ad b base))) (rest := (S.drop na).map (am_cv (am_ad b base))) (b := base + k) (C := (am_nm j).cls) hfx hM ⟨hcb 1 (am_has_at hl hok.1 args) (by rw [hkd]; rfl), am_has_at (m5 (by omega)) hok.1 args, am_has_at (m6 hkd) hok.1 args⟩ ⟨hbl, hrec, hPc⟩ rfl (by rw [List.length_map]; exact hl0) rfl ?_ (lv_room hrest) hdg ⟨hcells, hslots⟩⟩
      show S.map (am_cv (am_ad b base)) = _
      rw [hst0]
      simp [am_cv, am_ad]
    · obtain ⟨ci, k1, k2, k3, k4⟩ := m7 (by omega)
      obtain ⟨a, As0, fs, e1, e2⟩ := am_rc_spec hrc k1
      rw [e1] at hM hPc hbl hst0
      obtain ⟨hnm, hrt⟩ := m8 hkd
      have hl0 : As0.length = am_na_ j - 1 := by rw [e1] at hlt; simp at hlt; omega
      have hst : S.map (am_cv (am_ad b base)) = (As0.map (am_cv (am_ad b base))).reverse ++ .ref (am_ad b base a) :: (S.drop na).map (am_cv (am_ad b base)) := by
        rw [hst0]
        simp [am_cv]
      rcases hl with hl | hl
      · have hcb1 := hcb 1 (am_has_at hl hok.1 args) (by rw [hkd]; rfl)
        have hwl : am_wl j = [.code (am_nm j) (am_by j) (am_ml j) none] := by unfold am_wl; rw [hrt]
        rw [hrt] at hcb1
        exact ⟨_, va_runI (As := As0.map (am_cv (am_ad b base))) (rest := (S.drop na).map (am_cv (am_ad b base))) (b := am_ad b base a) hfx hM ⟨hcb1, hnm, am_has_at (m5 (by omega)) hok.1 args⟩ ⟨hbl, hPc⟩ rfl (by rw [List.length_map]; exact hl0) rfl hst (lv_room hrest) hdg ⟨hcells, hslots⟩⟩
      · have hcn : va_CN R s args (am_own i) idx (am_nm j) am_host (am_by j) (am_ml j) none (am_wl j) (am_rm_ j (h1.length - h.length) (am_sl h1 - am_sl h)) (h1.length - h.length) (am_sl h1 - am_sl h) (am_na_ j - 1) := by
          have hc0 : Cond.code (am_nm j) (am_by j) (am_ml j) none ∈ am_wl j := by unfold am_wl; rw [hrt]; exact List.mem_cons_self
          refine ⟨⟨rfl, rfl, ?_, ?_, hws, hc0⟩, ?_, am_has_at m2 hok.1 args, m9, fun sig h => ?_, am_has_at hl hok.1 args⟩
          · show am_rank j + 1 ≤ R.frames
            omega
          · show 8 + (am_ml j + 11) + 39 * am_rank j ≤ R.locals
            omega
          · have := am_has_at m1 hok.1 args
            rw [hrt] at this
            exact this
          · rw [h, hkd] at m10
            exact (Option.some.inj m10).symm
        exact ⟨_, va_runIN (As := As0.map (am_cv (am_ad b base))) (rest := (S.drop na).map (am_cv (am_ad b base))) (b := am_ad b base a) hfx hM ⟨hcn, hnm, am_has_at (m5 (by omega)) hok.1 args⟩ ⟨hbl, hPc⟩ rfl (by rw [List.length_map]; exact hl0) rfl hst (lv_room hrest) hdg ⟨hcells, hslots⟩⟩
    · refine ⟨_, va_runS (As := (S.take na).reverse.map (am_cv (am_ad b base))) (rest := (S.drop na).map (am_cv (am_ad b base))) hfx hM ⟨hcb 0 (am_has_at hl hok.1 args) (by rw [hkd]; rfl), am_has_at (m4 hkd) hok.1 args⟩ ⟨hbl, hPc⟩ rfl (by rw [List.length_map]; exact hlt) rfl hst0 (lv_room hrest) hdg ⟨hcells, hslots⟩⟩
end AMR

/-! THE LAW'S ENTRY, out of a run of the abstract machine -/
theorem am_arr_of {s : State} {ty : FieldType} (h : (Cond.arrayClass ty).before #[] s = true) (hra : ∀ cA, s.vm.findClass ("[" ++ ty.toString) = some cA → va_RA s cA ty) : ∃ cA, ArrOfT s cA ty ∧ va_RA s cA ty := by
  obtain ⟨cB, kB, comp, hcB, hkB, hkind⟩ := Cond.arrayClass_spec h
  exact ⟨cB, fun n z => ⟨fun k h => (by cases h), kB, hkB, comp, hkind⟩, hra cB hcB⟩
theorem am_world (htab : am_tab) {s : State} (hT : am_T s) : ∃ (D : va_G) (ky : Nat → ClassId), va_K D am_cls (am_tys ky) s := by
  have hnck := htab.2.2.2.1
  unfold am_nck at hnck
  simp only [Bool.and_eq_true, and_assoc] at hnck
  obtain ⟨-, -, -, -, -, -, -, -, -, -, k11, k12, k13, -⟩ := hnck
  obtain ⟨c0, a0, r0⟩ := am_arr_of (ty := .int) (am_has_at k11 hT #[]) (fun _ h => h)
  obtain ⟨c1, a1, r1⟩ := am_arr_of (ty := .char) (am_has_at k12 hT #[]) (fun _ h => h)
  obtain ⟨comp, c2, k, h1, h2, h3, h4, h5⟩ := Cond.arrayOver_spec (am_has_at k13 hT #[])
  have hK : ∀ j : Nat, ∃ (cC : ClassId) (iS : Nat → Nat), ∀ q : vw_C, am_cls[j]? = some q → u_Kn s q.1 q.2.1 q.2.2 cC iS := by
    intro j
    by_cases hj : j < am_cls.length
    · have hck := htab.2.2.1 j hj
      obtain ⟨g1, g2⟩ := Bool.and_eq_true_iff.mp hck
      obtain ⟨g1, g3⟩ := Bool.and_eq_true_iff.mp g1
      obtain ⟨g1, g4⟩ := Bool.and_eq_true_iff.mp g1
      obtain ⟨cC, iS, hk⟩ := u_known (C := (am_cl1 j).1) (T := (am_cl1 j).2.1) (N := (am_cl1 j).2.2) (n := (am_cl1 j).2.2) (am_cck_ws hck hT #[]) (fun w h => h) (am_has_at g1 hT #[])
      refine ⟨cC, iS, fun q hq => ?_⟩
      rw [am_cls_at hj] at hq
      cases hq
      exact hk
    · exact ⟨0, fun _ => 0, fun q hq => by rw [List.getElem?_eq_none (Nat.le_of_not_lt hj)] at hq; cases hq⟩
  refine ⟨(fun j => (hK j).choose, fun j => (hK j).choose_spec.choose), fun t => if t = 0 then c0 else if t = 1 then c1 else c2, fun j q hq => (hK j).choose_spec.choose_spec q hq, fun j q hq => ?_⟩
  match j, hq with
  | 0, hq => cases hq; exact ⟨a0, r0⟩
  | 1, hq => cases hq; exact ⟨a1, r1⟩
  | 2, hq => cases hq; exact ⟨fun N z => ⟨(fun k h => by cases h), k, h3, comp, h4⟩, k, comp, h3, h4, h1, h5⟩
theorem am_start (htab : am_tab) {p : Program} {e : Env} {s : State} {m : MethodId} {below : List Frame} {meth : Method} {c : Code} (l : Launch) {b L : Nat} {xs : Nat → Int32} (C0 : lw_At p s m meth c b L xs)
    (hrun : ∀ xl : List Int32, xl.length = L → ∃ n h', am_run n m_law (0, am_l0 m_law [.ref 0], [], [.inl (7, xl)]) = some (some (.int 1), h') ∧ h'.length ≤ 600000 ∧ am_sl h' ≤ 7302250) : W p l e room_1 s m #[Value.ref b] below meth c s.heap [] 0 0 (lw_Z below #[Value.ref b] s) (entryFrame m ([Value.ref b] : List Value).toArray 17) := by
  obtain ⟨hx, hb, hr, hml, hown, hts, hX, hbl, hlocks, hgv⟩ := id C0
  have hT : am_T s := fun w hw ho => am_okw_at ho rfl (hts w hw)
  obtain ⟨D, ky, hK⟩ := am_world htab hT
  obtain ⟨xl, hxl, hxe⟩ : ∃ xl : List Int32, xl.length = L ∧ ∀ j, j < L → xl.getD j 0 = xs j := ⟨(List.range L).map xs, by simp, fun j hj => by rw [List.getD_eq_getElem?_getD, List.getElem?_map, List.getElem?_range hj]; rfl⟩
  obtain ⟨n, h', hrn, hh1, hh2⟩ := hrun xl hxl
  have hX2 : va_X b xl.length (fun j => xl.getD j 0) s s.heap := by
    obtain ⟨scr, h1, h2, h3, h4, h5⟩ := hX
    exact ⟨scr, h1, h2, h3, by rw [h4, hxl], fun j hj => by rw [h5 j (by omega)]; congr 2; exact (hxe j (by omega)).symm⟩
  have hok : am_ok D ky b s.heap.size xl s := ⟨hT, hK, hX2, hbl, Nat.le_refl _⟩
  have hhp : am_hp D ky b s.heap.size xl [.inl (7, xl)] s.heap := ⟨fun k q hq => by rw [am_ws_get] at hq; simp at hq, rfl, rfl⟩
  have hgr := am_run_gr n _ _ _ hrn
  have g1 : 1 ≤ h'.length := hgr.1
  have g2 : am_sl [.inl (7, xl)] ≤ am_sl h' := hgr.2
  have hl := lv_entry ([.ref b]) (n := 17) (Nat.le_of_ble_eq_true rfl)
  rw [lg_entry_eq]
  have hl2 := am_ls_sub (ρ := am_ad b s.heap.size) (L := am_l0 m_law [.ref 0]) hl (fun i v hi hv => by
    match i, hi with
    | 0, hi => cases hi; exact List.mem_cons_self
    | 1, hi => cases hi; cases hv
    | 2, hi => cases hi; cases hv
    | 3, hi => cases hi; cases hv
    | 4, hi => cases hi; cases hv
    | 5, hi => cases hi; cases hv
    | 6, hi => cases hi; cases hv
    | 7, hi => cases hi; cases hv
    | 8, hi => cases hi; cases hv
    | 9, hi => cases hi; cases hv
    | 10, hi => cases hi; cases hv
    | 11, hi => cases hi; cases hv
    | 12, hi => cases hi; cases hv
    | 13, hi => cases hi; cases hv
    | 14, hi => cases hi; cases hv
    | 15, hi => cases hi; cases hv
    | 16, hi => cases hi; cases hv)
  refine am_snd_all htab n m_law 0 (am_l0 m_law [.ref 0]) [] [.inl (7, xl)] (some (.int 1)) h' (by decide) hrn (h'.length - 1) (am_sl h' - am_sl [.inl (7, xl)]) ⟨hx, hb, hml, hr, hown, fun z => absurd z (by decide)⟩ hok (by decide) (by decide) hhp va_S.rf hl2 (fun i x hi => by
    match i, hi with
    | 0, hi => cases hi
    | 1, hi => cases hi
    | 2, hi => cases hi
    | 3, hi => cases hi
    | 4, hi => cases hi
    | 5, hi => cases hi
    | 6, hi => cases hi
    | 7, hi => cases hi
    | 8, hi => cases hi
    | 9, hi => cases hi
    | 10, hi => cases hi
    | 11, hi => cases hi
    | 12, hi => cases hi
    | 13, hi => cases hi
    | 14, hi => cases hi
    | 15, hi => cases hi
    | 16, hi => cases hi) (by show 0 + h'.length = h'.length - 1 + 1; omega) (by omega) ?_ ?_ ?_
  · show h'.length - 1 ≤ 600000
    omega
  · show am_sl h' - am_sl [.inl (7, xl)] ≤ 7302250
    omega
  · intro pc' ls' H' locs' hh' hS' hend
    refine va_forget hS'.2.2 ?_
    refine W.widen (k := 600000) (n := 7302250) (by omega) (by omega) ?_
    exact lw_ret hx hb hr hlocks hend.1

/-! ROWS -/
theorem set_same {h : am_H} {q : Nat} {c : List Int32} (h2 : h[q]? = some (.inl (0, c))) : h.set q (.inl (0, c)) = h := by
  obtain ⟨hq, e⟩ := List.getElem?_eq_some_iff.mp h2
  rw [← e]; exact List.set_getElem_self hq
theorem cpl_all (f : List Int32) {l : List Int32} (h : f.length = l.length) : am_cpl f l 0 0 l.length = f := by
  unfold am_cpl
  apply List.ext_getElem
  · simp [h]
  · intro i h1 h2
    simp only [List.length_map, List.length_range] at h1
    simp only [List.getElem_map, List.getElem_range]
    rw [if_pos ⟨Nat.zero_le _, by omega⟩]
    rw [List.getD_eq_getElem?_getD, Nat.zero_add, Nat.sub_zero, List.getElem?_eq_getElem h2]
    rfl
theorem row_copy {a b q s : Nat} {h : am_H} {l f : List Int32} (h1 : h[a]? = some (.inr (5, [.ref q]))) (h2 : h[q]? = some (.inl (0, l))) (h3 : h[b]? = some (.inr (5, [.ref s]))) (h4 : h[s]? = some (.inl (0, f))) (hl : f.length = l.length) (hs : l.length < 2 ^ 31) : am_cl m_Row_copy [.ref a, .ref b] h = some (none, h.set q (.inl (0, f))) := by
  rw [e_Row_copy a b h h1]
  have e1 : am_gr h a 5 0 = some q := by simp [am_gr, h1]
  have e2 : am_gr h b 5 0 = some s := by simp [am_gr, h3]
  have e3 : am_len h q = some (nI l.length) := by unfold am_len; rw [h2]; rfl
  have e4 : am_len h s = some (nI l.length) := by unfold am_len; rw [h4, ← hl]; rfl
  have e5 : am_min (nI l.length) (nI l.length) = nI l.length := by unfold am_min; split <;> rfl
  have e6 : am_cp h s 0 q 0 (nI l.length) = some (h.set q (.inl (0, f))) := by
    unfold am_cp
    rw [h4, h2]
    show (bif _ then _ else _) = _
    have z : (nI l.length).toNatClampNeg = l.length := nI_clamp hs
    have z0 : (0 : Int32).toNatClampNeg = 0 := rfl
    have z1 : ¬ nI l.length < 0 := nI_pos hs
    have z2 : ¬ (0 : Int32) < 0 := by decide
    rw [z, z0, decide_eq_false z1, decide_eq_false z2, Nat.zero_add, cpl_all f hl, hl, show Nat.ble l.length l.length = true from Nat.ble_eq_true_of_le (Nat.le_refl _)]
    rfl
  simp only [e1, e2, e3, e4, e5, e6, ob_s]

theorem rg_4 (A : Nat → List Int32) (F : Nat → Int32) (P : Nat → Nat) (k : Nat) (h : k < (A 5).length) (hl : (A 5).length < 2 ^ 31) : am_cl m_Row_get [.ref 4, .int (nI k)] (heap A F P) = some (some (.int (g (A 5) k)), heap A F P) := by
  rw [row_get (h := heap A F P) (a := 4) (q := 5) (l := A 5) rfl rfl hl, rget_nI h hl]
theorem rp_4 (A : Nat → List Int32) (F : Nat → Int32) (P : Nat → Nat) (k : Nat) (v : Int32) (h : k < (A 5).length) (hl : (A 5).length < 2 ^ 31) : am_cl m_Row_put [.ref 4, .int (nI k), .int v] (heap A F P) = some (none, heap (up A 5 ((A 5).set k v)) F P) := by
  rw [row_put (h := heap A F P) (a := 4) (q := 5) (l := A 5) rfl rfl hl, rput_nI h hl]
  rfl
theorem rg_6 (A : Nat → List Int32) (F : Nat → Int32) (P : Nat → Nat) (k : Nat) (h : k < (A 7).length) (hl : (A 7).length < 2 ^ 31) : am_cl m_Row_get [.ref 6, .int (nI k)] (heap A F P) = some (some (.int (g (A 7) k)), heap A F P) := by
  rw [row_get (h := heap A F P) (a := 6) (q := 7) (l := A 7) rfl rfl hl, rget_nI h hl]
theorem rp_6 (A : Nat → List Int32) (F : Nat → Int32) (P : Nat → Nat) (k : Nat) (v : Int32) (h : k < (A 7).length) (hl : (A 7).length < 2 ^ 31) : am_cl m_Row_put [.ref 6, .int (nI k), .int v] (heap A F P) = some (none, heap (up A 7 ((A 7).set k v)) F P) := by
  rw [row_put (h := heap A F P) (a := 6) (q := 7) (l := A 7) rfl rfl hl, rput_nI h hl]
  rfl
theorem rg_9 (A : Nat → List Int32) (F : Nat → Int32) (P : Nat → Nat) (k : Nat) (h : k < (A 10).length) (hl : (A 10).length < 2 ^ 31) : am_cl m_Row_get [.ref 9, .int (nI k)] (heap A F P) = some (some (.int (g (A 10) k)), heap A F P) := by
  rw [row_get (h := heap A F P) (a := 9) (q := 10) (l := A 10) rfl rfl hl, rget_nI h hl]
theorem rp_9 (A : Nat → List Int32) (F : Nat → Int32) (P : Nat → Nat) (k : Nat) (v : Int32) (h : k < (A 10).length) (hl : (A 10).length < 2 ^ 31) : am_cl m_Row_put [.ref 9, .int (nI k), .int v] (heap A F P) = some (none, heap (up A 10 ((A 10).set k v)) F P) := by
  rw [row_put (h := heap A F P) (a := 9) (q := 10) (l := A 10) rfl rfl hl, rput_nI h hl]
  rfl
theorem rg_11 (A : Nat → List Int32) (F : Nat → Int32) (P : Nat → Nat) (k : Nat) (h : k < (A 12).length) (hl : (A 12).length < 2 ^ 31) : am_cl m_Row_get [.ref 11, .int (nI k)] (heap A F P) = some (some (.int (g (A 12) k)), heap A F P) := by
  rw [row_get (h := heap A F P) (a := 11) (q := 12) (l := A 12) rfl rfl hl, rget_nI h hl]
theorem rp_11 (A : Nat → List Int32) (F : Nat → Int32) (P : Nat → Nat) (k : Nat) (v : Int32) (h : k < (A 12).length) (hl : (A 12).length < 2 ^ 31) : am_cl m_Row_put [.ref 11, .int (nI k), .int v] (heap A F P) = some (none, heap (up A 12 ((A 12).set k v)) F P) := by
  rw [row_put (h := heap A F P) (a := 11) (q := 12) (l := A 12) rfl rfl hl, rput_nI h hl]
  rfl
theorem rg_13 (A : Nat → List Int32) (F : Nat → Int32) (P : Nat → Nat) (k : Nat) (h : k < (A 14).length) (hl : (A 14).length < 2 ^ 31) : am_cl m_Row_get [.ref 13, .int (nI k)] (heap A F P) = some (some (.int (g (A 14) k)), heap A F P) := by
  rw [row_get (h := heap A F P) (a := 13) (q := 14) (l := A 14) rfl rfl hl, rget_nI h hl]
theorem rp_13 (A : Nat → List Int32) (F : Nat → Int32) (P : Nat → Nat) (k : Nat) (v : Int32) (h : k < (A 14).length) (hl : (A 14).length < 2 ^ 31) : am_cl m_Row_put [.ref 13, .int (nI k), .int v] (heap A F P) = some (none, heap (up A 14 ((A 14).set k v)) F P) := by
  rw [row_put (h := heap A F P) (a := 13) (q := 14) (l := A 14) rfl rfl hl, rput_nI h hl]
  rfl
theorem rg_15 (A : Nat → List Int32) (F : Nat → Int32) (P : Nat → Nat) (k : Nat) (h : k < (A 16).length) (hl : (A 16).length < 2 ^ 31) : am_cl m_Row_get [.ref 15, .int (nI k)] (heap A F P) = some (some (.int (g (A 16) k)), heap A F P) := by
  rw [row_get (h := heap A F P) (a := 15) (q := 16) (l := A 16) rfl rfl hl, rget_nI h hl]
theorem rp_15 (A : Nat → List Int32) (F : Nat → Int32) (P : Nat → Nat) (k : Nat) (v : Int32) (h : k < (A 16).length) (hl : (A 16).length < 2 ^ 31) : am_cl m_Row_put [.ref 15, .int (nI k), .int v] (heap A F P) = some (none, heap (up A 16 ((A 16).set k v)) F P) := by
  rw [row_put (h := heap A F P) (a := 15) (q := 16) (l := A 16) rfl rfl hl, rput_nI h hl]
  rfl
theorem rg_17 (A : Nat → List Int32) (F : Nat → Int32) (P : Nat → Nat) (k : Nat) (h : k < (A 18).length) (hl : (A 18).length < 2 ^ 31) : am_cl m_Row_get [.ref 17, .int (nI k)] (heap A F P) = some (some (.int (g (A 18) k)), heap A F P) := by
  rw [row_get (h := heap A F P) (a := 17) (q := 18) (l := A 18) rfl rfl hl, rget_nI h hl]
theorem rp_17 (A : Nat → List Int32) (F : Nat → Int32) (P : Nat → Nat) (k : Nat) (v : Int32) (h : k < (A 18).length) (hl : (A 18).length < 2 ^ 31) : am_cl m_Row_put [.ref 17, .int (nI k), .int v] (heap A F P) = some (none, heap (up A 18 ((A 18).set k v)) F P) := by
  rw [row_put (h := heap A F P) (a := 17) (q := 18) (l := A 18) rfl rfl hl, rput_nI h hl]
  rfl
theorem rg_20 (A : Nat → List Int32) (F : Nat → Int32) (P : Nat → Nat) (k : Nat) (h : k < (A 21).length) (hl : (A 21).length < 2 ^ 31) : am_cl m_Row_get [.ref 20, .int (nI k)] (heap A F P) = some (some (.int (g (A 21) k)), heap A F P) := by
  rw [row_get (h := heap A F P) (a := 20) (q := 21) (l := A 21) rfl rfl hl, rget_nI h hl]
theorem rp_20 (A : Nat → List Int32) (F : Nat → Int32) (P : Nat → Nat) (k : Nat) (v : Int32) (h : k < (A 21).length) (hl : (A 21).length < 2 ^ 31) : am_cl m_Row_put [.ref 20, .int (nI k), .int v] (heap A F P) = some (none, heap (up A 21 ((A 21).set k v)) F P) := by
  rw [row_put (h := heap A F P) (a := 20) (q := 21) (l := A 21) rfl rfl hl, rput_nI h hl]
  rfl
theorem rg_22 (A : Nat → List Int32) (F : Nat → Int32) (P : Nat → Nat) (k : Nat) (h : k < (A 23).length) (hl : (A 23).length < 2 ^ 31) : am_cl m_Row_get [.ref 22, .int (nI k)] (heap A F P) = some (some (.int (g (A 23) k)), heap A F P) := by
  rw [row_get (h := heap A F P) (a := 22) (q := 23) (l := A 23) rfl rfl hl, rget_nI h hl]
theorem rp_22 (A : Nat → List Int32) (F : Nat → Int32) (P : Nat → Nat) (k : Nat) (v : Int32) (h : k < (A 23).length) (hl : (A 23).length < 2 ^ 31) : am_cl m_Row_put [.ref 22, .int (nI k), .int v] (heap A F P) = some (none, heap (up A 23 ((A 23).set k v)) F P) := by
  rw [row_put (h := heap A F P) (a := 22) (q := 23) (l := A 23) rfl rfl hl, rput_nI h hl]
  rfl
theorem rg_24 (A : Nat → List Int32) (F : Nat → Int32) (P : Nat → Nat) (k : Nat) (h : k < (A 25).length) (hl : (A 25).length < 2 ^ 31) : am_cl m_Row_get [.ref 24, .int (nI k)] (heap A F P) = some (some (.int (g (A 25) k)), heap A F P) := by
  rw [row_get (h := heap A F P) (a := 24) (q := 25) (l := A 25) rfl rfl hl, rget_nI h hl]
theorem rp_24 (A : Nat → List Int32) (F : Nat → Int32) (P : Nat → Nat) (k : Nat) (v : Int32) (h : k < (A 25).length) (hl : (A 25).length < 2 ^ 31) : am_cl m_Row_put [.ref 24, .int (nI k), .int v] (heap A F P) = some (none, heap (up A 25 ((A 25).set k v)) F P) := by
  rw [row_put (h := heap A F P) (a := 24) (q := 25) (l := A 25) rfl rfl hl, rput_nI h hl]
  rfl
theorem rg_26 (A : Nat → List Int32) (F : Nat → Int32) (P : Nat → Nat) (k : Nat) (h : k < (A 27).length) (hl : (A 27).length < 2 ^ 31) : am_cl m_Row_get [.ref 26, .int (nI k)] (heap A F P) = some (some (.int (g (A 27) k)), heap A F P) := by
  rw [row_get (h := heap A F P) (a := 26) (q := 27) (l := A 27) rfl rfl hl, rget_nI h hl]
theorem rp_26 (A : Nat → List Int32) (F : Nat → Int32) (P : Nat → Nat) (k : Nat) (v : Int32) (h : k < (A 27).length) (hl : (A 27).length < 2 ^ 31) : am_cl m_Row_put [.ref 26, .int (nI k), .int v] (heap A F P) = some (none, heap (up A 27 ((A 27).set k v)) F P) := by
  rw [row_put (h := heap A F P) (a := 26) (q := 27) (l := A 27) rfl rfl hl, rput_nI h hl]
  rfl
theorem rg_28 (A : Nat → List Int32) (F : Nat → Int32) (P : Nat → Nat) (k : Nat) (h : k < (A 29).length) (hl : (A 29).length < 2 ^ 31) : am_cl m_Row_get [.ref 28, .int (nI k)] (heap A F P) = some (some (.int (g (A 29) k)), heap A F P) := by
  rw [row_get (h := heap A F P) (a := 28) (q := 29) (l := A 29) rfl rfl hl, rget_nI h hl]
theorem rp_28 (A : Nat → List Int32) (F : Nat → Int32) (P : Nat → Nat) (k : Nat) (v : Int32) (h : k < (A 29).length) (hl : (A 29).length < 2 ^ 31) : am_cl m_Row_put [.ref 28, .int (nI k), .int v] (heap A F P) = some (none, heap (up A 29 ((A 29).set k v)) F P) := by
  rw [row_put (h := heap A F P) (a := 28) (q := 29) (l := A 29) rfl rfl hl, rput_nI h hl]
  rfl
theorem rg_30 (A : Nat → List Int32) (F : Nat → Int32) (P : Nat → Nat) (k : Nat) (h : k < (A 31).length) (hl : (A 31).length < 2 ^ 31) : am_cl m_Row_get [.ref 30, .int (nI k)] (heap A F P) = some (some (.int (g (A 31) k)), heap A F P) := by
  rw [row_get (h := heap A F P) (a := 30) (q := 31) (l := A 31) rfl rfl hl, rget_nI h hl]
theorem rp_30 (A : Nat → List Int32) (F : Nat → Int32) (P : Nat → Nat) (k : Nat) (v : Int32) (h : k < (A 31).length) (hl : (A 31).length < 2 ^ 31) : am_cl m_Row_put [.ref 30, .int (nI k), .int v] (heap A F P) = some (none, heap (up A 31 ((A 31).set k v)) F P) := by
  rw [row_put (h := heap A F P) (a := 30) (q := 31) (l := A 31) rfl rfl hl, rput_nI h hl]
  rfl
theorem rg_32 (A : Nat → List Int32) (F : Nat → Int32) (P : Nat → Nat) (k : Nat) (h : k < (A 33).length) (hl : (A 33).length < 2 ^ 31) : am_cl m_Row_get [.ref 32, .int (nI k)] (heap A F P) = some (some (.int (g (A 33) k)), heap A F P) := by
  rw [row_get (h := heap A F P) (a := 32) (q := 33) (l := A 33) rfl rfl hl, rget_nI h hl]
theorem rp_32 (A : Nat → List Int32) (F : Nat → Int32) (P : Nat → Nat) (k : Nat) (v : Int32) (h : k < (A 33).length) (hl : (A 33).length < 2 ^ 31) : am_cl m_Row_put [.ref 32, .int (nI k), .int v] (heap A F P) = some (none, heap (up A 33 ((A 33).set k v)) F P) := by
  rw [row_put (h := heap A F P) (a := 32) (q := 33) (l := A 33) rfl rfl hl, rput_nI h hl]
  rfl
theorem rg_165 (A : Nat → List Int32) (F : Nat → Int32) (P : Nat → Nat) (k : Nat) (h : k < (A 166).length) (hl : (A 166).length < 2 ^ 31) : am_cl m_Row_get [.ref 165, .int (nI k)] (heap A F P) = some (some (.int (g (A 166) k)), heap A F P) := by
  rw [row_get (h := heap A F P) (a := 165) (q := 166) (l := A 166) rfl rfl hl, rget_nI h hl]
theorem rp_165 (A : Nat → List Int32) (F : Nat → Int32) (P : Nat → Nat) (k : Nat) (v : Int32) (h : k < (A 166).length) (hl : (A 166).length < 2 ^ 31) : am_cl m_Row_put [.ref 165, .int (nI k), .int v] (heap A F P) = some (none, heap (up A 166 ((A 166).set k v)) F P) := by
  rw [row_put (h := heap A F P) (a := 165) (q := 166) (l := A 166) rfl rfl hl, rput_nI h hl]
  rfl
theorem rg_167 (A : Nat → List Int32) (F : Nat → Int32) (P : Nat → Nat) (k : Nat) (h : k < (A 168).length) (hl : (A 168).length < 2 ^ 31) : am_cl m_Row_get [.ref 167, .int (nI k)] (heap A F P) = some (some (.int (g (A 168) k)), heap A F P) := by
  rw [row_get (h := heap A F P) (a := 167) (q := 168) (l := A 168) rfl rfl hl, rget_nI h hl]
theorem rp_167 (A : Nat → List Int32) (F : Nat → Int32) (P : Nat → Nat) (k : Nat) (v : Int32) (h : k < (A 168).length) (hl : (A 168).length < 2 ^ 31) : am_cl m_Row_put [.ref 167, .int (nI k), .int v] (heap A F P) = some (none, heap (up A 168 ((A 168).set k v)) F P) := by
  rw [row_put (h := heap A F P) (a := 167) (q := 168) (l := A 168) rfl rfl hl, rput_nI h hl]
  rfl
theorem rg_169 (A : Nat → List Int32) (F : Nat → Int32) (P : Nat → Nat) (k : Nat) (h : k < (A 170).length) (hl : (A 170).length < 2 ^ 31) : am_cl m_Row_get [.ref 169, .int (nI k)] (heap A F P) = some (some (.int (g (A 170) k)), heap A F P) := by
  rw [row_get (h := heap A F P) (a := 169) (q := 170) (l := A 170) rfl rfl hl, rget_nI h hl]
theorem rp_169 (A : Nat → List Int32) (F : Nat → Int32) (P : Nat → Nat) (k : Nat) (v : Int32) (h : k < (A 170).length) (hl : (A 170).length < 2 ^ 31) : am_cl m_Row_put [.ref 169, .int (nI k), .int v] (heap A F P) = some (none, heap (up A 170 ((A 170).set k v)) F P) := by
  rw [row_put (h := heap A F P) (a := 169) (q := 170) (l := A 170) rfl rfl hl, rput_nI h hl]
  rfl
theorem rg_171 (A : Nat → List Int32) (F : Nat → Int32) (P : Nat → Nat) (k : Nat) (h : k < (A 172).length) (hl : (A 172).length < 2 ^ 31) : am_cl m_Row_get [.ref 171, .int (nI k)] (heap A F P) = some (some (.int (g (A 172) k)), heap A F P) := by
  rw [row_get (h := heap A F P) (a := 171) (q := 172) (l := A 172) rfl rfl hl, rget_nI h hl]
theorem rp_171 (A : Nat → List Int32) (F : Nat → Int32) (P : Nat → Nat) (k : Nat) (v : Int32) (h : k < (A 172).length) (hl : (A 172).length < 2 ^ 31) : am_cl m_Row_put [.ref 171, .int (nI k), .int v] (heap A F P) = some (none, heap (up A 172 ((A 172).set k v)) F P) := by
  rw [row_put (h := heap A F P) (a := 171) (q := 172) (l := A 172) rfl rfl hl, rput_nI h hl]
  rfl
theorem rg_173 (A : Nat → List Int32) (F : Nat → Int32) (P : Nat → Nat) (k : Nat) (h : k < (A 174).length) (hl : (A 174).length < 2 ^ 31) : am_cl m_Row_get [.ref 173, .int (nI k)] (heap A F P) = some (some (.int (g (A 174) k)), heap A F P) := by
  rw [row_get (h := heap A F P) (a := 173) (q := 174) (l := A 174) rfl rfl hl, rget_nI h hl]
theorem rp_173 (A : Nat → List Int32) (F : Nat → Int32) (P : Nat → Nat) (k : Nat) (v : Int32) (h : k < (A 174).length) (hl : (A 174).length < 2 ^ 31) : am_cl m_Row_put [.ref 173, .int (nI k), .int v] (heap A F P) = some (none, heap (up A 174 ((A 174).set k v)) F P) := by
  rw [row_put (h := heap A F P) (a := 173) (q := 174) (l := A 174) rfl rfl hl, rput_nI h hl]
  rfl
theorem rg_175 (A : Nat → List Int32) (F : Nat → Int32) (P : Nat → Nat) (k : Nat) (h : k < (A 176).length) (hl : (A 176).length < 2 ^ 31) : am_cl m_Row_get [.ref 175, .int (nI k)] (heap A F P) = some (some (.int (g (A 176) k)), heap A F P) := by
  rw [row_get (h := heap A F P) (a := 175) (q := 176) (l := A 176) rfl rfl hl, rget_nI h hl]
theorem rp_175 (A : Nat → List Int32) (F : Nat → Int32) (P : Nat → Nat) (k : Nat) (v : Int32) (h : k < (A 176).length) (hl : (A 176).length < 2 ^ 31) : am_cl m_Row_put [.ref 175, .int (nI k), .int v] (heap A F P) = some (none, heap (up A 176 ((A 176).set k v)) F P) := by
  rw [row_put (h := heap A F P) (a := 175) (q := 176) (l := A 176) rfl rfl hl, rput_nI h hl]
  rfl
theorem rg_177 (A : Nat → List Int32) (F : Nat → Int32) (P : Nat → Nat) (k : Nat) (h : k < (A 178).length) (hl : (A 178).length < 2 ^ 31) : am_cl m_Row_get [.ref 177, .int (nI k)] (heap A F P) = some (some (.int (g (A 178) k)), heap A F P) := by
  rw [row_get (h := heap A F P) (a := 177) (q := 178) (l := A 178) rfl rfl hl, rget_nI h hl]
theorem rp_177 (A : Nat → List Int32) (F : Nat → Int32) (P : Nat → Nat) (k : Nat) (v : Int32) (h : k < (A 178).length) (hl : (A 178).length < 2 ^ 31) : am_cl m_Row_put [.ref 177, .int (nI k), .int v] (heap A F P) = some (none, heap (up A 178 ((A 178).set k v)) F P) := by
  rw [row_put (h := heap A F P) (a := 177) (q := 178) (l := A 178) rfl rfl hl, rput_nI h hl]
  rfl
theorem rg_179 (A : Nat → List Int32) (F : Nat → Int32) (P : Nat → Nat) (k : Nat) (h : k < (A 180).length) (hl : (A 180).length < 2 ^ 31) : am_cl m_Row_get [.ref 179, .int (nI k)] (heap A F P) = some (some (.int (g (A 180) k)), heap A F P) := by
  rw [row_get (h := heap A F P) (a := 179) (q := 180) (l := A 180) rfl rfl hl, rget_nI h hl]
theorem rp_179 (A : Nat → List Int32) (F : Nat → Int32) (P : Nat → Nat) (k : Nat) (v : Int32) (h : k < (A 180).length) (hl : (A 180).length < 2 ^ 31) : am_cl m_Row_put [.ref 179, .int (nI k), .int v] (heap A F P) = some (none, heap (up A 180 ((A 180).set k v)) F P) := by
  rw [row_put (h := heap A F P) (a := 179) (q := 180) (l := A 180) rfl rfl hl, rput_nI h hl]
  rfl
theorem rg_181 (A : Nat → List Int32) (F : Nat → Int32) (P : Nat → Nat) (k : Nat) (h : k < (A 182).length) (hl : (A 182).length < 2 ^ 31) : am_cl m_Row_get [.ref 181, .int (nI k)] (heap A F P) = some (some (.int (g (A 182) k)), heap A F P) := by
  rw [row_get (h := heap A F P) (a := 181) (q := 182) (l := A 182) rfl rfl hl, rget_nI h hl]
theorem rp_181 (A : Nat → List Int32) (F : Nat → Int32) (P : Nat → Nat) (k : Nat) (v : Int32) (h : k < (A 182).length) (hl : (A 182).length < 2 ^ 31) : am_cl m_Row_put [.ref 181, .int (nI k), .int v] (heap A F P) = some (none, heap (up A 182 ((A 182).set k v)) F P) := by
  rw [row_put (h := heap A F P) (a := 181) (q := 182) (l := A 182) rfl rfl hl, rput_nI h hl]
  rfl
theorem rg_186 (A : Nat → List Int32) (F : Nat → Int32) (P : Nat → Nat) (k : Nat) (h : k < (A 187).length) (hl : (A 187).length < 2 ^ 31) : am_cl m_Row_get [.ref 186, .int (nI k)] (heap A F P) = some (some (.int (g (A 187) k)), heap A F P) := by
  rw [row_get (h := heap A F P) (a := 186) (q := 187) (l := A 187) rfl rfl hl, rget_nI h hl]
theorem rp_186 (A : Nat → List Int32) (F : Nat → Int32) (P : Nat → Nat) (k : Nat) (v : Int32) (h : k < (A 187).length) (hl : (A 187).length < 2 ^ 31) : am_cl m_Row_put [.ref 186, .int (nI k), .int v] (heap A F P) = some (none, heap (up A 187 ((A 187).set k v)) F P) := by
  rw [row_put (h := heap A F P) (a := 186) (q := 187) (l := A 187) rfl rfl hl, rput_nI h hl]
  rfl
theorem rg_188 (A : Nat → List Int32) (F : Nat → Int32) (P : Nat → Nat) (k : Nat) (h : k < (A 189).length) (hl : (A 189).length < 2 ^ 31) : am_cl m_Row_get [.ref 188, .int (nI k)] (heap A F P) = some (some (.int (g (A 189) k)), heap A F P) := by
  rw [row_get (h := heap A F P) (a := 188) (q := 189) (l := A 189) rfl rfl hl, rget_nI h hl]
theorem rp_188 (A : Nat → List Int32) (F : Nat → Int32) (P : Nat → Nat) (k : Nat) (v : Int32) (h : k < (A 189).length) (hl : (A 189).length < 2 ^ 31) : am_cl m_Row_put [.ref 188, .int (nI k), .int v] (heap A F P) = some (none, heap (up A 189 ((A 189).set k v)) F P) := by
  rw [row_put (h := heap A F P) (a := 188) (q := 189) (l := A 189) rfl rfl hl, rput_nI h hl]
  rfl
theorem rg_190 (A : Nat → List Int32) (F : Nat → Int32) (P : Nat → Nat) (k : Nat) (h : k < (A 191).length) (hl : (A 191).length < 2 ^ 31) : am_cl m_Row_get [.ref 190, .int (nI k)] (heap A F P) = some (some (.int (g (A 191) k)), heap A F P) := by
  rw [row_get (h := heap A F P) (a := 190) (q := 191) (l := A 191) rfl rfl hl, rget_nI h hl]
theorem rp_190 (A : Nat → List Int32) (F : Nat → Int32) (P : Nat → Nat) (k : Nat) (v : Int32) (h : k < (A 191).length) (hl : (A 191).length < 2 ^ 31) : am_cl m_Row_put [.ref 190, .int (nI k), .int v] (heap A F P) = some (none, heap (up A 191 ((A 191).set k v)) F P) := by
  rw [row_put (h := heap A F P) (a := 190) (q := 191) (l := A 191) rfl rfl hl, rput_nI h hl]
  rfl
theorem rgX : (∀ (A : Nat → List Int32) (F : Nat → Int32) (P : Nat → Nat) (k : Nat) (_ : k < (A 5).length) (_ : (A 5).length < 2 ^ 31), am_cl m_Row_get [.ref 4, .int (nI k)] (heap A F P) = some (some (.int (g (A 5) k)), heap A F P)) ∧ (∀ (A : Nat → List Int32) (F : Nat → Int32) (P : Nat → Nat) (k : Nat) (_ : k < (A 7).length) (_ : (A 7).length < 2 ^ 31), am_cl m_Row_get [.ref 6, .int (nI k)] (heap A F P) = some (some (.int (g (A 7) k)), heap A F P)) ∧ (∀ (A : Nat → List Int32) (F : Nat → Int32) (P : Nat → Nat) (k : Nat) (_ : k < (A 10).length) (_ : (A 10).length < 2 ^ 31), am_cl m_Row_get [.ref 9, .int (nI k)] (heap A F P) = some (some (.int (g (A 10) k)), heap A F P)) ∧ (∀ (A : Nat → List Int32) (F : Nat → Int32) (P : Nat → Nat) (k : Nat) (_ : k < (A 12).length) (_ : (A 12).length < 2 ^ 31), am_cl m_Row_get [.ref 11, .int (nI k)] (heap A F P) = some (some (.int (g (A 12) k)), heap A F P)) ∧ (∀ (A : Nat → List Int32) (F : Nat → Int32) (P : Nat → Nat) (k : Nat) (_ : k < (A 14).length) (_ : (A 14).length < 2 ^ 31), am_cl m_Row_get [.ref 13, .int (nI k)] (heap A F P) = some (some (.int (g (A 14) k)), heap A F P)) ∧ (∀ (A : Nat → List Int32) (F : Nat → Int32) (P : Nat → Nat) (k : Nat) (_ : k < (A 16).length) (_ : (A 16).length < 2 ^ 31), am_cl m_Row_get [.ref 15, .int (nI k)] (heap A F P) = some (some (.int (g (A 16) k)), heap A F P)) ∧ (∀ (A : Nat → List Int32) (F : Nat → Int32) (P : Nat → Nat) (k : Nat) (_ : k < (A 18).length) (_ : (A 18).length < 2 ^ 31), am_cl m_Row_get [.ref 17, .int (nI k)] (heap A F P) = some (some (.int (g (A 18) k)), heap A F P)) ∧ (∀ (A : Nat → List Int32) (F : Nat → Int32) (P : Nat → Nat) (k : Nat) (_ : k < (A 21).length) (_ : (A 21).length < 2 ^ 31), am_cl m_Row_get [.ref 20, .int (nI k)] (heap A F P) = some (some (.int (g (A 21) k)), heap A F P)) ∧ (∀ (A : Nat → List Int32) (F : Nat → Int32) (P : Nat → Nat) (k : Nat) (_ : k < (A 23).length) (_ : (A 23).length < 2 ^ 31), am_cl m_Row_get [.ref 22, .int (nI k)] (heap A F P) = some (some (.int (g (A 23) k)), heap A F P)) ∧ (∀ (A : Nat → List Int32) (F : Nat → Int32) (P : Nat → Nat) (k : Nat) (_ : k < (A 25).length) (_ : (A 25).length < 2 ^ 31), am_cl m_Row_get [.ref 24, .int (nI k)] (heap A F P) = some (some (.int (g (A 25) k)), heap A F P)) ∧ (∀ (A : Nat → List Int32) (F : Nat → Int32) (P : Nat → Nat) (k : Nat) (_ : k < (A 27).length) (_ : (A 27).length < 2 ^ 31), am_cl m_Row_get [.ref 26, .int (nI k)] (heap A F P) = some (some (.int (g (A 27) k)), heap A F P)) ∧ (∀ (A : Nat → List Int32) (F : Nat → Int32) (P : Nat → Nat) (k : Nat) (_ : k < (A 29).length) (_ : (A 29).length < 2 ^ 31), am_cl m_Row_get [.ref 28, .int (nI k)] (heap A F P) = some (some (.int (g (A 29) k)), heap A F P)) ∧ (∀ (A : Nat → List Int32) (F : Nat → Int32) (P : Nat → Nat) (k : Nat) (_ : k < (A 31).length) (_ : (A 31).length < 2 ^ 31), am_cl m_Row_get [.ref 30, .int (nI k)] (heap A F P) = some (some (.int (g (A 31) k)), heap A F P)) ∧ (∀ (A : Nat → List Int32) (F : Nat → Int32) (P : Nat → Nat) (k : Nat) (_ : k < (A 33).length) (_ : (A 33).length < 2 ^ 31), am_cl m_Row_get [.ref 32, .int (nI k)] (heap A F P) = some (some (.int (g (A 33) k)), heap A F P)) ∧ (∀ (A : Nat → List Int32) (F : Nat → Int32) (P : Nat → Nat) (k : Nat) (_ : k < (A 166).length) (_ : (A 166).length < 2 ^ 31), am_cl m_Row_get [.ref 165, .int (nI k)] (heap A F P) = some (some (.int (g (A 166) k)), heap A F P)) ∧ (∀ (A : Nat → List Int32) (F : Nat → Int32) (P : Nat → Nat) (k : Nat) (_ : k < (A 168).length) (_ : (A 168).length < 2 ^ 31), am_cl m_Row_get [.ref 167, .int (nI k)] (heap A F P) = some (some (.int (g (A 168) k)), heap A F P)) ∧ (∀ (A : Nat → List Int32) (F : Nat → Int32) (P : Nat → Nat) (k : Nat) (_ : k < (A 170).length) (_ : (A 170).length < 2 ^ 31), am_cl m_Row_get [.ref 169, .int (nI k)] (heap A F P) = some (some (.int (g (A 170) k)), heap A F P)) ∧ (∀ (A : Nat → List Int32) (F : Nat → Int32) (P : Nat → Nat) (k : Nat) (_ : k < (A 172).length) (_ : (A 172).length < 2 ^ 31), am_cl m_Row_get [.ref 171, .int (nI k)] (heap A F P) = some (some (.int (g (A 172) k)), heap A F P)) ∧ (∀ (A : Nat → List Int32) (F : Nat → Int32) (P : Nat → Nat) (k : Nat) (_ : k < (A 174).length) (_ : (A 174).length < 2 ^ 31), am_cl m_Row_get [.ref 173, .int (nI k)] (heap A F P) = some (some (.int (g (A 174) k)), heap A F P)) ∧ (∀ (A : Nat → List Int32) (F : Nat → Int32) (P : Nat → Nat) (k : Nat) (_ : k < (A 176).length) (_ : (A 176).length < 2 ^ 31), am_cl m_Row_get [.ref 175, .int (nI k)] (heap A F P) = some (some (.int (g (A 176) k)), heap A F P)) ∧ (∀ (A : Nat → List Int32) (F : Nat → Int32) (P : Nat → Nat) (k : Nat) (_ : k < (A 178).length) (_ : (A 178).length < 2 ^ 31), am_cl m_Row_get [.ref 177, .int (nI k)] (heap A F P) = some (some (.int (g (A 178) k)), heap A F P)) ∧ (∀ (A : Nat → List Int32) (F : Nat → Int32) (P : Nat → Nat) (k : Nat) (_ : k < (A 180).length) (_ : (A 180).length < 2 ^ 31), am_cl m_Row_get [.ref 179, .int (nI k)] (heap A F P) = some (some (.int (g (A 180) k)), heap A F P)) ∧ (∀ (A : Nat → List Int32) (F : Nat → Int32) (P : Nat → Nat) (k : Nat) (_ : k < (A 182).length) (_ : (A 182).length < 2 ^ 31), am_cl m_Row_get [.ref 181, .int (nI k)] (heap A F P) = some (some (.int (g (A 182) k)), heap A F P)) ∧ (∀ (A : Nat → List Int32) (F : Nat → Int32) (P : Nat → Nat) (k : Nat) (_ : k < (A 187).length) (_ : (A 187).length < 2 ^ 31), am_cl m_Row_get [.ref 186, .int (nI k)] (heap A F P) = some (some (.int (g (A 187) k)), heap A F P)) ∧ (∀ (A : Nat → List Int32) (F : Nat → Int32) (P : Nat → Nat) (k : Nat) (_ : k < (A 189).length) (_ : (A 189).length < 2 ^ 31), am_cl m_Row_get [.ref 188, .int (nI k)] (heap A F P) = some (some (.int (g (A 189) k)), heap A F P)) ∧ (∀ (A : Nat → List Int32) (F : Nat → Int32) (P : Nat → Nat) (k : Nat) (_ : k < (A 191).length) (_ : (A 191).length < 2 ^ 31), am_cl m_Row_get [.ref 190, .int (nI k)] (heap A F P) = some (some (.int (g (A 191) k)), heap A F P)) := ⟨rg_4, rg_6, rg_9, rg_11, rg_13, rg_15, rg_17, rg_20, rg_22, rg_24, rg_26, rg_28, rg_30, rg_32, rg_165, rg_167, rg_169, rg_171, rg_173, rg_175, rg_177, rg_179, rg_181, rg_186, rg_188, rg_190⟩
theorem rpX : (∀ (A : Nat → List Int32) (F : Nat → Int32) (P : Nat → Nat) (k : Nat) (v : Int32) (_ : k < (A 5).length) (_ : (A 5).length < 2 ^ 31), am_cl m_Row_put [.ref 4, .int (nI k), .int v] (heap A F P) = some (none, heap (up A 5 ((A 5).set k v)) F P)) ∧ (∀ (A : Nat → List Int32) (F : Nat → Int32) (P : Nat → Nat) (k : Nat) (v : Int32) (_ : k < (A 7).length) (_ : (A 7).length < 2 ^ 31), am_cl m_Row_put [.ref 6, .int (nI k), .int v] (heap A F P) = some (none, heap (up A 7 ((A 7).set k v)) F P)) ∧ (∀ (A : Nat → List Int32) (F : Nat → Int32) (P : Nat → Nat) (k : Nat) (v : Int32) (_ : k < (A 10).length) (_ : (A 10).length < 2 ^ 31), am_cl m_Row_put [.ref 9, .int (nI k), .int v] (heap A F P) = some (none, heap (up A 10 ((A 10).set k v)) F P)) ∧ (∀ (A : Nat → List Int32) (F : Nat → Int32) (P : Nat → Nat) (k : Nat) (v : Int32) (_ : k < (A 12).length) (_ : (A 12).length < 2 ^ 31), am_cl m_Row_put [.ref 11, .int (nI k), .int v] (heap A F P) = some (none, heap (up A 12 ((A 12).set k v)) F P)) ∧ (∀ (A : Nat → List Int32) (F : Nat → Int32) (P : Nat → Nat) (k : Nat) (v : Int32) (_ : k < (A 14).length) (_ : (A 14).length < 2 ^ 31), am_cl m_Row_put [.ref 13, .int (nI k), .int v] (heap A F P) = some (none, heap (up A 14 ((A 14).set k v)) F P)) ∧ (∀ (A : Nat → List Int32) (F : Nat → Int32) (P : Nat → Nat) (k : Nat) (v : Int32) (_ : k < (A 16).length) (_ : (A 16).length < 2 ^ 31), am_cl m_Row_put [.ref 15, .int (nI k), .int v] (heap A F P) = some (none, heap (up A 16 ((A 16).set k v)) F P)) ∧ (∀ (A : Nat → List Int32) (F : Nat → Int32) (P : Nat → Nat) (k : Nat) (v : Int32) (_ : k < (A 18).length) (_ : (A 18).length < 2 ^ 31), am_cl m_Row_put [.ref 17, .int (nI k), .int v] (heap A F P) = some (none, heap (up A 18 ((A 18).set k v)) F P)) ∧ (∀ (A : Nat → List Int32) (F : Nat → Int32) (P : Nat → Nat) (k : Nat) (v : Int32) (_ : k < (A 21).length) (_ : (A 21).length < 2 ^ 31), am_cl m_Row_put [.ref 20, .int (nI k), .int v] (heap A F P) = some (none, heap (up A 21 ((A 21).set k v)) F P)) ∧ (∀ (A : Nat → List Int32) (F : Nat → Int32) (P : Nat → Nat) (k : Nat) (v : Int32) (_ : k < (A 23).length) (_ : (A 23).length < 2 ^ 31), am_cl m_Row_put [.ref 22, .int (nI k), .int v] (heap A F P) = some (none, heap (up A 23 ((A 23).set k v)) F P)) ∧ (∀ (A : Nat → List Int32) (F : Nat → Int32) (P : Nat → Nat) (k : Nat) (v : Int32) (_ : k < (A 25).length) (_ : (A 25).length < 2 ^ 31), am_cl m_Row_put [.ref 24, .int (nI k), .int v] (heap A F P) = some (none, heap (up A 25 ((A 25).set k v)) F P)) ∧ (∀ (A : Nat → List Int32) (F : Nat → Int32) (P : Nat → Nat) (k : Nat) (v : Int32) (_ : k < (A 27).length) (_ : (A 27).length < 2 ^ 31), am_cl m_Row_put [.ref 26, .int (nI k), .int v] (heap A F P) = some (none, heap (up A 27 ((A 27).set k v)) F P)) ∧ (∀ (A : Nat → List Int32) (F : Nat → Int32) (P : Nat → Nat) (k : Nat) (v : Int32) (_ : k < (A 29).length) (_ : (A 29).length < 2 ^ 31), am_cl m_Row_put [.ref 28, .int (nI k), .int v] (heap A F P) = some (none, heap (up A 29 ((A 29).set k v)) F P)) ∧ (∀ (A : Nat → List Int32) (F : Nat → Int32) (P : Nat → Nat) (k : Nat) (v : Int32) (_ : k < (A 31).length) (_ : (A 31).length < 2 ^ 31), am_cl m_Row_put [.ref 30, .int (nI k), .int v] (heap A F P) = some (none, heap (up A 31 ((A 31).set k v)) F P)) ∧ (∀ (A : Nat → List Int32) (F : Nat → Int32) (P : Nat → Nat) (k : Nat) (v : Int32) (_ : k < (A 33).length) (_ : (A 33).length < 2 ^ 31), am_cl m_Row_put [.ref 32, .int (nI k), .int v] (heap A F P) = some (none, heap (up A 33 ((A 33).set k v)) F P)) ∧ (∀ (A : Nat → List Int32) (F : Nat → Int32) (P : Nat → Nat) (k : Nat) (v : Int32) (_ : k < (A 166).length) (_ : (A 166).length < 2 ^ 31), am_cl m_Row_put [.ref 165, .int (nI k), .int v] (heap A F P) = some (none, heap (up A 166 ((A 166).set k v)) F P)) ∧ (∀ (A : Nat → List Int32) (F : Nat → Int32) (P : Nat → Nat) (k : Nat) (v : Int32) (_ : k < (A 168).length) (_ : (A 168).length < 2 ^ 31), am_cl m_Row_put [.ref 167, .int (nI k), .int v] (heap A F P) = some (none, heap (up A 168 ((A 168).set k v)) F P)) ∧ (∀ (A : Nat → List Int32) (F : Nat → Int32) (P : Nat → Nat) (k : Nat) (v : Int32) (_ : k < (A 170).length) (_ : (A 170).length < 2 ^ 31), am_cl m_Row_put [.ref 169, .int (nI k), .int v] (heap A F P) = some (none, heap (up A 170 ((A 170).set k v)) F P)) ∧ (∀ (A : Nat → List Int32) (F : Nat → Int32) (P : Nat → Nat) (k : Nat) (v : Int32) (_ : k < (A 172).length) (_ : (A 172).length < 2 ^ 31), am_cl m_Row_put [.ref 171, .int (nI k), .int v] (heap A F P) = some (none, heap (up A 172 ((A 172).set k v)) F P)) ∧ (∀ (A : Nat → List Int32) (F : Nat → Int32) (P : Nat → Nat) (k : Nat) (v : Int32) (_ : k < (A 174).length) (_ : (A 174).length < 2 ^ 31), am_cl m_Row_put [.ref 173, .int (nI k), .int v] (heap A F P) = some (none, heap (up A 174 ((A 174).set k v)) F P)) ∧ (∀ (A : Nat → List Int32) (F : Nat → Int32) (P : Nat → Nat) (k : Nat) (v : Int32) (_ : k < (A 176).length) (_ : (A 176).length < 2 ^ 31), am_cl m_Row_put [.ref 175, .int (nI k), .int v] (heap A F P) = some (none, heap (up A 176 ((A 176).set k v)) F P)) ∧ (∀ (A : Nat → List Int32) (F : Nat → Int32) (P : Nat → Nat) (k : Nat) (v : Int32) (_ : k < (A 178).length) (_ : (A 178).length < 2 ^ 31), am_cl m_Row_put [.ref 177, .int (nI k), .int v] (heap A F P) = some (none, heap (up A 178 ((A 178).set k v)) F P)) ∧ (∀ (A : Nat → List Int32) (F : Nat → Int32) (P : Nat → Nat) (k : Nat) (v : Int32) (_ : k < (A 180).length) (_ : (A 180).length < 2 ^ 31), am_cl m_Row_put [.ref 179, .int (nI k), .int v] (heap A F P) = some (none, heap (up A 180 ((A 180).set k v)) F P)) ∧ (∀ (A : Nat → List Int32) (F : Nat → Int32) (P : Nat → Nat) (k : Nat) (v : Int32) (_ : k < (A 182).length) (_ : (A 182).length < 2 ^ 31), am_cl m_Row_put [.ref 181, .int (nI k), .int v] (heap A F P) = some (none, heap (up A 182 ((A 182).set k v)) F P)) ∧ (∀ (A : Nat → List Int32) (F : Nat → Int32) (P : Nat → Nat) (k : Nat) (v : Int32) (_ : k < (A 187).length) (_ : (A 187).length < 2 ^ 31), am_cl m_Row_put [.ref 186, .int (nI k), .int v] (heap A F P) = some (none, heap (up A 187 ((A 187).set k v)) F P)) ∧ (∀ (A : Nat → List Int32) (F : Nat → Int32) (P : Nat → Nat) (k : Nat) (v : Int32) (_ : k < (A 189).length) (_ : (A 189).length < 2 ^ 31), am_cl m_Row_put [.ref 188, .int (nI k), .int v] (heap A F P) = some (none, heap (up A 189 ((A 189).set k v)) F P)) ∧ (∀ (A : Nat → List Int32) (F : Nat → Int32) (P : Nat → Nat) (k : Nat) (v : Int32) (_ : k < (A 191).length) (_ : (A 191).length < 2 ^ 31), am_cl m_Row_put [.ref 190, .int (nI k), .int v] (heap A F P) = some (none, heap (up A 191 ((A 191).set k v)) F P)) := ⟨rp_4, rp_6, rp_9, rp_11, rp_13, rp_15, rp_17, rp_20, rp_22, rp_24, rp_26, rp_28, rp_30, rp_32, rp_165, rp_167, rp_169, rp_171, rp_173, rp_175, rp_177, rp_179, rp_181, rp_186, rp_188, rp_190⟩
theorem rc_38_4 (A : Nat → List Int32) (F : Nat → Int32) (P : Nat → Nat) (hl : (A 5).length = (A 39).length) (hs : (A 39).length < 2 ^ 31) : am_cl m_Row_copy [.ref 38, .ref 4] (heap A F P) = some (none, heap (up A 39 (A 5)) F P) := by
  rw [row_copy (h := heap A F P) (a := 38) (b := 4) (q := 39) (s := 5) (l := A 39) (f := A 5) rfl rfl rfl rfl hl hs]
  rfl
theorem rc_4_38 (A : Nat → List Int32) (F : Nat → Int32) (P : Nat → Nat) (hl : (A 39).length = (A 5).length) (hs : (A 5).length < 2 ^ 31) : am_cl m_Row_copy [.ref 4, .ref 38] (heap A F P) = some (none, heap (up A 5 (A 39)) F P) := by
  rw [row_copy (h := heap A F P) (a := 4) (b := 38) (q := 5) (s := 39) (l := A 5) (f := A 39) rfl rfl rfl rfl hl hs]
  rfl
theorem rc_40_6 (A : Nat → List Int32) (F : Nat → Int32) (P : Nat → Nat) (hl : (A 7).length = (A 41).length) (hs : (A 41).length < 2 ^ 31) : am_cl m_Row_copy [.ref 40, .ref 6] (heap A F P) = some (none, heap (up A 41 (A 7)) F P) := by
  rw [row_copy (h := heap A F P) (a := 40) (b := 6) (q := 41) (s := 7) (l := A 41) (f := A 7) rfl rfl rfl rfl hl hs]
  rfl
theorem rc_6_40 (A : Nat → List Int32) (F : Nat → Int32) (P : Nat → Nat) (hl : (A 41).length = (A 7).length) (hs : (A 7).length < 2 ^ 31) : am_cl m_Row_copy [.ref 6, .ref 40] (heap A F P) = some (none, heap (up A 7 (A 41)) F P) := by
  rw [row_copy (h := heap A F P) (a := 6) (b := 40) (q := 7) (s := 41) (l := A 7) (f := A 41) rfl rfl rfl rfl hl hs]
  rfl
theorem rc_43_9 (A : Nat → List Int32) (F : Nat → Int32) (P : Nat → Nat) (hl : (A 10).length = (A 44).length) (hs : (A 44).length < 2 ^ 31) : am_cl m_Row_copy [.ref 43, .ref 9] (heap A F P) = some (none, heap (up A 44 (A 10)) F P) := by
  rw [row_copy (h := heap A F P) (a := 43) (b := 9) (q := 44) (s := 10) (l := A 44) (f := A 10) rfl rfl rfl rfl hl hs]
  rfl
theorem rc_9_43 (A : Nat → List Int32) (F : Nat → Int32) (P : Nat → Nat) (hl : (A 44).length = (A 10).length) (hs : (A 10).length < 2 ^ 31) : am_cl m_Row_copy [.ref 9, .ref 43] (heap A F P) = some (none, heap (up A 10 (A 44)) F P) := by
  rw [row_copy (h := heap A F P) (a := 9) (b := 43) (q := 10) (s := 44) (l := A 10) (f := A 44) rfl rfl rfl rfl hl hs]
  rfl
theorem rc_45_11 (A : Nat → List Int32) (F : Nat → Int32) (P : Nat → Nat) (hl : (A 12).length = (A 46).length) (hs : (A 46).length < 2 ^ 31) : am_cl m_Row_copy [.ref 45, .ref 11] (heap A F P) = some (none, heap (up A 46 (A 12)) F P) := by
  rw [row_copy (h := heap A F P) (a := 45) (b := 11) (q := 46) (s := 12) (l := A 46) (f := A 12) rfl rfl rfl rfl hl hs]
  rfl
theorem rc_11_45 (A : Nat → List Int32) (F : Nat → Int32) (P : Nat → Nat) (hl : (A 46).length = (A 12).length) (hs : (A 12).length < 2 ^ 31) : am_cl m_Row_copy [.ref 11, .ref 45] (heap A F P) = some (none, heap (up A 12 (A 46)) F P) := by
  rw [row_copy (h := heap A F P) (a := 11) (b := 45) (q := 12) (s := 46) (l := A 12) (f := A 46) rfl rfl rfl rfl hl hs]
  rfl
theorem rc_47_13 (A : Nat → List Int32) (F : Nat → Int32) (P : Nat → Nat) (hl : (A 14).length = (A 48).length) (hs : (A 48).length < 2 ^ 31) : am_cl m_Row_copy [.ref 47, .ref 13] (heap A F P) = some (none, heap (up A 48 (A 14)) F P) := by
  rw [row_copy (h := heap A F P) (a := 47) (b := 13) (q := 48) (s := 14) (l := A 48) (f := A 14) rfl rfl rfl rfl hl hs]
  rfl
theorem rc_13_47 (A : Nat → List Int32) (F : Nat → Int32) (P : Nat → Nat) (hl : (A 48).length = (A 14).length) (hs : (A 14).length < 2 ^ 31) : am_cl m_Row_copy [.ref 13, .ref 47] (heap A F P) = some (none, heap (up A 14 (A 48)) F P) := by
  rw [row_copy (h := heap A F P) (a := 13) (b := 47) (q := 14) (s := 48) (l := A 14) (f := A 48) rfl rfl rfl rfl hl hs]
  rfl
theorem rc_49_15 (A : Nat → List Int32) (F : Nat → Int32) (P : Nat → Nat) (hl : (A 16).length = (A 50).length) (hs : (A 50).length < 2 ^ 31) : am_cl m_Row_copy [.ref 49, .ref 15] (heap A F P) = some (none, heap (up A 50 (A 16)) F P) := by
  rw [row_copy (h := heap A F P) (a := 49) (b := 15) (q := 50) (s := 16) (l := A 50) (f := A 16) rfl rfl rfl rfl hl hs]
  rfl
theorem rc_15_49 (A : Nat → List Int32) (F : Nat → Int32) (P : Nat → Nat) (hl : (A 50).length = (A 16).length) (hs : (A 16).length < 2 ^ 31) : am_cl m_Row_copy [.ref 15, .ref 49] (heap A F P) = some (none, heap (up A 16 (A 50)) F P) := by
  rw [row_copy (h := heap A F P) (a := 15) (b := 49) (q := 16) (s := 50) (l := A 16) (f := A 50) rfl rfl rfl rfl hl hs]
  rfl
theorem rc_51_17 (A : Nat → List Int32) (F : Nat → Int32) (P : Nat → Nat) (hl : (A 18).length = (A 52).length) (hs : (A 52).length < 2 ^ 31) : am_cl m_Row_copy [.ref 51, .ref 17] (heap A F P) = some (none, heap (up A 52 (A 18)) F P) := by
  rw [row_copy (h := heap A F P) (a := 51) (b := 17) (q := 52) (s := 18) (l := A 52) (f := A 18) rfl rfl rfl rfl hl hs]
  rfl
theorem rc_17_51 (A : Nat → List Int32) (F : Nat → Int32) (P : Nat → Nat) (hl : (A 52).length = (A 18).length) (hs : (A 18).length < 2 ^ 31) : am_cl m_Row_copy [.ref 17, .ref 51] (heap A F P) = some (none, heap (up A 18 (A 52)) F P) := by
  rw [row_copy (h := heap A F P) (a := 17) (b := 51) (q := 18) (s := 52) (l := A 18) (f := A 52) rfl rfl rfl rfl hl hs]
  rfl
theorem rc_54_20 (A : Nat → List Int32) (F : Nat → Int32) (P : Nat → Nat) (hl : (A 21).length = (A 55).length) (hs : (A 55).length < 2 ^ 31) : am_cl m_Row_copy [.ref 54, .ref 20] (heap A F P) = some (none, heap (up A 55 (A 21)) F P) := by
  rw [row_copy (h := heap A F P) (a := 54) (b := 20) (q := 55) (s := 21) (l := A 55) (f := A 21) rfl rfl rfl rfl hl hs]
  rfl
theorem rc_20_54 (A : Nat → List Int32) (F : Nat → Int32) (P : Nat → Nat) (hl : (A 55).length = (A 21).length) (hs : (A 21).length < 2 ^ 31) : am_cl m_Row_copy [.ref 20, .ref 54] (heap A F P) = some (none, heap (up A 21 (A 55)) F P) := by
  rw [row_copy (h := heap A F P) (a := 20) (b := 54) (q := 21) (s := 55) (l := A 21) (f := A 55) rfl rfl rfl rfl hl hs]
  rfl
theorem rc_56_22 (A : Nat → List Int32) (F : Nat → Int32) (P : Nat → Nat) (hl : (A 23).length = (A 57).length) (hs : (A 57).length < 2 ^ 31) : am_cl m_Row_copy [.ref 56, .ref 22] (heap A F P) = some (none, heap (up A 57 (A 23)) F P) := by
  rw [row_copy (h := heap A F P) (a := 56) (b := 22) (q := 57) (s := 23) (l := A 57) (f := A 23) rfl rfl rfl rfl hl hs]
  rfl
theorem rc_22_56 (A : Nat → List Int32) (F : Nat → Int32) (P : Nat → Nat) (hl : (A 57).length = (A 23).length) (hs : (A 23).length < 2 ^ 31) : am_cl m_Row_copy [.ref 22, .ref 56] (heap A F P) = some (none, heap (up A 23 (A 57)) F P) := by
  rw [row_copy (h := heap A F P) (a := 22) (b := 56) (q := 23) (s := 57) (l := A 23) (f := A 57) rfl rfl rfl rfl hl hs]
  rfl
theorem rc_58_24 (A : Nat → List Int32) (F : Nat → Int32) (P : Nat → Nat) (hl : (A 25).length = (A 59).length) (hs : (A 59).length < 2 ^ 31) : am_cl m_Row_copy [.ref 58, .ref 24] (heap A F P) = some (none, heap (up A 59 (A 25)) F P) := by
  rw [row_copy (h := heap A F P) (a := 58) (b := 24) (q := 59) (s := 25) (l := A 59) (f := A 25) rfl rfl rfl rfl hl hs]
  rfl
theorem rc_24_58 (A : Nat → List Int32) (F : Nat → Int32) (P : Nat → Nat) (hl : (A 59).length = (A 25).length) (hs : (A 25).length < 2 ^ 31) : am_cl m_Row_copy [.ref 24, .ref 58] (heap A F P) = some (none, heap (up A 25 (A 59)) F P) := by
  rw [row_copy (h := heap A F P) (a := 24) (b := 58) (q := 25) (s := 59) (l := A 25) (f := A 59) rfl rfl rfl rfl hl hs]
  rfl
theorem rc_60_26 (A : Nat → List Int32) (F : Nat → Int32) (P : Nat → Nat) (hl : (A 27).length = (A 61).length) (hs : (A 61).length < 2 ^ 31) : am_cl m_Row_copy [.ref 60, .ref 26] (heap A F P) = some (none, heap (up A 61 (A 27)) F P) := by
  rw [row_copy (h := heap A F P) (a := 60) (b := 26) (q := 61) (s := 27) (l := A 61) (f := A 27) rfl rfl rfl rfl hl hs]
  rfl
theorem rc_26_60 (A : Nat → List Int32) (F : Nat → Int32) (P : Nat → Nat) (hl : (A 61).length = (A 27).length) (hs : (A 27).length < 2 ^ 31) : am_cl m_Row_copy [.ref 26, .ref 60] (heap A F P) = some (none, heap (up A 27 (A 61)) F P) := by
  rw [row_copy (h := heap A F P) (a := 26) (b := 60) (q := 27) (s := 61) (l := A 27) (f := A 61) rfl rfl rfl rfl hl hs]
  rfl
theorem rc_62_28 (A : Nat → List Int32) (F : Nat → Int32) (P : Nat → Nat) (hl : (A 29).length = (A 63).length) (hs : (A 63).length < 2 ^ 31) : am_cl m_Row_copy [.ref 62, .ref 28] (heap A F P) = some (none, heap (up A 63 (A 29)) F P) := by
  rw [row_copy (h := heap A F P) (a := 62) (b := 28) (q := 63) (s := 29) (l := A 63) (f := A 29) rfl rfl rfl rfl hl hs]
  rfl
theorem rc_28_62 (A : Nat → List Int32) (F : Nat → Int32) (P : Nat → Nat) (hl : (A 63).length = (A 29).length) (hs : (A 29).length < 2 ^ 31) : am_cl m_Row_copy [.ref 28, .ref 62] (heap A F P) = some (none, heap (up A 29 (A 63)) F P) := by
  rw [row_copy (h := heap A F P) (a := 28) (b := 62) (q := 29) (s := 63) (l := A 29) (f := A 63) rfl rfl rfl rfl hl hs]
  rfl
theorem rc_64_30 (A : Nat → List Int32) (F : Nat → Int32) (P : Nat → Nat) (hl : (A 31).length = (A 65).length) (hs : (A 65).length < 2 ^ 31) : am_cl m_Row_copy [.ref 64, .ref 30] (heap A F P) = some (none, heap (up A 65 (A 31)) F P) := by
  rw [row_copy (h := heap A F P) (a := 64) (b := 30) (q := 65) (s := 31) (l := A 65) (f := A 31) rfl rfl rfl rfl hl hs]
  rfl
theorem rc_30_64 (A : Nat → List Int32) (F : Nat → Int32) (P : Nat → Nat) (hl : (A 65).length = (A 31).length) (hs : (A 31).length < 2 ^ 31) : am_cl m_Row_copy [.ref 30, .ref 64] (heap A F P) = some (none, heap (up A 31 (A 65)) F P) := by
  rw [row_copy (h := heap A F P) (a := 30) (b := 64) (q := 31) (s := 65) (l := A 31) (f := A 65) rfl rfl rfl rfl hl hs]
  rfl
theorem rc_66_32 (A : Nat → List Int32) (F : Nat → Int32) (P : Nat → Nat) (hl : (A 33).length = (A 67).length) (hs : (A 67).length < 2 ^ 31) : am_cl m_Row_copy [.ref 66, .ref 32] (heap A F P) = some (none, heap (up A 67 (A 33)) F P) := by
  rw [row_copy (h := heap A F P) (a := 66) (b := 32) (q := 67) (s := 33) (l := A 67) (f := A 33) rfl rfl rfl rfl hl hs]
  rfl
theorem rc_32_66 (A : Nat → List Int32) (F : Nat → Int32) (P : Nat → Nat) (hl : (A 67).length = (A 33).length) (hs : (A 33).length < 2 ^ 31) : am_cl m_Row_copy [.ref 32, .ref 66] (heap A F P) = some (none, heap (up A 33 (A 67)) F P) := by
  rw [row_copy (h := heap A F P) (a := 32) (b := 66) (q := 33) (s := 67) (l := A 33) (f := A 67) rfl rfl rfl rfl hl hs]
  rfl
theorem rc_70_4 (A : Nat → List Int32) (F : Nat → Int32) (P : Nat → Nat) (hl : (A 5).length = (A 71).length) (hs : (A 71).length < 2 ^ 31) : am_cl m_Row_copy [.ref 70, .ref 4] (heap A F P) = some (none, heap (up A 71 (A 5)) F P) := by
  rw [row_copy (h := heap A F P) (a := 70) (b := 4) (q := 71) (s := 5) (l := A 71) (f := A 5) rfl rfl rfl rfl hl hs]
  rfl
theorem rc_4_70 (A : Nat → List Int32) (F : Nat → Int32) (P : Nat → Nat) (hl : (A 71).length = (A 5).length) (hs : (A 5).length < 2 ^ 31) : am_cl m_Row_copy [.ref 4, .ref 70] (heap A F P) = some (none, heap (up A 5 (A 71)) F P) := by
  rw [row_copy (h := heap A F P) (a := 4) (b := 70) (q := 5) (s := 71) (l := A 5) (f := A 71) rfl rfl rfl rfl hl hs]
  rfl
theorem rc_72_6 (A : Nat → List Int32) (F : Nat → Int32) (P : Nat → Nat) (hl : (A 7).length = (A 73).length) (hs : (A 73).length < 2 ^ 31) : am_cl m_Row_copy [.ref 72, .ref 6] (heap A F P) = some (none, heap (up A 73 (A 7)) F P) := by
  rw [row_copy (h := heap A F P) (a := 72) (b := 6) (q := 73) (s := 7) (l := A 73) (f := A 7) rfl rfl rfl rfl hl hs]
  rfl
theorem rc_6_72 (A : Nat → List Int32) (F : Nat → Int32) (P : Nat → Nat) (hl : (A 73).length = (A 7).length) (hs : (A 7).length < 2 ^ 31) : am_cl m_Row_copy [.ref 6, .ref 72] (heap A F P) = some (none, heap (up A 7 (A 73)) F P) := by
  rw [row_copy (h := heap A F P) (a := 6) (b := 72) (q := 7) (s := 73) (l := A 7) (f := A 73) rfl rfl rfl rfl hl hs]
  rfl
theorem rc_75_9 (A : Nat → List Int32) (F : Nat → Int32) (P : Nat → Nat) (hl : (A 10).length = (A 76).length) (hs : (A 76).length < 2 ^ 31) : am_cl m_Row_copy [.ref 75, .ref 9] (heap A F P) = some (none, heap (up A 76 (A 10)) F P) := by
  rw [row_copy (h := heap A F P) (a := 75) (b := 9) (q := 76) (s := 10) (l := A 76) (f := A 10) rfl rfl rfl rfl hl hs]
  rfl
theorem rc_9_75 (A : Nat → List Int32) (F : Nat → Int32) (P : Nat → Nat) (hl : (A 76).length = (A 10).length) (hs : (A 10).length < 2 ^ 31) : am_cl m_Row_copy [.ref 9, .ref 75] (heap A F P) = some (none, heap (up A 10 (A 76)) F P) := by
  rw [row_copy (h := heap A F P) (a := 9) (b := 75) (q := 10) (s := 76) (l := A 10) (f := A 76) rfl rfl rfl rfl hl hs]
  rfl
theorem rc_77_11 (A : Nat → List Int32) (F : Nat → Int32) (P : Nat → Nat) (hl : (A 12).length = (A 78).length) (hs : (A 78).length < 2 ^ 31) : am_cl m_Row_copy [.ref 77, .ref 11] (heap A F P) = some (none, heap (up A 78 (A 12)) F P) := by
  rw [row_copy (h := heap A F P) (a := 77) (b := 11) (q := 78) (s := 12) (l := A 78) (f := A 12) rfl rfl rfl rfl hl hs]
  rfl
theorem rc_11_77 (A : Nat → List Int32) (F : Nat → Int32) (P : Nat → Nat) (hl : (A 78).length = (A 12).length) (hs : (A 12).length < 2 ^ 31) : am_cl m_Row_copy [.ref 11, .ref 77] (heap A F P) = some (none, heap (up A 12 (A 78)) F P) := by
  rw [row_copy (h := heap A F P) (a := 11) (b := 77) (q := 12) (s := 78) (l := A 12) (f := A 78) rfl rfl rfl rfl hl hs]
  rfl
theorem rc_79_13 (A : Nat → List Int32) (F : Nat → Int32) (P : Nat → Nat) (hl : (A 14).length = (A 80).length) (hs : (A 80).length < 2 ^ 31) : am_cl m_Row_copy [.ref 79, .ref 13] (heap A F P) = some (none, heap (up A 80 (A 14)) F P) := by
  rw [row_copy (h := heap A F P) (a := 79) (b := 13) (q := 80) (s := 14) (l := A 80) (f := A 14) rfl rfl rfl rfl hl hs]
  rfl
theorem rc_13_79 (A : Nat → List Int32) (F : Nat → Int32) (P : Nat → Nat) (hl : (A 80).length = (A 14).length) (hs : (A 14).length < 2 ^ 31) : am_cl m_Row_copy [.ref 13, .ref 79] (heap A F P) = some (none, heap (up A 14 (A 80)) F P) := by
  rw [row_copy (h := heap A F P) (a := 13) (b := 79) (q := 14) (s := 80) (l := A 14) (f := A 80) rfl rfl rfl rfl hl hs]
  rfl
theorem rc_81_15 (A : Nat → List Int32) (F : Nat → Int32) (P : Nat → Nat) (hl : (A 16).length = (A 82).length) (hs : (A 82).length < 2 ^ 31) : am_cl m_Row_copy [.ref 81, .ref 15] (heap A F P) = some (none, heap (up A 82 (A 16)) F P) := by
  rw [row_copy (h := heap A F P) (a := 81) (b := 15) (q := 82) (s := 16) (l := A 82) (f := A 16) rfl rfl rfl rfl hl hs]
  rfl
theorem rc_15_81 (A : Nat → List Int32) (F : Nat → Int32) (P : Nat → Nat) (hl : (A 82).length = (A 16).length) (hs : (A 16).length < 2 ^ 31) : am_cl m_Row_copy [.ref 15, .ref 81] (heap A F P) = some (none, heap (up A 16 (A 82)) F P) := by
  rw [row_copy (h := heap A F P) (a := 15) (b := 81) (q := 16) (s := 82) (l := A 16) (f := A 82) rfl rfl rfl rfl hl hs]
  rfl
theorem rc_83_17 (A : Nat → List Int32) (F : Nat → Int32) (P : Nat → Nat) (hl : (A 18).length = (A 84).length) (hs : (A 84).length < 2 ^ 31) : am_cl m_Row_copy [.ref 83, .ref 17] (heap A F P) = some (none, heap (up A 84 (A 18)) F P) := by
  rw [row_copy (h := heap A F P) (a := 83) (b := 17) (q := 84) (s := 18) (l := A 84) (f := A 18) rfl rfl rfl rfl hl hs]
  rfl
theorem rc_17_83 (A : Nat → List Int32) (F : Nat → Int32) (P : Nat → Nat) (hl : (A 84).length = (A 18).length) (hs : (A 18).length < 2 ^ 31) : am_cl m_Row_copy [.ref 17, .ref 83] (heap A F P) = some (none, heap (up A 18 (A 84)) F P) := by
  rw [row_copy (h := heap A F P) (a := 17) (b := 83) (q := 18) (s := 84) (l := A 18) (f := A 84) rfl rfl rfl rfl hl hs]
  rfl
theorem rc_86_20 (A : Nat → List Int32) (F : Nat → Int32) (P : Nat → Nat) (hl : (A 21).length = (A 87).length) (hs : (A 87).length < 2 ^ 31) : am_cl m_Row_copy [.ref 86, .ref 20] (heap A F P) = some (none, heap (up A 87 (A 21)) F P) := by
  rw [row_copy (h := heap A F P) (a := 86) (b := 20) (q := 87) (s := 21) (l := A 87) (f := A 21) rfl rfl rfl rfl hl hs]
  rfl
theorem rc_20_86 (A : Nat → List Int32) (F : Nat → Int32) (P : Nat → Nat) (hl : (A 87).length = (A 21).length) (hs : (A 21).length < 2 ^ 31) : am_cl m_Row_copy [.ref 20, .ref 86] (heap A F P) = some (none, heap (up A 21 (A 87)) F P) := by
  rw [row_copy (h := heap A F P) (a := 20) (b := 86) (q := 21) (s := 87) (l := A 21) (f := A 87) rfl rfl rfl rfl hl hs]
  rfl
theorem rc_88_22 (A : Nat → List Int32) (F : Nat → Int32) (P : Nat → Nat) (hl : (A 23).length = (A 89).length) (hs : (A 89).length < 2 ^ 31) : am_cl m_Row_copy [.ref 88, .ref 22] (heap A F P) = some (none, heap (up A 89 (A 23)) F P) := by
  rw [row_copy (h := heap A F P) (a := 88) (b := 22) (q := 89) (s := 23) (l := A 89) (f := A 23) rfl rfl rfl rfl hl hs]
  rfl
theorem rc_22_88 (A : Nat → List Int32) (F : Nat → Int32) (P : Nat → Nat) (hl : (A 89).length = (A 23).length) (hs : (A 23).length < 2 ^ 31) : am_cl m_Row_copy [.ref 22, .ref 88] (heap A F P) = some (none, heap (up A 23 (A 89)) F P) := by
  rw [row_copy (h := heap A F P) (a := 22) (b := 88) (q := 23) (s := 89) (l := A 23) (f := A 89) rfl rfl rfl rfl hl hs]
  rfl
theorem rc_90_24 (A : Nat → List Int32) (F : Nat → Int32) (P : Nat → Nat) (hl : (A 25).length = (A 91).length) (hs : (A 91).length < 2 ^ 31) : am_cl m_Row_copy [.ref 90, .ref 24] (heap A F P) = some (none, heap (up A 91 (A 25)) F P) := by
  rw [row_copy (h := heap A F P) (a := 90) (b := 24) (q := 91) (s := 25) (l := A 91) (f := A 25) rfl rfl rfl rfl hl hs]
  rfl
theorem rc_24_90 (A : Nat → List Int32) (F : Nat → Int32) (P : Nat → Nat) (hl : (A 91).length = (A 25).length) (hs : (A 25).length < 2 ^ 31) : am_cl m_Row_copy [.ref 24, .ref 90] (heap A F P) = some (none, heap (up A 25 (A 91)) F P) := by
  rw [row_copy (h := heap A F P) (a := 24) (b := 90) (q := 25) (s := 91) (l := A 25) (f := A 91) rfl rfl rfl rfl hl hs]
  rfl
theorem rc_92_26 (A : Nat → List Int32) (F : Nat → Int32) (P : Nat → Nat) (hl : (A 27).length = (A 93).length) (hs : (A 93).length < 2 ^ 31) : am_cl m_Row_copy [.ref 92, .ref 26] (heap A F P) = some (none, heap (up A 93 (A 27)) F P) := by
  rw [row_copy (h := heap A F P) (a := 92) (b := 26) (q := 93) (s := 27) (l := A 93) (f := A 27) rfl rfl rfl rfl hl hs]
  rfl
theorem rc_26_92 (A : Nat → List Int32) (F : Nat → Int32) (P : Nat → Nat) (hl : (A 93).length = (A 27).length) (hs : (A 27).length < 2 ^ 31) : am_cl m_Row_copy [.ref 26, .ref 92] (heap A F P) = some (none, heap (up A 27 (A 93)) F P) := by
  rw [row_copy (h := heap A F P) (a := 26) (b := 92) (q := 27) (s := 93) (l := A 27) (f := A 93) rfl rfl rfl rfl hl hs]
  rfl
theorem rc_94_28 (A : Nat → List Int32) (F : Nat → Int32) (P : Nat → Nat) (hl : (A 29).length = (A 95).length) (hs : (A 95).length < 2 ^ 31) : am_cl m_Row_copy [.ref 94, .ref 28] (heap A F P) = some (none, heap (up A 95 (A 29)) F P) := by
  rw [row_copy (h := heap A F P) (a := 94) (b := 28) (q := 95) (s := 29) (l := A 95) (f := A 29) rfl rfl rfl rfl hl hs]
  rfl
theorem rc_28_94 (A : Nat → List Int32) (F : Nat → Int32) (P : Nat → Nat) (hl : (A 95).length = (A 29).length) (hs : (A 29).length < 2 ^ 31) : am_cl m_Row_copy [.ref 28, .ref 94] (heap A F P) = some (none, heap (up A 29 (A 95)) F P) := by
  rw [row_copy (h := heap A F P) (a := 28) (b := 94) (q := 29) (s := 95) (l := A 29) (f := A 95) rfl rfl rfl rfl hl hs]
  rfl
theorem rc_96_30 (A : Nat → List Int32) (F : Nat → Int32) (P : Nat → Nat) (hl : (A 31).length = (A 97).length) (hs : (A 97).length < 2 ^ 31) : am_cl m_Row_copy [.ref 96, .ref 30] (heap A F P) = some (none, heap (up A 97 (A 31)) F P) := by
  rw [row_copy (h := heap A F P) (a := 96) (b := 30) (q := 97) (s := 31) (l := A 97) (f := A 31) rfl rfl rfl rfl hl hs]
  rfl
theorem rc_30_96 (A : Nat → List Int32) (F : Nat → Int32) (P : Nat → Nat) (hl : (A 97).length = (A 31).length) (hs : (A 31).length < 2 ^ 31) : am_cl m_Row_copy [.ref 30, .ref 96] (heap A F P) = some (none, heap (up A 31 (A 97)) F P) := by
  rw [row_copy (h := heap A F P) (a := 30) (b := 96) (q := 31) (s := 97) (l := A 31) (f := A 97) rfl rfl rfl rfl hl hs]
  rfl
theorem rc_98_32 (A : Nat → List Int32) (F : Nat → Int32) (P : Nat → Nat) (hl : (A 33).length = (A 99).length) (hs : (A 99).length < 2 ^ 31) : am_cl m_Row_copy [.ref 98, .ref 32] (heap A F P) = some (none, heap (up A 99 (A 33)) F P) := by
  rw [row_copy (h := heap A F P) (a := 98) (b := 32) (q := 99) (s := 33) (l := A 99) (f := A 33) rfl rfl rfl rfl hl hs]
  rfl
theorem rc_32_98 (A : Nat → List Int32) (F : Nat → Int32) (P : Nat → Nat) (hl : (A 99).length = (A 33).length) (hs : (A 33).length < 2 ^ 31) : am_cl m_Row_copy [.ref 32, .ref 98] (heap A F P) = some (none, heap (up A 33 (A 99)) F P) := by
  rw [row_copy (h := heap A F P) (a := 32) (b := 98) (q := 33) (s := 99) (l := A 33) (f := A 99) rfl rfl rfl rfl hl hs]
  rfl
theorem rc_102_4 (A : Nat → List Int32) (F : Nat → Int32) (P : Nat → Nat) (hl : (A 5).length = (A 103).length) (hs : (A 103).length < 2 ^ 31) : am_cl m_Row_copy [.ref 102, .ref 4] (heap A F P) = some (none, heap (up A 103 (A 5)) F P) := by
  rw [row_copy (h := heap A F P) (a := 102) (b := 4) (q := 103) (s := 5) (l := A 103) (f := A 5) rfl rfl rfl rfl hl hs]
  rfl
theorem rc_4_102 (A : Nat → List Int32) (F : Nat → Int32) (P : Nat → Nat) (hl : (A 103).length = (A 5).length) (hs : (A 5).length < 2 ^ 31) : am_cl m_Row_copy [.ref 4, .ref 102] (heap A F P) = some (none, heap (up A 5 (A 103)) F P) := by
  rw [row_copy (h := heap A F P) (a := 4) (b := 102) (q := 5) (s := 103) (l := A 5) (f := A 103) rfl rfl rfl rfl hl hs]
  rfl
theorem rc_104_6 (A : Nat → List Int32) (F : Nat → Int32) (P : Nat → Nat) (hl : (A 7).length = (A 105).length) (hs : (A 105).length < 2 ^ 31) : am_cl m_Row_copy [.ref 104, .ref 6] (heap A F P) = some (none, heap (up A 105 (A 7)) F P) := by
  rw [row_copy (h := heap A F P) (a := 104) (b := 6) (q := 105) (s := 7) (l := A 105) (f := A 7) rfl rfl rfl rfl hl hs]
  rfl
theorem rc_6_104 (A : Nat → List Int32) (F : Nat → Int32) (P : Nat → Nat) (hl : (A 105).length = (A 7).length) (hs : (A 7).length < 2 ^ 31) : am_cl m_Row_copy [.ref 6, .ref 104] (heap A F P) = some (none, heap (up A 7 (A 105)) F P) := by
  rw [row_copy (h := heap A F P) (a := 6) (b := 104) (q := 7) (s := 105) (l := A 7) (f := A 105) rfl rfl rfl rfl hl hs]
  rfl
theorem rc_107_9 (A : Nat → List Int32) (F : Nat → Int32) (P : Nat → Nat) (hl : (A 10).length = (A 108).length) (hs : (A 108).length < 2 ^ 31) : am_cl m_Row_copy [.ref 107, .ref 9] (heap A F P) = some (none, heap (up A 108 (A 10)) F P) := by
  rw [row_copy (h := heap A F P) (a := 107) (b := 9) (q := 108) (s := 10) (l := A 108) (f := A 10) rfl rfl rfl rfl hl hs]
  rfl
theorem rc_9_107 (A : Nat → List Int32) (F : Nat → Int32) (P : Nat → Nat) (hl : (A 108).length = (A 10).length) (hs : (A 10).length < 2 ^ 31) : am_cl m_Row_copy [.ref 9, .ref 107] (heap A F P) = some (none, heap (up A 10 (A 108)) F P) := by
  rw [row_copy (h := heap A F P) (a := 9) (b := 107) (q := 10) (s := 108) (l := A 10) (f := A 108) rfl rfl rfl rfl hl hs]
  rfl
theorem rc_109_11 (A : Nat → List Int32) (F : Nat → Int32) (P : Nat → Nat) (hl : (A 12).length = (A 110).length) (hs : (A 110).length < 2 ^ 31) : am_cl m_Row_copy [.ref 109, .ref 11] (heap A F P) = some (none, heap (up A 110 (A 12)) F P) := by
  rw [row_copy (h := heap A F P) (a := 109) (b := 11) (q := 110) (s := 12) (l := A 110) (f := A 12) rfl rfl rfl rfl hl hs]
  rfl
theorem rc_11_109 (A : Nat → List Int32) (F : Nat → Int32) (P : Nat → Nat) (hl : (A 110).length = (A 12).length) (hs : (A 12).length < 2 ^ 31) : am_cl m_Row_copy [.ref 11, .ref 109] (heap A F P) = some (none, heap (up A 12 (A 110)) F P) := by
  rw [row_copy (h := heap A F P) (a := 11) (b := 109) (q := 12) (s := 110) (l := A 12) (f := A 110) rfl rfl rfl rfl hl hs]
  rfl
theorem rc_111_13 (A : Nat → List Int32) (F : Nat → Int32) (P : Nat → Nat) (hl : (A 14).length = (A 112).length) (hs : (A 112).length < 2 ^ 31) : am_cl m_Row_copy [.ref 111, .ref 13] (heap A F P) = some (none, heap (up A 112 (A 14)) F P) := by
  rw [row_copy (h := heap A F P) (a := 111) (b := 13) (q := 112) (s := 14) (l := A 112) (f := A 14) rfl rfl rfl rfl hl hs]
  rfl
theorem rc_13_111 (A : Nat → List Int32) (F : Nat → Int32) (P : Nat → Nat) (hl : (A 112).length = (A 14).length) (hs : (A 14).length < 2 ^ 31) : am_cl m_Row_copy [.ref 13, .ref 111] (heap A F P) = some (none, heap (up A 14 (A 112)) F P) := by
  rw [row_copy (h := heap A F P) (a := 13) (b := 111) (q := 14) (s := 112) (l := A 14) (f := A 112) rfl rfl rfl rfl hl hs]
  rfl
theorem rc_113_15 (A : Nat → List Int32) (F : Nat → Int32) (P : Nat → Nat) (hl : (A 16).length = (A 114).length) (hs : (A 114).length < 2 ^ 31) : am_cl m_Row_copy [.ref 113, .ref 15] (heap A F P) = some (none, heap (up A 114 (A 16)) F P) := by
  rw [row_copy (h := heap A F P) (a := 113) (b := 15) (q := 114) (s := 16) (l := A 114) (f := A 16) rfl rfl rfl rfl hl hs]
  rfl
theorem rc_15_113 (A : Nat → List Int32) (F : Nat → Int32) (P : Nat → Nat) (hl : (A 114).length = (A 16).length) (hs : (A 16).length < 2 ^ 31) : am_cl m_Row_copy [.ref 15, .ref 113] (heap A F P) = some (none, heap (up A 16 (A 114)) F P) := by
  rw [row_copy (h := heap A F P) (a := 15) (b := 113) (q := 16) (s := 114) (l := A 16) (f := A 114) rfl rfl rfl rfl hl hs]
  rfl
theorem rc_115_17 (A : Nat → List Int32) (F : Nat → Int32) (P : Nat → Nat) (hl : (A 18).length = (A 116).length) (hs : (A 116).length < 2 ^ 31) : am_cl m_Row_copy [.ref 115, .ref 17] (heap A F P) = some (none, heap (up A 116 (A 18)) F P) := by
  rw [row_copy (h := heap A F P) (a := 115) (b := 17) (q := 116) (s := 18) (l := A 116) (f := A 18) rfl rfl rfl rfl hl hs]
  rfl
theorem rc_17_115 (A : Nat → List Int32) (F : Nat → Int32) (P : Nat → Nat) (hl : (A 116).length = (A 18).length) (hs : (A 18).length < 2 ^ 31) : am_cl m_Row_copy [.ref 17, .ref 115] (heap A F P) = some (none, heap (up A 18 (A 116)) F P) := by
  rw [row_copy (h := heap A F P) (a := 17) (b := 115) (q := 18) (s := 116) (l := A 18) (f := A 116) rfl rfl rfl rfl hl hs]
  rfl
theorem rc_118_20 (A : Nat → List Int32) (F : Nat → Int32) (P : Nat → Nat) (hl : (A 21).length = (A 119).length) (hs : (A 119).length < 2 ^ 31) : am_cl m_Row_copy [.ref 118, .ref 20] (heap A F P) = some (none, heap (up A 119 (A 21)) F P) := by
  rw [row_copy (h := heap A F P) (a := 118) (b := 20) (q := 119) (s := 21) (l := A 119) (f := A 21) rfl rfl rfl rfl hl hs]
  rfl
theorem rc_20_118 (A : Nat → List Int32) (F : Nat → Int32) (P : Nat → Nat) (hl : (A 119).length = (A 21).length) (hs : (A 21).length < 2 ^ 31) : am_cl m_Row_copy [.ref 20, .ref 118] (heap A F P) = some (none, heap (up A 21 (A 119)) F P) := by
  rw [row_copy (h := heap A F P) (a := 20) (b := 118) (q := 21) (s := 119) (l := A 21) (f := A 119) rfl rfl rfl rfl hl hs]
  rfl
theorem rc_120_22 (A : Nat → List Int32) (F : Nat → Int32) (P : Nat → Nat) (hl : (A 23).length = (A 121).length) (hs : (A 121).length < 2 ^ 31) : am_cl m_Row_copy [.ref 120, .ref 22] (heap A F P) = some (none, heap (up A 121 (A 23)) F P) := by
  rw [row_copy (h := heap A F P) (a := 120) (b := 22) (q := 121) (s := 23) (l := A 121) (f := A 23) rfl rfl rfl rfl hl hs]
  rfl
theorem rc_22_120 (A : Nat → List Int32) (F : Nat → Int32) (P : Nat → Nat) (hl : (A 121).length = (A 23).length) (hs : (A 23).length < 2 ^ 31) : am_cl m_Row_copy [.ref 22, .ref 120] (heap A F P) = some (none, heap (up A 23 (A 121)) F P) := by
  rw [row_copy (h := heap A F P) (a := 22) (b := 120) (q := 23) (s := 121) (l := A 23) (f := A 121) rfl rfl rfl rfl hl hs]
  rfl
theorem rc_122_24 (A : Nat → List Int32) (F : Nat → Int32) (P : Nat → Nat) (hl : (A 25).length = (A 123).length) (hs : (A 123).length < 2 ^ 31) : am_cl m_Row_copy [.ref 122, .ref 24] (heap A F P) = some (none, heap (up A 123 (A 25)) F P) := by
  rw [row_copy (h := heap A F P) (a := 122) (b := 24) (q := 123) (s := 25) (l := A 123) (f := A 25) rfl rfl rfl rfl hl hs]
  rfl
theorem rc_24_122 (A : Nat → List Int32) (F : Nat → Int32) (P : Nat → Nat) (hl : (A 123).length = (A 25).length) (hs : (A 25).length < 2 ^ 31) : am_cl m_Row_copy [.ref 24, .ref 122] (heap A F P) = some (none, heap (up A 25 (A 123)) F P) := by
  rw [row_copy (h := heap A F P) (a := 24) (b := 122) (q := 25) (s := 123) (l := A 25) (f := A 123) rfl rfl rfl rfl hl hs]
  rfl
theorem rc_124_26 (A : Nat → List Int32) (F : Nat → Int32) (P : Nat → Nat) (hl : (A 27).length = (A 125).length) (hs : (A 125).length < 2 ^ 31) : am_cl m_Row_copy [.ref 124, .ref 26] (heap A F P) = some (none, heap (up A 125 (A 27)) F P) := by
  rw [row_copy (h := heap A F P) (a := 124) (b := 26) (q := 125) (s := 27) (l := A 125) (f := A 27) rfl rfl rfl rfl hl hs]
  rfl
theorem rc_26_124 (A : Nat → List Int32) (F : Nat → Int32) (P : Nat → Nat) (hl : (A 125).length = (A 27).length) (hs : (A 27).length < 2 ^ 31) : am_cl m_Row_copy [.ref 26, .ref 124] (heap A F P) = some (none, heap (up A 27 (A 125)) F P) := by
  rw [row_copy (h := heap A F P) (a := 26) (b := 124) (q := 27) (s := 125) (l := A 27) (f := A 125) rfl rfl rfl rfl hl hs]
  rfl
theorem rc_126_28 (A : Nat → List Int32) (F : Nat → Int32) (P : Nat → Nat) (hl : (A 29).length = (A 127).length) (hs : (A 127).length < 2 ^ 31) : am_cl m_Row_copy [.ref 126, .ref 28] (heap A F P) = some (none, heap (up A 127 (A 29)) F P) := by
  rw [row_copy (h := heap A F P) (a := 126) (b := 28) (q := 127) (s := 29) (l := A 127) (f := A 29) rfl rfl rfl rfl hl hs]
  rfl
theorem rc_28_126 (A : Nat → List Int32) (F : Nat → Int32) (P : Nat → Nat) (hl : (A 127).length = (A 29).length) (hs : (A 29).length < 2 ^ 31) : am_cl m_Row_copy [.ref 28, .ref 126] (heap A F P) = some (none, heap (up A 29 (A 127)) F P) := by
  rw [row_copy (h := heap A F P) (a := 28) (b := 126) (q := 29) (s := 127) (l := A 29) (f := A 127) rfl rfl rfl rfl hl hs]
  rfl
theorem rc_128_30 (A : Nat → List Int32) (F : Nat → Int32) (P : Nat → Nat) (hl : (A 31).length = (A 129).length) (hs : (A 129).length < 2 ^ 31) : am_cl m_Row_copy [.ref 128, .ref 30] (heap A F P) = some (none, heap (up A 129 (A 31)) F P) := by
  rw [row_copy (h := heap A F P) (a := 128) (b := 30) (q := 129) (s := 31) (l := A 129) (f := A 31) rfl rfl rfl rfl hl hs]
  rfl
theorem rc_30_128 (A : Nat → List Int32) (F : Nat → Int32) (P : Nat → Nat) (hl : (A 129).length = (A 31).length) (hs : (A 31).length < 2 ^ 31) : am_cl m_Row_copy [.ref 30, .ref 128] (heap A F P) = some (none, heap (up A 31 (A 129)) F P) := by
  rw [row_copy (h := heap A F P) (a := 30) (b := 128) (q := 31) (s := 129) (l := A 31) (f := A 129) rfl rfl rfl rfl hl hs]
  rfl
theorem rc_130_32 (A : Nat → List Int32) (F : Nat → Int32) (P : Nat → Nat) (hl : (A 33).length = (A 131).length) (hs : (A 131).length < 2 ^ 31) : am_cl m_Row_copy [.ref 130, .ref 32] (heap A F P) = some (none, heap (up A 131 (A 33)) F P) := by
  rw [row_copy (h := heap A F P) (a := 130) (b := 32) (q := 131) (s := 33) (l := A 131) (f := A 33) rfl rfl rfl rfl hl hs]
  rfl
theorem rc_32_130 (A : Nat → List Int32) (F : Nat → Int32) (P : Nat → Nat) (hl : (A 131).length = (A 33).length) (hs : (A 33).length < 2 ^ 31) : am_cl m_Row_copy [.ref 32, .ref 130] (heap A F P) = some (none, heap (up A 33 (A 131)) F P) := by
  rw [row_copy (h := heap A F P) (a := 32) (b := 130) (q := 33) (s := 131) (l := A 33) (f := A 131) rfl rfl rfl rfl hl hs]
  rfl
theorem rc_134_4 (A : Nat → List Int32) (F : Nat → Int32) (P : Nat → Nat) (hl : (A 5).length = (A 135).length) (hs : (A 135).length < 2 ^ 31) : am_cl m_Row_copy [.ref 134, .ref 4] (heap A F P) = some (none, heap (up A 135 (A 5)) F P) := by
  rw [row_copy (h := heap A F P) (a := 134) (b := 4) (q := 135) (s := 5) (l := A 135) (f := A 5) rfl rfl rfl rfl hl hs]
  rfl
theorem rc_4_134 (A : Nat → List Int32) (F : Nat → Int32) (P : Nat → Nat) (hl : (A 135).length = (A 5).length) (hs : (A 5).length < 2 ^ 31) : am_cl m_Row_copy [.ref 4, .ref 134] (heap A F P) = some (none, heap (up A 5 (A 135)) F P) := by
  rw [row_copy (h := heap A F P) (a := 4) (b := 134) (q := 5) (s := 135) (l := A 5) (f := A 135) rfl rfl rfl rfl hl hs]
  rfl
theorem rc_136_6 (A : Nat → List Int32) (F : Nat → Int32) (P : Nat → Nat) (hl : (A 7).length = (A 137).length) (hs : (A 137).length < 2 ^ 31) : am_cl m_Row_copy [.ref 136, .ref 6] (heap A F P) = some (none, heap (up A 137 (A 7)) F P) := by
  rw [row_copy (h := heap A F P) (a := 136) (b := 6) (q := 137) (s := 7) (l := A 137) (f := A 7) rfl rfl rfl rfl hl hs]
  rfl
theorem rc_6_136 (A : Nat → List Int32) (F : Nat → Int32) (P : Nat → Nat) (hl : (A 137).length = (A 7).length) (hs : (A 7).length < 2 ^ 31) : am_cl m_Row_copy [.ref 6, .ref 136] (heap A F P) = some (none, heap (up A 7 (A 137)) F P) := by
  rw [row_copy (h := heap A F P) (a := 6) (b := 136) (q := 7) (s := 137) (l := A 7) (f := A 137) rfl rfl rfl rfl hl hs]
  rfl
theorem rc_139_9 (A : Nat → List Int32) (F : Nat → Int32) (P : Nat → Nat) (hl : (A 10).length = (A 140).length) (hs : (A 140).length < 2 ^ 31) : am_cl m_Row_copy [.ref 139, .ref 9] (heap A F P) = some (none, heap (up A 140 (A 10)) F P) := by
  rw [row_copy (h := heap A F P) (a := 139) (b := 9) (q := 140) (s := 10) (l := A 140) (f := A 10) rfl rfl rfl rfl hl hs]
  rfl
theorem rc_9_139 (A : Nat → List Int32) (F : Nat → Int32) (P : Nat → Nat) (hl : (A 140).length = (A 10).length) (hs : (A 10).length < 2 ^ 31) : am_cl m_Row_copy [.ref 9, .ref 139] (heap A F P) = some (none, heap (up A 10 (A 140)) F P) := by
  rw [row_copy (h := heap A F P) (a := 9) (b := 139) (q := 10) (s := 140) (l := A 10) (f := A 140) rfl rfl rfl rfl hl hs]
  rfl
theorem rc_141_11 (A : Nat → List Int32) (F : Nat → Int32) (P : Nat → Nat) (hl : (A 12).length = (A 142).length) (hs : (A 142).length < 2 ^ 31) : am_cl m_Row_copy [.ref 141, .ref 11] (heap A F P) = some (none, heap (up A 142 (A 12)) F P) := by
  rw [row_copy (h := heap A F P) (a := 141) (b := 11) (q := 142) (s := 12) (l := A 142) (f := A 12) rfl rfl rfl rfl hl hs]
  rfl
theorem rc_11_141 (A : Nat → List Int32) (F : Nat → Int32) (P : Nat → Nat) (hl : (A 142).length = (A 12).length) (hs : (A 12).length < 2 ^ 31) : am_cl m_Row_copy [.ref 11, .ref 141] (heap A F P) = some (none, heap (up A 12 (A 142)) F P) := by
  rw [row_copy (h := heap A F P) (a := 11) (b := 141) (q := 12) (s := 142) (l := A 12) (f := A 142) rfl rfl rfl rfl hl hs]
  rfl
theorem rc_143_13 (A : Nat → List Int32) (F : Nat → Int32) (P : Nat → Nat) (hl : (A 14).length = (A 144).length) (hs : (A 144).length < 2 ^ 31) : am_cl m_Row_copy [.ref 143, .ref 13] (heap A F P) = some (none, heap (up A 144 (A 14)) F P) := by
  rw [row_copy (h := heap A F P) (a := 143) (b := 13) (q := 144) (s := 14) (l := A 144) (f := A 14) rfl rfl rfl rfl hl hs]
  rfl
theorem rc_13_143 (A : Nat → List Int32) (F : Nat → Int32) (P : Nat → Nat) (hl : (A 144).length = (A 14).length) (hs : (A 14).length < 2 ^ 31) : am_cl m_Row_copy [.ref 13, .ref 143] (heap A F P) = some (none, heap (up A 14 (A 144)) F P) := by
  rw [row_copy (h := heap A F P) (a := 13) (b := 143) (q := 14) (s := 144) (l := A 14) (f := A 144) rfl rfl rfl rfl hl hs]
  rfl
theorem rc_145_15 (A : Nat → List Int32) (F : Nat → Int32) (P : Nat → Nat) (hl : (A 16).length = (A 146).length) (hs : (A 146).length < 2 ^ 31) : am_cl m_Row_copy [.ref 145, .ref 15] (heap A F P) = some (none, heap (up A 146 (A 16)) F P) := by
  rw [row_copy (h := heap A F P) (a := 145) (b := 15) (q := 146) (s := 16) (l := A 146) (f := A 16) rfl rfl rfl rfl hl hs]
  rfl
theorem rc_15_145 (A : Nat → List Int32) (F : Nat → Int32) (P : Nat → Nat) (hl : (A 146).length = (A 16).length) (hs : (A 16).length < 2 ^ 31) : am_cl m_Row_copy [.ref 15, .ref 145] (heap A F P) = some (none, heap (up A 16 (A 146)) F P) := by
  rw [row_copy (h := heap A F P) (a := 15) (b := 145) (q := 16) (s := 146) (l := A 16) (f := A 146) rfl rfl rfl rfl hl hs]
  rfl
theorem rc_147_17 (A : Nat → List Int32) (F : Nat → Int32) (P : Nat → Nat) (hl : (A 18).length = (A 148).length) (hs : (A 148).length < 2 ^ 31) : am_cl m_Row_copy [.ref 147, .ref 17] (heap A F P) = some (none, heap (up A 148 (A 18)) F P) := by
  rw [row_copy (h := heap A F P) (a := 147) (b := 17) (q := 148) (s := 18) (l := A 148) (f := A 18) rfl rfl rfl rfl hl hs]
  rfl
theorem rc_17_147 (A : Nat → List Int32) (F : Nat → Int32) (P : Nat → Nat) (hl : (A 148).length = (A 18).length) (hs : (A 18).length < 2 ^ 31) : am_cl m_Row_copy [.ref 17, .ref 147] (heap A F P) = some (none, heap (up A 18 (A 148)) F P) := by
  rw [row_copy (h := heap A F P) (a := 17) (b := 147) (q := 18) (s := 148) (l := A 18) (f := A 148) rfl rfl rfl rfl hl hs]
  rfl
theorem rc_150_20 (A : Nat → List Int32) (F : Nat → Int32) (P : Nat → Nat) (hl : (A 21).length = (A 151).length) (hs : (A 151).length < 2 ^ 31) : am_cl m_Row_copy [.ref 150, .ref 20] (heap A F P) = some (none, heap (up A 151 (A 21)) F P) := by
  rw [row_copy (h := heap A F P) (a := 150) (b := 20) (q := 151) (s := 21) (l := A 151) (f := A 21) rfl rfl rfl rfl hl hs]
  rfl
theorem rc_20_150 (A : Nat → List Int32) (F : Nat → Int32) (P : Nat → Nat) (hl : (A 151).length = (A 21).length) (hs : (A 21).length < 2 ^ 31) : am_cl m_Row_copy [.ref 20, .ref 150] (heap A F P) = some (none, heap (up A 21 (A 151)) F P) := by
  rw [row_copy (h := heap A F P) (a := 20) (b := 150) (q := 21) (s := 151) (l := A 21) (f := A 151) rfl rfl rfl rfl hl hs]
  rfl
theorem rc_152_22 (A : Nat → List Int32) (F : Nat → Int32) (P : Nat → Nat) (hl : (A 23).length = (A 153).length) (hs : (A 153).length < 2 ^ 31) : am_cl m_Row_copy [.ref 152, .ref 22] (heap A F P) = some (none, heap (up A 153 (A 23)) F P) := by
  rw [row_copy (h := heap A F P) (a := 152) (b := 22) (q := 153) (s := 23) (l := A 153) (f := A 23) rfl rfl rfl rfl hl hs]
  rfl
theorem rc_22_152 (A : Nat → List Int32) (F : Nat → Int32) (P : Nat → Nat) (hl : (A 153).length = (A 23).length) (hs : (A 23).length < 2 ^ 31) : am_cl m_Row_copy [.ref 22, .ref 152] (heap A F P) = some (none, heap (up A 23 (A 153)) F P) := by
  rw [row_copy (h := heap A F P) (a := 22) (b := 152) (q := 23) (s := 153) (l := A 23) (f := A 153) rfl rfl rfl rfl hl hs]
  rfl
theorem rc_154_24 (A : Nat → List Int32) (F : Nat → Int32) (P : Nat → Nat) (hl : (A 25).length = (A 155).length) (hs : (A 155).length < 2 ^ 31) : am_cl m_Row_copy [.ref 154, .ref 24] (heap A F P) = some (none, heap (up A 155 (A 25)) F P) := by
  rw [row_copy (h := heap A F P) (a := 154) (b := 24) (q := 155) (s := 25) (l := A 155) (f := A 25) rfl rfl rfl rfl hl hs]
  rfl
theorem rc_24_154 (A : Nat → List Int32) (F : Nat → Int32) (P : Nat → Nat) (hl : (A 155).length = (A 25).length) (hs : (A 25).length < 2 ^ 31) : am_cl m_Row_copy [.ref 24, .ref 154] (heap A F P) = some (none, heap (up A 25 (A 155)) F P) := by
  rw [row_copy (h := heap A F P) (a := 24) (b := 154) (q := 25) (s := 155) (l := A 25) (f := A 155) rfl rfl rfl rfl hl hs]
  rfl
theorem rc_156_26 (A : Nat → List Int32) (F : Nat → Int32) (P : Nat → Nat) (hl : (A 27).length = (A 157).length) (hs : (A 157).length < 2 ^ 31) : am_cl m_Row_copy [.ref 156, .ref 26] (heap A F P) = some (none, heap (up A 157 (A 27)) F P) := by
  rw [row_copy (h := heap A F P) (a := 156) (b := 26) (q := 157) (s := 27) (l := A 157) (f := A 27) rfl rfl rfl rfl hl hs]
  rfl
theorem rc_26_156 (A : Nat → List Int32) (F : Nat → Int32) (P : Nat → Nat) (hl : (A 157).length = (A 27).length) (hs : (A 27).length < 2 ^ 31) : am_cl m_Row_copy [.ref 26, .ref 156] (heap A F P) = some (none, heap (up A 27 (A 157)) F P) := by
  rw [row_copy (h := heap A F P) (a := 26) (b := 156) (q := 27) (s := 157) (l := A 27) (f := A 157) rfl rfl rfl rfl hl hs]
  rfl
theorem rc_158_28 (A : Nat → List Int32) (F : Nat → Int32) (P : Nat → Nat) (hl : (A 29).length = (A 159).length) (hs : (A 159).length < 2 ^ 31) : am_cl m_Row_copy [.ref 158, .ref 28] (heap A F P) = some (none, heap (up A 159 (A 29)) F P) := by
  rw [row_copy (h := heap A F P) (a := 158) (b := 28) (q := 159) (s := 29) (l := A 159) (f := A 29) rfl rfl rfl rfl hl hs]
  rfl
theorem rc_28_158 (A : Nat → List Int32) (F : Nat → Int32) (P : Nat → Nat) (hl : (A 159).length = (A 29).length) (hs : (A 29).length < 2 ^ 31) : am_cl m_Row_copy [.ref 28, .ref 158] (heap A F P) = some (none, heap (up A 29 (A 159)) F P) := by
  rw [row_copy (h := heap A F P) (a := 28) (b := 158) (q := 29) (s := 159) (l := A 29) (f := A 159) rfl rfl rfl rfl hl hs]
  rfl
theorem rc_160_30 (A : Nat → List Int32) (F : Nat → Int32) (P : Nat → Nat) (hl : (A 31).length = (A 161).length) (hs : (A 161).length < 2 ^ 31) : am_cl m_Row_copy [.ref 160, .ref 30] (heap A F P) = some (none, heap (up A 161 (A 31)) F P) := by
  rw [row_copy (h := heap A F P) (a := 160) (b := 30) (q := 161) (s := 31) (l := A 161) (f := A 31) rfl rfl rfl rfl hl hs]
  rfl
theorem rc_30_160 (A : Nat → List Int32) (F : Nat → Int32) (P : Nat → Nat) (hl : (A 161).length = (A 31).length) (hs : (A 31).length < 2 ^ 31) : am_cl m_Row_copy [.ref 30, .ref 160] (heap A F P) = some (none, heap (up A 31 (A 161)) F P) := by
  rw [row_copy (h := heap A F P) (a := 30) (b := 160) (q := 31) (s := 161) (l := A 31) (f := A 161) rfl rfl rfl rfl hl hs]
  rfl
theorem rc_162_32 (A : Nat → List Int32) (F : Nat → Int32) (P : Nat → Nat) (hl : (A 33).length = (A 163).length) (hs : (A 163).length < 2 ^ 31) : am_cl m_Row_copy [.ref 162, .ref 32] (heap A F P) = some (none, heap (up A 163 (A 33)) F P) := by
  rw [row_copy (h := heap A F P) (a := 162) (b := 32) (q := 163) (s := 33) (l := A 163) (f := A 33) rfl rfl rfl rfl hl hs]
  rfl
theorem rc_32_162 (A : Nat → List Int32) (F : Nat → Int32) (P : Nat → Nat) (hl : (A 163).length = (A 33).length) (hs : (A 33).length < 2 ^ 31) : am_cl m_Row_copy [.ref 32, .ref 162] (heap A F P) = some (none, heap (up A 33 (A 163)) F P) := by
  rw [row_copy (h := heap A F P) (a := 32) (b := 162) (q := 33) (s := 163) (l := A 33) (f := A 163) rfl rfl rfl rfl hl hs]
  rfl
theorem rcY : (∀ (A : Nat → List Int32) (F : Nat → Int32) (P : Nat → Nat) (_ : (A 5).length = (A 39).length) (_ : (A 39).length < 2 ^ 31), am_cl m_Row_copy [.ref 38, .ref 4] (heap A F P) = some (none, heap (up A 39 (A 5)) F P)) ∧ (∀ (A : Nat → List Int32) (F : Nat → Int32) (P : Nat → Nat) (_ : (A 39).length = (A 5).length) (_ : (A 5).length < 2 ^ 31), am_cl m_Row_copy [.ref 4, .ref 38] (heap A F P) = some (none, heap (up A 5 (A 39)) F P)) ∧ (∀ (A : Nat → List Int32) (F : Nat → Int32) (P : Nat → Nat) (_ : (A 7).length = (A 41).length) (_ : (A 41).length < 2 ^ 31), am_cl m_Row_copy [.ref 40, .ref 6] (heap A F P) = some (none, heap (up A 41 (A 7)) F P)) ∧ (∀ (A : Nat → List Int32) (F : Nat → Int32) (P : Nat → Nat) (_ : (A 41).length = (A 7).length) (_ : (A 7).length < 2 ^ 31), am_cl m_Row_copy [.ref 6, .ref 40] (heap A F P) = some (none, heap (up A 7 (A 41)) F P)) ∧ (∀ (A : Nat → List Int32) (F : Nat → Int32) (P : Nat → Nat) (_ : (A 10).length = (A 44).length) (_ : (A 44).length < 2 ^ 31), am_cl m_Row_copy [.ref 43, .ref 9] (heap A F P) = some (none, heap (up A 44 (A 10)) F P)) ∧ (∀ (A : Nat → List Int32) (F : Nat → Int32) (P : Nat → Nat) (_ : (A 44).length = (A 10).length) (_ : (A 10).length < 2 ^ 31), am_cl m_Row_copy [.ref 9, .ref 43] (heap A F P) = some (none, heap (up A 10 (A 44)) F P)) ∧ (∀ (A : Nat → List Int32) (F : Nat → Int32) (P : Nat → Nat) (_ : (A 12).length = (A 46).length) (_ : (A 46).length < 2 ^ 31), am_cl m_Row_copy [.ref 45, .ref 11] (heap A F P) = some (none, heap (up A 46 (A 12)) F P)) ∧ (∀ (A : Nat → List Int32) (F : Nat → Int32) (P : Nat → Nat) (_ : (A 46).length = (A 12).length) (_ : (A 12).length < 2 ^ 31), am_cl m_Row_copy [.ref 11, .ref 45] (heap A F P) = some (none, heap (up A 12 (A 46)) F P)) ∧ (∀ (A : Nat → List Int32) (F : Nat → Int32) (P : Nat → Nat) (_ : (A 14).length = (A 48).length) (_ : (A 48).length < 2 ^ 31), am_cl m_Row_copy [.ref 47, .ref 13] (heap A F P) = some (none, heap (up A 48 (A 14)) F P)) ∧ (∀ (A : Nat → List Int32) (F : Nat → Int32) (P : Nat → Nat) (_ : (A 48).length = (A 14).length) (_ : (A 14).length < 2 ^ 31), am_cl m_Row_copy [.ref 13, .ref 47] (heap A F P) = some (none, heap (up A 14 (A 48)) F P)) ∧ (∀ (A : Nat → List Int32) (F : Nat → Int32) (P : Nat → Nat) (_ : (A 16).length = (A 50).length) (_ : (A 50).length < 2 ^ 31), am_cl m_Row_copy [.ref 49, .ref 15] (heap A F P) = some (none, heap (up A 50 (A 16)) F P)) ∧ (∀ (A : Nat → List Int32) (F : Nat → Int32) (P : Nat → Nat) (_ : (A 50).length = (A 16).length) (_ : (A 16).length < 2 ^ 31), am_cl m_Row_copy [.ref 15, .ref 49] (heap A F P) = some (none, heap (up A 16 (A 50)) F P)) ∧ (∀ (A : Nat → List Int32) (F : Nat → Int32) (P : Nat → Nat) (_ : (A 18).length = (A 52).length) (_ : (A 52).length < 2 ^ 31), am_cl m_Row_copy [.ref 51, .ref 17] (heap A F P) = some (none, heap (up A 52 (A 18)) F P)) ∧ (∀ (A : Nat → List Int32) (F : Nat → Int32) (P : Nat → Nat) (_ : (A 52).length = (A 18).length) (_ : (A 18).length < 2 ^ 31), am_cl m_Row_copy [.ref 17, .ref 51] (heap A F P) = some (none, heap (up A 18 (A 52)) F P)) ∧ (∀ (A : Nat → List Int32) (F : Nat → Int32) (P : Nat → Nat) (_ : (A 21).length = (A 55).length) (_ : (A 55).length < 2 ^ 31), am_cl m_Row_copy [.ref 54, .ref 20] (heap A F P) = some (none, heap (up A 55 (A 21)) F P)) ∧ (∀ (A : Nat → List Int32) (F : Nat → Int32) (P : Nat → Nat) (_ : (A 55).length = (A 21).length) (_ : (A 21).length < 2 ^ 31), am_cl m_Row_copy [.ref 20, .ref 54] (heap A F P) = some (none, heap (up A 21 (A 55)) F P)) ∧ (∀ (A : Nat → List Int32) (F : Nat → Int32) (P : Nat → Nat) (_ : (A 23).length = (A 57).length) (_ : (A 57).length < 2 ^ 31), am_cl m_Row_copy [.ref 56, .ref 22] (heap A F P) = some (none, heap (up A 57 (A 23)) F P)) ∧ (∀ (A : Nat → List Int32) (F : Nat → Int32) (P : Nat → Nat) (_ : (A 57).length = (A 23).length) (_ : (A 23).length < 2 ^ 31), am_cl m_Row_copy [.ref 22, .ref 56] (heap A F P) = some (none, heap (up A 23 (A 57)) F P)) ∧ (∀ (A : Nat → List Int32) (F : Nat → Int32) (P : Nat → Nat) (_ : (A 25).length = (A 59).length) (_ : (A 59).length < 2 ^ 31), am_cl m_Row_copy [.ref 58, .ref 24] (heap A F P) = some (none, heap (up A 59 (A 25)) F P)) ∧ (∀ (A : Nat → List Int32) (F : Nat → Int32) (P : Nat → Nat) (_ : (A 59).length = (A 25).length) (_ : (A 25).length < 2 ^ 31), am_cl m_Row_copy [.ref 24, .ref 58] (heap A F P) = some (none, heap (up A 25 (A 59)) F P)) ∧ (∀ (A : Nat → List Int32) (F : Nat → Int32) (P : Nat → Nat) (_ : (A 27).length = (A 61).length) (_ : (A 61).length < 2 ^ 31), am_cl m_Row_copy [.ref 60, .ref 26] (heap A F P) = some (none, heap (up A 61 (A 27)) F P)) ∧ (∀ (A : Nat → List Int32) (F : Nat → Int32) (P : Nat → Nat) (_ : (A 61).length = (A 27).length) (_ : (A 27).length < 2 ^ 31), am_cl m_Row_copy [.ref 26, .ref 60] (heap A F P) = some (none, heap (up A 27 (A 61)) F P)) ∧ (∀ (A : Nat → List Int32) (F : Nat → Int32) (P : Nat → Nat) (_ : (A 29).length = (A 63).length) (_ : (A 63).length < 2 ^ 31), am_cl m_Row_copy [.ref 62, .ref 28] (heap A F P) = some (none, heap (up A 63 (A 29)) F P)) ∧ (∀ (A : Nat → List Int32) (F : Nat → Int32) (P : Nat → Nat) (_ : (A 63).length = (A 29).length) (_ : (A 29).length < 2 ^ 31), am_cl m_Row_copy [.ref 28, .ref 62] (heap A F P) = some (none, heap (up A 29 (A 63)) F P)) ∧ (∀ (A : Nat → List Int32) (F : Nat → Int32) (P : Nat → Nat) (_ : (A 31).length = (A 65).length) (_ : (A 65).length < 2 ^ 31), am_cl m_Row_copy [.ref 64, .ref 30] (heap A F P) = some (none, heap (up A 65 (A 31)) F P)) ∧ (∀ (A : Nat → List Int32) (F : Nat → Int32) (P : Nat → Nat) (_ : (A 65).length = (A 31).length) (_ : (A 31).length < 2 ^ 31), am_cl m_Row_copy [.ref 30, .ref 64] (heap A F P) = some (none, heap (up A 31 (A 65)) F P)) ∧ (∀ (A : Nat → List Int32) (F : Nat → Int32) (P : Nat → Nat) (_ : (A 33).length = (A 67).length) (_ : (A 67).length < 2 ^ 31), am_cl m_Row_copy [.ref 66, .ref 32] (heap A F P) = some (none, heap (up A 67 (A 33)) F P)) ∧ (∀ (A : Nat → List Int32) (F : Nat → Int32) (P : Nat → Nat) (_ : (A 67).length = (A 33).length) (_ : (A 33).length < 2 ^ 31), am_cl m_Row_copy [.ref 32, .ref 66] (heap A F P) = some (none, heap (up A 33 (A 67)) F P)) ∧ (∀ (A : Nat → List Int32) (F : Nat → Int32) (P : Nat → Nat) (_ : (A 5).length = (A 71).length) (_ : (A 71).length < 2 ^ 31), am_cl m_Row_copy [.ref 70, .ref 4] (heap A F P) = some (none, heap (up A 71 (A 5)) F P)) ∧ (∀ (A : Nat → List Int32) (F : Nat → Int32) (P : Nat → Nat) (_ : (A 71).length = (A 5).length) (_ : (A 5).length < 2 ^ 31), am_cl m_Row_copy [.ref 4, .ref 70] (heap A F P) = some (none, heap (up A 5 (A 71)) F P)) ∧ (∀ (A : Nat → List Int32) (F : Nat → Int32) (P : Nat → Nat) (_ : (A 7).length = (A 73).length) (_ : (A 73).length < 2 ^ 31), am_cl m_Row_copy [.ref 72, .ref 6] (heap A F P) = some (none, heap (up A 73 (A 7)) F P)) ∧ (∀ (A : Nat → List Int32) (F : Nat → Int32) (P : Nat → Nat) (_ : (A 73).length = (A 7).length) (_ : (A 7).length < 2 ^ 31), am_cl m_Row_copy [.ref 6, .ref 72] (heap A F P) = some (none, heap (up A 7 (A 73)) F P)) ∧ (∀ (A : Nat → List Int32) (F : Nat → Int32) (P : Nat → Nat) (_ : (A 10).length = (A 76).length) (_ : (A 76).length < 2 ^ 31), am_cl m_Row_copy [.ref 75, .ref 9] (heap A F P) = some (none, heap (up A 76 (A 10)) F P)) ∧ (∀ (A : Nat → List Int32) (F : Nat → Int32) (P : Nat → Nat) (_ : (A 76).length = (A 10).length) (_ : (A 10).length < 2 ^ 31), am_cl m_Row_copy [.ref 9, .ref 75] (heap A F P) = some (none, heap (up A 10 (A 76)) F P)) ∧ (∀ (A : Nat → List Int32) (F : Nat → Int32) (P : Nat → Nat) (_ : (A 12).length = (A 78).length) (_ : (A 78).length < 2 ^ 31), am_cl m_Row_copy [.ref 77, .ref 11] (heap A F P) = some (none, heap (up A 78 (A 12)) F P)) ∧ (∀ (A : Nat → List Int32) (F : Nat → Int32) (P : Nat → Nat) (_ : (A 78).length = (A 12).length) (_ : (A 12).length < 2 ^ 31), am_cl m_Row_copy [.ref 11, .ref 77] (heap A F P) = some (none, heap (up A 12 (A 78)) F P)) ∧ (∀ (A : Nat → List Int32) (F : Nat → Int32) (P : Nat → Nat) (_ : (A 14).length = (A 80).length) (_ : (A 80).length < 2 ^ 31), am_cl m_Row_copy [.ref 79, .ref 13] (heap A F P) = some (none, heap (up A 80 (A 14)) F P)) ∧ (∀ (A : Nat → List Int32) (F : Nat → Int32) (P : Nat → Nat) (_ : (A 80).length = (A 14).length) (_ : (A 14).length < 2 ^ 31), am_cl m_Row_copy [.ref 13, .ref 79] (heap A F P) = some (none, heap (up A 14 (A 80)) F P)) ∧ (∀ (A : Nat → List Int32) (F : Nat → Int32) (P : Nat → Nat) (_ : (A 16).length = (A 82).length) (_ : (A 82).length < 2 ^ 31), am_cl m_Row_copy [.ref 81, .ref 15] (heap A F P) = some (none, heap (up A 82 (A 16)) F P)) ∧ (∀ (A : Nat → List Int32) (F : Nat → Int32) (P : Nat → Nat) (_ : (A 82).length = (A 16).length) (_ : (A 16).length < 2 ^ 31), am_cl m_Row_copy [.ref 15, .ref 81] (heap A F P) = some (none, heap (up A 16 (A 82)) F P)) ∧ (∀ (A : Nat → List Int32) (F : Nat → Int32) (P : Nat → Nat) (_ : (A 18).length = (A 84).length) (_ : (A 84).length < 2 ^ 31), am_cl m_Row_copy [.ref 83, .ref 17] (heap A F P) = some (none, heap (up A 84 (A 18)) F P)) ∧ (∀ (A : Nat → List Int32) (F : Nat → Int32) (P : Nat → Nat) (_ : (A 84).length = (A 18).length) (_ : (A 18).length < 2 ^ 31), am_cl m_Row_copy [.ref 17, .ref 83] (heap A F P) = some (none, heap (up A 18 (A 84)) F P)) ∧ (∀ (A : Nat → List Int32) (F : Nat → Int32) (P : Nat → Nat) (_ : (A 21).length = (A 87).length) (_ : (A 87).length < 2 ^ 31), am_cl m_Row_copy [.ref 86, .ref 20] (heap A F P) = some (none, heap (up A 87 (A 21)) F P)) ∧ (∀ (A : Nat → List Int32) (F : Nat → Int32) (P : Nat → Nat) (_ : (A 87).length = (A 21).length) (_ : (A 21).length < 2 ^ 31), am_cl m_Row_copy [.ref 20, .ref 86] (heap A F P) = some (none, heap (up A 21 (A 87)) F P)) ∧ (∀ (A : Nat → List Int32) (F : Nat → Int32) (P : Nat → Nat) (_ : (A 23).length = (A 89).length) (_ : (A 89).length < 2 ^ 31), am_cl m_Row_copy [.ref 88, .ref 22] (heap A F P) = some (none, heap (up A 89 (A 23)) F P)) ∧ (∀ (A : Nat → List Int32) (F : Nat → Int32) (P : Nat → Nat) (_ : (A 89).length = (A 23).length) (_ : (A 23).length < 2 ^ 31), am_cl m_Row_copy [.ref 22, .ref 88] (heap A F P) = some (none, heap (up A 23 (A 89)) F P)) ∧ (∀ (A : Nat → List Int32) (F : Nat → Int32) (P : Nat → Nat) (_ : (A 25).length = (A 91).length) (_ : (A 91).length < 2 ^ 31), am_cl m_Row_copy [.ref 90, .ref 24] (heap A F P) = some (none, heap (up A 91 (A 25)) F P)) ∧ (∀ (A : Nat → List Int32) (F : Nat → Int32) (P : Nat → Nat) (_ : (A 91).length = (A 25).length) (_ : (A 25).length < 2 ^ 31), am_cl m_Row_copy [.ref 24, .ref 90] (heap A F P) = some (none, heap (up A 25 (A 91)) F P)) ∧ (∀ (A : Nat → List Int32) (F : Nat → Int32) (P : Nat → Nat) (_ : (A 27).length = (A 93).length) (_ : (A 93).length < 2 ^ 31), am_cl m_Row_copy [.ref 92, .ref 26] (heap A F P) = some (none, heap (up A 93 (A 27)) F P)) ∧ (∀ (A : Nat → List Int32) (F : Nat → Int32) (P : Nat → Nat) (_ : (A 93).length = (A 27).length) (_ : (A 27).length < 2 ^ 31), am_cl m_Row_copy [.ref 26, .ref 92] (heap A F P) = some (none, heap (up A 27 (A 93)) F P)) ∧ (∀ (A : Nat → List Int32) (F : Nat → Int32) (P : Nat → Nat) (_ : (A 29).length = (A 95).length) (_ : (A 95).length < 2 ^ 31), am_cl m_Row_copy [.ref 94, .ref 28] (heap A F P) = some (none, heap (up A 95 (A 29)) F P)) ∧ (∀ (A : Nat → List Int32) (F : Nat → Int32) (P : Nat → Nat) (_ : (A 95).length = (A 29).length) (_ : (A 29).length < 2 ^ 31), am_cl m_Row_copy [.ref 28, .ref 94] (heap A F P) = some (none, heap (up A 29 (A 95)) F P)) ∧ (∀ (A : Nat → List Int32) (F : Nat → Int32) (P : Nat → Nat) (_ : (A 31).length = (A 97).length) (_ : (A 97).length < 2 ^ 31), am_cl m_Row_copy [.ref 96, .ref 30] (heap A F P) = some (none, heap (up A 97 (A 31)) F P)) ∧ (∀ (A : Nat → List Int32) (F : Nat → Int32) (P : Nat → Nat) (_ : (A 97).length = (A 31).length) (_ : (A 31).length < 2 ^ 31), am_cl m_Row_copy [.ref 30, .ref 96] (heap A F P) = some (none, heap (up A 31 (A 97)) F P)) ∧ (∀ (A : Nat → List Int32) (F : Nat → Int32) (P : Nat → Nat) (_ : (A 33).length = (A 99).length) (_ : (A 99).length < 2 ^ 31), am_cl m_Row_copy [.ref 98, .ref 32] (heap A F P) = some (none, heap (up A 99 (A 33)) F P)) ∧ (∀ (A : Nat → List Int32) (F : Nat → Int32) (P : Nat → Nat) (_ : (A 99).length = (A 33).length) (_ : (A 33).length < 2 ^ 31), am_cl m_Row_copy [.ref 32, .ref 98] (heap A F P) = some (none, heap (up A 33 (A 99)) F P)) ∧ (∀ (A : Nat → List Int32) (F : Nat → Int32) (P : Nat → Nat) (_ : (A 5).length = (A 103).length) (_ : (A 103).length < 2 ^ 31), am_cl m_Row_copy [.ref 102, .ref 4] (heap A F P) = some (none, heap (up A 103 (A 5)) F P)) ∧ (∀ (A : Nat → List Int32) (F : Nat → Int32) (P : Nat → Nat) (_ : (A 103).length = (A 5).length) (_ : (A 5).length < 2 ^ 31), am_cl m_Row_copy [.ref 4, .ref 102] (heap A F P) = some (none, heap (up A 5 (A 103)) F P)) ∧ (∀ (A : Nat → List Int32) (F : Nat → Int32) (P : Nat → Nat) (_ : (A 7).length = (A 105).length) (_ : (A 105).length < 2 ^ 31), am_cl m_Row_copy [.ref 104, .ref 6] (heap A F P) = some (none, heap (up A 105 (A 7)) F P)) ∧ (∀ (A : Nat → List Int32) (F : Nat → Int32) (P : Nat → Nat) (_ : (A 105).length = (A 7).length) (_ : (A 7).length < 2 ^ 31), am_cl m_Row_copy [.ref 6, .ref 104] (heap A F P) = some (none, heap (up A 7 (A 105)) F P)) ∧ (∀ (A : Nat → List Int32) (F : Nat → Int32) (P : Nat → Nat) (_ : (A 10).length = (A 108).length) (_ : (A 108).length < 2 ^ 31), am_cl m_Row_copy [.ref 107, .ref 9] (heap A F P) = some (none, heap (up A 108 (A 10)) F P)) ∧ (∀ (A : Nat → List Int32) (F : Nat → Int32) (P : Nat → Nat) (_ : (A 108).length = (A 10).length) (_ : (A 10).length < 2 ^ 31), am_cl m_Row_copy [.ref 9, .ref 107] (heap A F P) = some (none, heap (up A 10 (A 108)) F P)) ∧ (∀ (A : Nat → List Int32) (F : Nat → Int32) (P : Nat → Nat) (_ : (A 12).length = (A 110).length) (_ : (A 110).length < 2 ^ 31), am_cl m_Row_copy [.ref 109, .ref 11] (heap A F P) = some (none, heap (up A 110 (A 12)) F P)) ∧ (∀ (A : Nat → List Int32) (F : Nat → Int32) (P : Nat → Nat) (_ : (A 110).length = (A 12).length) (_ : (A 12).length < 2 ^ 31), am_cl m_Row_copy [.ref 11, .ref 109] (heap A F P) = some (none, heap (up A 12 (A 110)) F P)) ∧ (∀ (A : Nat → List Int32) (F : Nat → Int32) (P : Nat → Nat) (_ : (A 14).length = (A 112).length) (_ : (A 112).length < 2 ^ 31), am_cl m_Row_copy [.ref 111, .ref 13] (heap A F P) = some (none, heap (up A 112 (A 14)) F P)) ∧ (∀ (A : Nat → List Int32) (F : Nat → Int32) (P : Nat → Nat) (_ : (A 112).length = (A 14).length) (_ : (A 14).length < 2 ^ 31), am_cl m_Row_copy [.ref 13, .ref 111] (heap A F P) = some (none, heap (up A 14 (A 112)) F P)) ∧ (∀ (A : Nat → List Int32) (F : Nat → Int32) (P : Nat → Nat) (_ : (A 16).length = (A 114).length) (_ : (A 114).length < 2 ^ 31), am_cl m_Row_copy [.ref 113, .ref 15] (heap A F P) = some (none, heap (up A 114 (A 16)) F P)) ∧ (∀ (A : Nat → List Int32) (F : Nat → Int32) (P : Nat → Nat) (_ : (A 114).length = (A 16).length) (_ : (A 16).length < 2 ^ 31), am_cl m_Row_copy [.ref 15, .ref 113] (heap A F P) = some (none, heap (up A 16 (A 114)) F P)) ∧ (∀ (A : Nat → List Int32) (F : Nat → Int32) (P : Nat → Nat) (_ : (A 18).length = (A 116).length) (_ : (A 116).length < 2 ^ 31), am_cl m_Row_copy [.ref 115, .ref 17] (heap A F P) = some (none, heap (up A 116 (A 18)) F P)) ∧ (∀ (A : Nat → List Int32) (F : Nat → Int32) (P : Nat → Nat) (_ : (A 116).length = (A 18).length) (_ : (A 18).length < 2 ^ 31), am_cl m_Row_copy [.ref 17, .ref 115] (heap A F P) = some (none, heap (up A 18 (A 116)) F P)) ∧ (∀ (A : Nat → List Int32) (F : Nat → Int32) (P : Nat → Nat) (_ : (A 21).length = (A 119).length) (_ : (A 119).length < 2 ^ 31), am_cl m_Row_copy [.ref 118, .ref 20] (heap A F P) = some (none, heap (up A 119 (A 21)) F P)) ∧ (∀ (A : Nat → List Int32) (F : Nat → Int32) (P : Nat → Nat) (_ : (A 119).length = (A 21).length) (_ : (A 21).length < 2 ^ 31), am_cl m_Row_copy [.ref 20, .ref 118] (heap A F P) = some (none, heap (up A 21 (A 119)) F P)) ∧ (∀ (A : Nat → List Int32) (F : Nat → Int32) (P : Nat → Nat) (_ : (A 23).length = (A 121).length) (_ : (A 121).length < 2 ^ 31), am_cl m_Row_copy [.ref 120, .ref 22] (heap A F P) = some (none, heap (up A 121 (A 23)) F P)) ∧ (∀ (A : Nat → List Int32) (F : Nat → Int32) (P : Nat → Nat) (_ : (A 121).length = (A 23).length) (_ : (A 23).length < 2 ^ 31), am_cl m_Row_copy [.ref 22, .ref 120] (heap A F P) = some (none, heap (up A 23 (A 121)) F P)) ∧ (∀ (A : Nat → List Int32) (F : Nat → Int32) (P : Nat → Nat) (_ : (A 25).length = (A 123).length) (_ : (A 123).length < 2 ^ 31), am_cl m_Row_copy [.ref 122, .ref 24] (heap A F P) = some (none, heap (up A 123 (A 25)) F P)) ∧ (∀ (A : Nat → List Int32) (F : Nat → Int32) (P : Nat → Nat) (_ : (A 123).length = (A 25).length) (_ : (A 25).length < 2 ^ 31), am_cl m_Row_copy [.ref 24, .ref 122] (heap A F P) = some (none, heap (up A 25 (A 123)) F P)) ∧ (∀ (A : Nat → List Int32) (F : Nat → Int32) (P : Nat → Nat) (_ : (A 27).length = (A 125).length) (_ : (A 125).length < 2 ^ 31), am_cl m_Row_copy [.ref 124, .ref 26] (heap A F P) = some (none, heap (up A 125 (A 27)) F P)) ∧ (∀ (A : Nat → List Int32) (F : Nat → Int32) (P : Nat → Nat) (_ : (A 125).length = (A 27).length) (_ : (A 27).length < 2 ^ 31), am_cl m_Row_copy [.ref 26, .ref 124] (heap A F P) = some (none, heap (up A 27 (A 125)) F P)) ∧ (∀ (A : Nat → List Int32) (F : Nat → Int32) (P : Nat → Nat) (_ : (A 29).length = (A 127).length) (_ : (A 127).length < 2 ^ 31), am_cl m_Row_copy [.ref 126, .ref 28] (heap A F P) = some (none, heap (up A 127 (A 29)) F P)) ∧ (∀ (A : Nat → List Int32) (F : Nat → Int32) (P : Nat → Nat) (_ : (A 127).length = (A 29).length) (_ : (A 29).length < 2 ^ 31), am_cl m_Row_copy [.ref 28, .ref 126] (heap A F P) = some (none, heap (up A 29 (A 127)) F P)) ∧ (∀ (A : Nat → List Int32) (F : Nat → Int32) (P : Nat → Nat) (_ : (A 31).length = (A 129).length) (_ : (A 129).length < 2 ^ 31), am_cl m_Row_copy [.ref 128, .ref 30] (heap A F P) = some (none, heap (up A 129 (A 31)) F P)) ∧ (∀ (A : Nat → List Int32) (F : Nat → Int32) (P : Nat → Nat) (_ : (A 129).length = (A 31).length) (_ : (A 31).length < 2 ^ 31), am_cl m_Row_copy [.ref 30, .ref 128] (heap A F P) = some (none, heap (up A 31 (A 129)) F P)) ∧ (∀ (A : Nat → List Int32) (F : Nat → Int32) (P : Nat → Nat) (_ : (A 33).length = (A 131).length) (_ : (A 131).length < 2 ^ 31), am_cl m_Row_copy [.ref 130, .ref 32] (heap A F P) = some (none, heap (up A 131 (A 33)) F P)) ∧ (∀ (A : Nat → List Int32) (F : Nat → Int32) (P : Nat → Nat) (_ : (A 131).length = (A 33).length) (_ : (A 33).length < 2 ^ 31), am_cl m_Row_copy [.ref 32, .ref 130] (heap A F P) = some (none, heap (up A 33 (A 131)) F P)) ∧ (∀ (A : Nat → List Int32) (F : Nat → Int32) (P : Nat → Nat) (_ : (A 5).length = (A 135).length) (_ : (A 135).length < 2 ^ 31), am_cl m_Row_copy [.ref 134, .ref 4] (heap A F P) = some (none, heap (up A 135 (A 5)) F P)) ∧ (∀ (A : Nat → List Int32) (F : Nat → Int32) (P : Nat → Nat) (_ : (A 135).length = (A 5).length) (_ : (A 5).length < 2 ^ 31), am_cl m_Row_copy [.ref 4, .ref 134] (heap A F P) = some (none, heap (up A 5 (A 135)) F P)) ∧ (∀ (A : Nat → List Int32) (F : Nat → Int32) (P : Nat → Nat) (_ : (A 7).length = (A 137).length) (_ : (A 137).length < 2 ^ 31), am_cl m_Row_copy [.ref 136, .ref 6] (heap A F P) = some (none, heap (up A 137 (A 7)) F P)) ∧ (∀ (A : Nat → List Int32) (F : Nat → Int32) (P : Nat → Nat) (_ : (A 137).length = (A 7).length) (_ : (A 7).length < 2 ^ 31), am_cl m_Row_copy [.ref 6, .ref 136] (heap A F P) = some (none, heap (up A 7 (A 137)) F P)) ∧ (∀ (A : Nat → List Int32) (F : Nat → Int32) (P : Nat → Nat) (_ : (A 10).length = (A 140).length) (_ : (A 140).length < 2 ^ 31), am_cl m_Row_copy [.ref 139, .ref 9] (heap A F P) = some (none, heap (up A 140 (A 10)) F P)) ∧ (∀ (A : Nat → List Int32) (F : Nat → Int32) (P : Nat → Nat) (_ : (A 140).length = (A 10).length) (_ : (A 10).length < 2 ^ 31), am_cl m_Row_copy [.ref 9, .ref 139] (heap A F P) = some (none, heap (up A 10 (A 140)) F P)) ∧ (∀ (A : Nat → List Int32) (F : Nat → Int32) (P : Nat → Nat) (_ : (A 12).length = (A 142).length) (_ : (A 142).length < 2 ^ 31), am_cl m_Row_copy [.ref 141, .ref 11] (heap A F P) = some (none, heap (up A 142 (A 12)) F P)) ∧ (∀ (A : Nat → List Int32) (F : Nat → Int32) (P : Nat → Nat) (_ : (A 142).length = (A 12).length) (_ : (A 12).length < 2 ^ 31), am_cl m_Row_copy [.ref 11, .ref 141] (heap A F P) = some (none, heap (up A 12 (A 142)) F P)) ∧ (∀ (A : Nat → List Int32) (F : Nat → Int32) (P : Nat → Nat) (_ : (A 14).length = (A 144).length) (_ : (A 144).length < 2 ^ 31), am_cl m_Row_copy [.ref 143, .ref 13] (heap A F P) = some (none, heap (up A 144 (A 14)) F P)) ∧ (∀ (A : Nat → List Int32) (F : Nat → Int32) (P : Nat → Nat) (_ : (A 144).length = (A 14).length) (_ : (A 14).length < 2 ^ 31), am_cl m_Row_copy [.ref 13, .ref 143] (heap A F P) = some (none, heap (up A 14 (A 144)) F P)) ∧ (∀ (A : Nat → List Int32) (F : Nat → Int32) (P : Nat → Nat) (_ : (A 16).length = (A 146).length) (_ : (A 146).length < 2 ^ 31), am_cl m_Row_copy [.ref 145, .ref 15] (heap A F P) = some (none, heap (up A 146 (A 16)) F P)) ∧ (∀ (A : Nat → List Int32) (F : Nat → Int32) (P : Nat → Nat) (_ : (A 146).length = (A 16).length) (_ : (A 16).length < 2 ^ 31), am_cl m_Row_copy [.ref 15, .ref 145] (heap A F P) = some (none, heap (up A 16 (A 146)) F P)) ∧ (∀ (A : Nat → List Int32) (F : Nat → Int32) (P : Nat → Nat) (_ : (A 18).length = (A 148).length) (_ : (A 148).length < 2 ^ 31), am_cl m_Row_copy [.ref 147, .ref 17] (heap A F P) = some (none, heap (up A 148 (A 18)) F P)) ∧ (∀ (A : Nat → List Int32) (F : Nat → Int32) (P : Nat → Nat) (_ : (A 148).length = (A 18).length) (_ : (A 18).length < 2 ^ 31), am_cl m_Row_copy [.ref 17, .ref 147] (heap A F P) = some (none, heap (up A 18 (A 148)) F P)) ∧ (∀ (A : Nat → List Int32) (F : Nat → Int32) (P : Nat → Nat) (_ : (A 21).length = (A 151).length) (_ : (A 151).length < 2 ^ 31), am_cl m_Row_copy [.ref 150, .ref 20] (heap A F P) = some (none, heap (up A 151 (A 21)) F P)) ∧ (∀ (A : Nat → List Int32) (F : Nat → Int32) (P : Nat → Nat) (_ : (A 151).length = (A 21).length) (_ : (A 21).length < 2 ^ 31), am_cl m_Row_copy [.ref 20, .ref 150] (heap A F P) = some (none, heap (up A 21 (A 151)) F P)) ∧ (∀ (A : Nat → List Int32) (F : Nat → Int32) (P : Nat → Nat) (_ : (A 23).length = (A 153).length) (_ : (A 153).length < 2 ^ 31), am_cl m_Row_copy [.ref 152, .ref 22] (heap A F P) = some (none, heap (up A 153 (A 23)) F P)) ∧ (∀ (A : Nat → List Int32) (F : Nat → Int32) (P : Nat → Nat) (_ : (A 153).length = (A 23).length) (_ : (A 23).length < 2 ^ 31), am_cl m_Row_copy [.ref 22, .ref 152] (heap A F P) = some (none, heap (up A 23 (A 153)) F P)) ∧ (∀ (A : Nat → List Int32) (F : Nat → Int32) (P : Nat → Nat) (_ : (A 25).length = (A 155).length) (_ : (A 155).length < 2 ^ 31), am_cl m_Row_copy [.ref 154, .ref 24] (heap A F P) = some (none, heap (up A 155 (A 25)) F P)) ∧ (∀ (A : Nat → List Int32) (F : Nat → Int32) (P : Nat → Nat) (_ : (A 155).length = (A 25).length) (_ : (A 25).length < 2 ^ 31), am_cl m_Row_copy [.ref 24, .ref 154] (heap A F P) = some (none, heap (up A 25 (A 155)) F P)) ∧ (∀ (A : Nat → List Int32) (F : Nat → Int32) (P : Nat → Nat) (_ : (A 27).length = (A 157).length) (_ : (A 157).length < 2 ^ 31), am_cl m_Row_copy [.ref 156, .ref 26] (heap A F P) = some (none, heap (up A 157 (A 27)) F P)) ∧ (∀ (A : Nat → List Int32) (F : Nat → Int32) (P : Nat → Nat) (_ : (A 157).length = (A 27).length) (_ : (A 27).length < 2 ^ 31), am_cl m_Row_copy [.ref 26, .ref 156] (heap A F P) = some (none, heap (up A 27 (A 157)) F P)) ∧ (∀ (A : Nat → List Int32) (F : Nat → Int32) (P : Nat → Nat) (_ : (A 29).length = (A 159).length) (_ : (A 159).length < 2 ^ 31), am_cl m_Row_copy [.ref 158, .ref 28] (heap A F P) = some (none, heap (up A 159 (A 29)) F P)) ∧ (∀ (A : Nat → List Int32) (F : Nat → Int32) (P : Nat → Nat) (_ : (A 159).length = (A 29).length) (_ : (A 29).length < 2 ^ 31), am_cl m_Row_copy [.ref 28, .ref 158] (heap A F P) = some (none, heap (up A 29 (A 159)) F P)) ∧ (∀ (A : Nat → List Int32) (F : Nat → Int32) (P : Nat → Nat) (_ : (A 31).length = (A 161).length) (_ : (A 161).length < 2 ^ 31), am_cl m_Row_copy [.ref 160, .ref 30] (heap A F P) = some (none, heap (up A 161 (A 31)) F P)) ∧ (∀ (A : Nat → List Int32) (F : Nat → Int32) (P : Nat → Nat) (_ : (A 161).length = (A 31).length) (_ : (A 31).length < 2 ^ 31), am_cl m_Row_copy [.ref 30, .ref 160] (heap A F P) = some (none, heap (up A 31 (A 161)) F P)) ∧ (∀ (A : Nat → List Int32) (F : Nat → Int32) (P : Nat → Nat) (_ : (A 33).length = (A 163).length) (_ : (A 163).length < 2 ^ 31), am_cl m_Row_copy [.ref 162, .ref 32] (heap A F P) = some (none, heap (up A 163 (A 33)) F P)) ∧ (∀ (A : Nat → List Int32) (F : Nat → Int32) (P : Nat → Nat) (_ : (A 163).length = (A 33).length) (_ : (A 33).length < 2 ^ 31), am_cl m_Row_copy [.ref 32, .ref 162] (heap A F P) = some (none, heap (up A 33 (A 163)) F P)) := ⟨rc_38_4, rc_4_38, rc_40_6, rc_6_40, rc_43_9, rc_9_43, rc_45_11, rc_11_45, rc_47_13, rc_13_47, rc_49_15, rc_15_49, rc_51_17, rc_17_51, rc_54_20, rc_20_54, rc_56_22, rc_22_56, rc_58_24, rc_24_58, rc_60_26, rc_26_60, rc_62_28, rc_28_62, rc_64_30, rc_30_64, rc_66_32, rc_32_66, rc_70_4, rc_4_70, rc_72_6, rc_6_72, rc_75_9, rc_9_75, rc_77_11, rc_11_77, rc_79_13, rc_13_79, rc_81_15, rc_15_81, rc_83_17, rc_17_83, rc_86_20, rc_20_86, rc_88_22, rc_22_88, rc_90_24, rc_24_90, rc_92_26, rc_26_92, rc_94_28, rc_28_94, rc_96_30, rc_30_96, rc_98_32, rc_32_98, rc_102_4, rc_4_102, rc_104_6, rc_6_104, rc_107_9, rc_9_107, rc_109_11, rc_11_109, rc_111_13, rc_13_111, rc_113_15, rc_15_113, rc_115_17, rc_17_115, rc_118_20, rc_20_118, rc_120_22, rc_22_120, rc_122_24, rc_24_122, rc_124_26, rc_26_124, rc_126_28, rc_28_126, rc_128_30, rc_30_128, rc_130_32, rc_32_130, rc_134_4, rc_4_134, rc_136_6, rc_6_136, rc_139_9, rc_9_139, rc_141_11, rc_11_141, rc_143_13, rc_13_143, rc_145_15, rc_15_145, rc_147_17, rc_17_147, rc_150_20, rc_20_150, rc_152_22, rc_22_152, rc_154_24, rc_24_154, rc_156_26, rc_26_156, rc_158_28, rc_28_158, rc_160_30, rc_30_160, rc_162_32, rc_32_162⟩

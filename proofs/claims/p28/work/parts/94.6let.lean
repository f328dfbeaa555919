/-! THE LAW'S LETTER: three bids arrive -/
section X
variable {A : Nat → List Int32} {F : Nat → Int32} {P : Nat → Nat} {nB nl nb nx q t : Nat}
theorem cpA_c {A A' : Nat → List Int32} {b j : Nat} (h : ∀ i, i < 164 → A' i = A i) (hb : 36 ≤ b) (hj : j < 164) : cpA A' 2 b j = cpA A 2 b j := by
  unfold cpA
  split
  · split
    · exact h _ (by omega)
    · exact h _ hj
  · exact h _ hj
theorem cpF_c {F F' : Nat → Int32} {b k : Nat} (h : ∀ i, i < 16400 → F' i = F i) (hb : 36 ≤ b) (hk : k < 16400) : cpF F' 2 b k = cpF F 2 b k := by
  unfold cpF
  split
  · split
    · exact h _ (by omega)
    · exact h _ hk
  · exact h _ hk
theorem k_let3 (hI : InvN A F P nB nl nb nx q t) {T : Nat → Int32} (hT : ∀ j, j < t → g (A 195) j = T j) {b l o G : Nat} {v : Int32} (hb : b < nb) (hl : l < nl) (ho : o < nl) (hl9 : l ≤ 9) (ho9 : o ≤ 9) (g1 : ¬ (v < nI 0 ∨ nI 100000 < v)) (hx : nx + 3 ≤ 60) (ht : t = 12) (h3 : Tx3 T l o) (hG : MaxOf (fun y => y < nx ∧ g (A 193) (168 + y) = nI b) (fun y => g (A 193) (348 + y)) 0 G) : Act m_Pa_letter [.int (nI b), .int v] A F P (.int (nI 3)) (tRow (A 193) nx l o b G v) nB nl nb (nx + 3) q t := by
  classical
  have hC := Cx_of hI
  obtain ⟨hM, hB, ⟨n1, n2, n3, n4⟩, l1, hCL, hCM, hCX, hCS, hS0, hS1, hS2, hS3⟩ := id hC
  obtain ⟨c5, c7, c10, c12, c14, c16, c18, c21, c23, c25, c27, c29, c31, c33⟩ := LenS2 l1
  have hnl : nl ≤ 20 := hM.1.2.2.2.2.2.2.2.1
  have hnb : nb ≤ 8 := hM.1.2.2.2.2.2.2.2.2.1
  have hnx : nx ≤ 60 := hM.1.2.2.2.2.2.2.2.2.2
  have hnB : nB ≤ 8 := hM.1.2.2.2.2.2.2.1
  obtain ⟨hSim, ⟨ls1, ls2, ls3⟩, hHi, ⟨t1, t2, t3, t4⟩, hHe⟩ := id hI
  have iB := fun x => s_isBidder (A := A) (F := F) (P := P) n3 (by omega) x
  have g0 : ix (nI b) nb := ⟨b, hb, rfl⟩
  obtain ⟨y1, -⟩ := read3 (P := P) (CL_of hI hT) hnl h3 hl9 ho9 hl ho (ndg_t (by omega)) (by omega) (by simp (disch := (first | omega | fail)) only [st_e, sf_e, Nat.reduceAdd, Nat.reduceMul, up_eq, up_ne, cpA_o, cpF_o]) (by simp (disch := (first | omega | fail)) only [st_e, sf_e, Nat.reduceAdd, Nat.reduceMul, up_eq, up_ne, cpA_o, cpF_o]) (by simp (disch := (first | omega | fail)) only [st_e, sf_e, Nat.reduceAdd, Nat.reduceMul, up_eq, up_ne, cpA_o, cpF_o]) (by simp (disch := (first | omega | fail)) only [st_e, sf_e, Nat.reduceAdd, Nat.reduceMul, up_eq, up_ne, cpA_o, cpF_o]) (by simp (disch := (first | omega | fail)) only [st_e, sf_e, Nat.reduceAdd, Nat.reduceMul, up_eq, up_ne, cpA_o, cpF_o]) (.float 0) (.float 0) (.float 0)
  obtain ⟨A1, F1, a1, a3, a2, k3, e187, e189, e191, k4⟩ := y1 ht
  rw [← s_read] at k4
  have a2 := LfF0.trans a2
  have hI1 : InvN A1 F1 P nB nl nb nx q t := InvN_jl hI a1 a2 a3
  have eA1 : ∀ j, j < 187 ∨ 191 < j → A1 j = A j := fun j hj => a1 j (by omega) (by omega) (by omega)
  have hl3 := ls3.2.2.2.1
  have e1906 : F1 1906 = nI nx := by rw [a2 _ (by omega)]; exact n4
  obtain ⟨b', H', hb', b1, b2, hba, hH0, hH1, hH2⟩ := act_pre hI1
  have hSX : ∀ y, y < nx → g (A 21) y = g (A 193) (168 + y) ∧ g (A 23) y = g (A 193) (108 + y) ∧ g (A 25) y = g (A 193) (228 + y) ∧ g (A 27) y = g (A 193) (288 + y) ∧ g (A 29) y = g (A 193) (348 + y) ∧ g (A 31) y = g (A 193) (408 + y) ∧ (∃ l, l < nl ∧ g (A 193) (108 + y) = nI l) ∧ (∃ b, b < nb ∧ g (A 193) (168 + y) = nI b) ∧ rg (g (A 193) (228 + y)) 1 1000000 ∧ rg (g (A 193) (288 + y)) 0 100000 ∧ rg (g (A 193) (348 + y)) 0 (1000000 + y) ∧ rg (g (A 193) (408 + y)) 0 1 := fun y hy => hSim.2.2.2.2.2.1 y hy
  have hgr : ∀ y, y < nx → ∃ k, k ≤ 1200000 ∧ g (A 193) (348 + y) = nI k := fun y hy => by
    obtain ⟨k, z1, z2, z3⟩ := (hSX y hy).2.2.2.2.2.2.2.2.2.2.1
    exact ⟨k, by omega, z3⟩
  have hG0 : G = 0 ∨ G + 1 ≤ 1000000 + nx := by
    rcases hG.2.2.2 with z | ⟨y, ⟨y1, y2⟩, y3⟩
    · exact Or.inl z
    · obtain ⟨k, z1, z2, z3⟩ := (hSX y y1).2.2.2.2.2.2.2.2.2.2.1
      have h12 := hG.1
      have y3 : g (A 193) (348 + y) = nI G := y3
      rw [z3, nI_eq' (by omega) (by omega)] at y3
      exact Or.inr (by omega)
  have eA2 : ∀ j, j < 36 → cpA A1 2 b' j = A j := fun j hj => by rw [cpA_o (by omega)]; exact eA1 j (by omega)
  have hrow2 : ∀ j, j < 3 → g (A1 187) j = nI ((fun j => if j = 1 then o else l) j) ∧ g (A1 189) j = nI ((fun j => if j = 0 then 7 else if j = 1 then 30 else 9) j) ∧ g (A1 191) j = nI ((fun j => if j = 2 then 1 else 0) j) ∧ (fun j => if j = 2 then 1 else 0) j ≤ 20 := fun j hj => by
    rw [e187, e189, e191]
    obtain ⟨m1, m2, m3⟩ := hl3
    have : j = 0 ∨ j = 1 ∨ j = 2 := by omega
    rcases this with w | w | w <;> subst w
    · exact ⟨by simp (disch := (first | omega | (simp only [List.length_set] <;> omega) | fail)) only [g_seq, g_sne, List.length_set]; rfl, by simp (disch := (first | omega | (simp only [List.length_set] <;> omega) | fail)) only [g_seq, g_sne, List.length_set]; rfl, by simp (disch := (first | omega | (simp only [List.length_set] <;> omega) | fail)) only [g_seq, g_sne, List.length_set]; rfl, by decide⟩
    · exact ⟨by simp (disch := (first | omega | (simp only [List.length_set] <;> omega) | fail)) only [g_seq, g_sne, List.length_set]; rfl, by simp (disch := (first | omega | (simp only [List.length_set] <;> omega) | fail)) only [g_seq, g_sne, List.length_set]; rfl, by simp (disch := (first | omega | (simp only [List.length_set] <;> omega) | fail)) only [g_seq, g_sne, List.length_set]; rfl, by decide⟩
    · exact ⟨by simp (disch := (first | omega | (simp only [List.length_set] <;> omega) | fail)) only [g_seq, g_sne, List.length_set]; rfl, by simp (disch := (first | omega | (simp only [List.length_set] <;> omega) | fail)) only [g_seq, g_sne, List.length_set]; rfl, by simp (disch := (first | omega | (simp only [List.length_set] <;> omega) | fail)) only [g_seq, g_sne, List.length_set]; rfl, by decide⟩
  obtain ⟨gr0, gr1, gr2⟩ := grp3 (wf := fun j => if j = 2 then 1 else 0) G rfl (by decide)
  obtain ⟨A3, F3, q1, q2, q3, q4, q5, q6, q7⟩ := c_bids (P := Pk q P) (b := b) (nx := nx) (K := 3) (G0 := G) (v := v) (x3 := -nI 1) (lf := fun j => if j = 1 then o else l) (af := fun j => if j = 0 then 7 else if j = 1 then 30 else 9) (wf := fun j => if j = 2 then 1 else 0) (by omega) hx (by omega) (by omega) 3 0 0 (cpA A1 2 b') (up (up (cpF F1 2 b') 3401 (nI (kp q + 1))) 16410 (nI 0)) (by omega)
    (by unfold LenX; rw [eA2 21 (by omega), eA2 23 (by omega), eA2 25 (by omega), eA2 27 (by omega), eA2 29 (by omega), eA2 31 (by omega)]; exact ⟨c21, c23, c25, c27, c29, c31⟩)
    (by rw [cpA_o (by omega), cpA_o (by omega), cpA_o (by omega)]; exact a3)
    (by simp (disch := (first | omega | fail)) only [st_e, sf_e, Nat.reduceAdd, Nat.reduceMul, up_eq, up_ne, cpA_o, cpF_o]; exact k3)
    (by rw [cpA_o (by omega), cpA_o (by omega), cpA_o (by omega)]; exact hrow2)
    (by simp (disch := (first | omega | fail)) only [st_e, sf_e, Nat.reduceAdd, Nat.reduceMul, up_eq, up_ne, cpA_o, cpF_o]; exact e1906)
    (fun y hy => by rw [eA2 29 (by omega), (hSX y (by omega)).2.2.2.2.1]; exact hgr y (by omega))
    (by
      rw [eA2 29 (by omega), eA2 21 (by omega)]
      refine MaxOf_f (MaxOf_c hG (fun y => ⟨fun ⟨z1, z2⟩ => ⟨by omega, by rw [(hSX y z1).1]; exact z2⟩, fun ⟨z1, z2⟩ => ⟨by omega, by rw [← (hSX y (by omega)).1]; exact z2⟩⟩)) (fun y hy => (hSX y (by have := hy.1; omega)).2.2.2.2.1))
    (fun z => absurd z (Nat.lt_irrefl _))
  have hlen : (A 193).length = 472 := hSim.1.1
  obtain ⟨w0, w1, w2, w7⟩ := tRow_at (l := l) (o := o) (b := b) (G := G) (v := v) hlen hx
  have w3 := tRow_len (nx := nx) (l := l) (o := o) (b := b) (G := G) (v := v) hlen
  have wne : ∀ j, ¬ j = 107 → (j < 108 + nx ∨ 108 + nx + 3 ≤ j) → (j < 168 + nx ∨ 168 + nx + 3 ≤ j) → (j < 228 + nx ∨ 228 + nx + 3 ≤ j) → (j < 288 + nx ∨ 288 + nx + 3 ≤ j) → (j < 348 + nx ∨ 348 + nx + 3 ≤ j) → (j < 408 + nx ∨ 408 + nx + 3 ≤ j) → g (tRow (A 193) nx l o b G v) j = g (A 193) j := fun j h7 h1 h2 h3 h4 h5 h6 => tRow_ne h7 h1 h2 h3 h4 h5 h6
  generalize tRow (A 193) nx l o b G v = R' at w0 w1 w2 w7 w3 wne ⊢
  have eA3 : ∀ j, j ≠ 21 → j ≠ 23 → j ≠ 25 → j ≠ 27 → j ≠ 29 → j ≠ 31 → A3 j = cpA A1 2 b' j := q1
  have eA3h : ∀ j, 164 ≤ j → A3 j = A1 j := fun j hj => by rw [q1 j (by omega) (by omega) (by omega) (by omega) (by omega) (by omega), cpA_o (by omega)]
  have eF3 : ∀ k, k ≠ 1906 → k ≠ 3401 → k ≠ 16410 → F3 k = cpF F1 2 b' k := fun k z1 z2 z3 => by rw [q2 k z1, up_ne _ _ z3, up_ne _ _ z2]
  have eF3h : ∀ k, 16411 ≤ k → F3 k = F1 k := fun k hk => by rw [eF3 k (by omega) (by omega) (by omega), cpF_o (by omega)]
  have sA : ∀ j, j < 36 → j ≠ 21 → j ≠ 23 → j ≠ 25 → j ≠ 27 → j ≠ 29 → j ≠ 31 → up (up A3 193 R') 194 H' j = A j := fun j hj z1 z2 z3 z4 z5 z6 => by rw [up_ne _ _ (by omega), up_ne _ _ (by omega), q1 j z1 z2 z3 z4 z5 z6]; exact eA2 j hj
  have sX : ∀ j, j < 36 → up (up A3 193 R') 194 H' j = A3 j := fun j hj => by rw [up_ne _ _ (by omega), up_ne _ _ (by omega)]
  have sF' : ∀ k, k < 3400 → k ≠ 1906 → up F3 19202 (nI (kp q + 1)) k = F k := fun k hk z => by rw [up_ne _ _ (by omega), eF3 k z (by omega) (by omega), cpF_o (by omega)]; exact a2 k (by omega)
  obtain ⟨m0, m1, m2, m3, m4, m5, m6, m7, m8, m9⟩ := id hSim.1
  have hMN : Mok R' nB nl nb (nx + 3) := ⟨w3, by rw [wne _ (by omega) (by omega) (by omega) (by omega) (by omega) (by omega) (by omega)]; exact m1, by rw [wne _ (by omega) (by omega) (by omega) (by omega) (by omega) (by omega) (by omega)]; exact m2, by rw [wne _ (by omega) (by omega) (by omega) (by omega) (by omega) (by omega) (by omega)]; exact m3, w7, m5, m6, m7, m8, hx⟩
  have hS : Sim (st (up (up A3 193 R') 194 H') 2) (sf (up F3 19202 (nI (kp q + 1))) 2) R' nB nl nb (nx + 3) := by
    obtain ⟨-, ⟨m1, m2, m3, m4⟩, hSB, hSL, hSM, -, hSS⟩ := hSim
    have hB1 : 1 ≤ nB := hM.1.2.2.2.2.2.1
    refine ⟨hMN, ⟨?_, ?_, ?_, ?_⟩, ?_, ?_, ?_, ?_, ?_⟩
    · show up F3 19202 (nI (kp q + 1)) 302 = nI nB; rw [sF' 302 (by omega) (by omega)]; exact n1
    · show up F3 19202 (nI (kp q + 1)) 804 = nI nl; rw [sF' 804 (by omega) (by omega)]; exact n2
    · show up F3 19202 (nI (kp q + 1)) 203 = nI nb; rw [sF' 203 (by omega) (by omega)]; exact n3
    · show up F3 19202 (nI (kp q + 1)) 1906 = nI (nx + 3); rw [up_ne _ _ (by omega)]; exact q4
    · exact SimB_c (a := st A 2) hnB (fun j z1 z2 => wne j (by omega) (by omega) (by omega) (by omega) (by omega) (by omega) (by omega)) (sA 5 (by omega) (by omega) (by omega) (by omega) (by omega) (by omega) (by omega)) (sA 7 (by omega) (by omega) (by omega) (by omega) (by omega) (by omega) (by omega)) hB1 hSB
    · exact SimL_c (a := st A 2) hnl (fun j z1 z2 => wne j (by omega) (by omega) (by omega) (by omega) (by omega) (by omega) (by omega)) (sA 10 (by omega) (by omega) (by omega) (by omega) (by omega) (by omega) (by omega)) (sA 12 (by omega) (by omega) (by omega) (by omega) (by omega) (by omega) (by omega)) (sA 14 (by omega) (by omega) (by omega) (by omega) (by omega) (by omega) (by omega)) (sA 16 (by omega) (by omega) (by omega) (by omega) (by omega) (by omega) (by omega)) hSL
    · exact SimM_c (a := st A 2) hnb (fun j z1 z2 => wne j (by omega) (by omega) (by omega) (by omega) (by omega) (by omega) (by omega)) (sA 18 (by omega) (by omega) (by omega) (by omega) (by omega) (by omega) (by omega)) hSM
    · intro y hy
      show g (up (up A3 193 R') 194 H' 21) y = g R' (168 + y) ∧ g (up (up A3 193 R') 194 H' 23) y = g R' (108 + y) ∧ g (up (up A3 193 R') 194 H' 25) y = g R' (228 + y) ∧ g (up (up A3 193 R') 194 H' 27) y = g R' (288 + y) ∧ g (up (up A3 193 R') 194 H' 29) y = g R' (348 + y) ∧ g (up (up A3 193 R') 194 H' 31) y = g R' (408 + y) ∧ (∃ l, l < nl ∧ g R' (108 + y) = nI l) ∧ (∃ b, b < nb ∧ g R' (168 + y) = nI b) ∧ rg (g R' (228 + y)) 1 1000000 ∧ rg (g R' (288 + y)) 0 100000 ∧ rg (g R' (348 + y)) 0 (1000000 + y) ∧ rg (g R' (408 + y)) 0 1
      rw [sX 21 (by omega), sX 23 (by omega), sX 25 (by omega), sX 27 (by omega), sX 29 (by omega), sX 31 (by omega)]
      by_cases c : y < nx
      · obtain ⟨u1, u2, u3, u4, u5, u6⟩ := q5 y (by omega)
        rw [u1, u2, u3, u4, u5, u6, eA2 21 (by omega), eA2 23 (by omega), eA2 25 (by omega), eA2 27 (by omega), eA2 29 (by omega), eA2 31 (by omega), wne (108 + y) (by omega) (by omega) (by omega) (by omega) (by omega) (by omega) (by omega), wne (168 + y) (by omega) (by omega) (by omega) (by omega) (by omega) (by omega) (by omega), wne (228 + y) (by omega) (by omega) (by omega) (by omega) (by omega) (by omega) (by omega), wne (288 + y) (by omega) (by omega) (by omega) (by omega) (by omega) (by omega) (by omega), wne (348 + y) (by omega) (by omega) (by omega) (by omega) (by omega) (by omega) (by omega), wne (408 + y) (by omega) (by omega) (by omega) (by omega) (by omega) (by omega) (by omega)]
        exact hSX y c
      · have hv : rg v 0 100000 := (rg_iff (by omega) (by omega)).mpr g1
        have : y = nx + 0 ∨ y = nx + 1 ∨ y = nx + 2 := by omega
        rcases this with w | w | w
        · obtain ⟨u1, u2, u3, u4, u5, u6⟩ := q6 0 (Nat.zero_le _) (by omega)
          obtain ⟨v1, v2, v3, v4, v5, v6⟩ := w0
          rw [w, u1, u2, u3, u4, u5, u6, v1, v2, v3, v4, v5, v6, gr0]
          exact ⟨rfl, rfl, rfl, rfl, rfl, rfl, ⟨_, hl, rfl⟩, ⟨b, hb, rfl⟩, ⟨7, by omega, by omega, rfl⟩, hv, ⟨_, Nat.zero_le _, by omega, rfl⟩, ⟨0, by omega, by omega, rfl⟩⟩
        · obtain ⟨u1, u2, u3, u4, u5, u6⟩ := q6 1 (Nat.zero_le _) (by omega)
          obtain ⟨v1, v2, v3, v4, v5, v6⟩ := w1
          rw [w, u1, u2, u3, u4, u5, u6, v1, v2, v3, v4, v5, v6, gr1]
          exact ⟨rfl, rfl, rfl, rfl, rfl, rfl, ⟨_, ho, rfl⟩, ⟨b, hb, rfl⟩, ⟨30, by omega, by omega, rfl⟩, hv, ⟨_, Nat.zero_le _, by omega, rfl⟩, ⟨0, by omega, by omega, rfl⟩⟩
        · obtain ⟨u1, u2, u3, u4, u5, u6⟩ := q6 2 (Nat.zero_le _) (by omega)
          obtain ⟨v1, v2, v3, v4, v5, v6⟩ := w2
          rw [w, u1, u2, u3, u4, u5, u6, v1, v2, v3, v4, v5, v6, gr2]
          exact ⟨rfl, rfl, rfl, rfl, rfl, rfl, ⟨_, hl, rfl⟩, ⟨b, hb, rfl⟩, ⟨9, by omega, by omega, rfl⟩, hv, ⟨_, Nat.zero_le _, by omega, rfl⟩, ⟨0, by omega, by omega, rfl⟩⟩
    · exact SimS_c (a := st A 2) (fun j z1 z2 => wne j (by omega) (by omega) (by omega) (by omega) (by omega) (by omega) (by omega)) (sA 33 (by omega) (by omega) (by omega) (by omega) (by omega) (by omega) (by omega)) hSS
  have hLS : LenS (up (up A3 193 R') 194 H') 2 := by
    obtain ⟨x1, x2, x3, x4, x5, x6⟩ := q3
    show (up (up A3 193 R') 194 H' 5).length = 8 ∧ (up (up A3 193 R') 194 H' 7).length = 8 ∧ (up (up A3 193 R') 194 H' 10).length = 20 ∧ (up (up A3 193 R') 194 H' 12).length = 20 ∧ (up (up A3 193 R') 194 H' 14).length = 20 ∧ (up (up A3 193 R') 194 H' 16).length = 20 ∧ (up (up A3 193 R') 194 H' 18).length = 8 ∧ (up (up A3 193 R') 194 H' 21).length = 60 ∧ (up (up A3 193 R') 194 H' 23).length = 60 ∧ (up (up A3 193 R') 194 H' 25).length = 60 ∧ (up (up A3 193 R') 194 H' 27).length = 60 ∧ (up (up A3 193 R') 194 H' 29).length = 60 ∧ (up (up A3 193 R') 194 H' 31).length = 60 ∧ (up (up A3 193 R') 194 H' 33).length = 4
    rw [sX 21 (by omega), sX 23 (by omega), sX 25 (by omega), sX 27 (by omega), sX 29 (by omega), sX 31 (by omega)]
    rw [sA 5 (by omega) (by omega) (by omega) (by omega) (by omega) (by omega) (by omega), sA 7 (by omega) (by omega) (by omega) (by omega) (by omega) (by omega) (by omega), sA 10 (by omega) (by omega) (by omega) (by omega) (by omega) (by omega) (by omega), sA 12 (by omega) (by omega) (by omega) (by omega) (by omega) (by omega) (by omega), sA 14 (by omega) (by omega) (by omega) (by omega) (by omega) (by omega) (by omega), sA 16 (by omega) (by omega) (by omega) (by omega) (by omega) (by omega) (by omega), sA 18 (by omega) (by omega) (by omega) (by omega) (by omega) (by omega) (by omega), sA 33 (by omega) (by omega) (by omega) (by omega) (by omega) (by omega) (by omega)]
    exact ⟨c5, c7, c10, c12, c14, c16, c18, x1, x2, x3, x4, x5, x6, c33⟩
  refine ⟨up (up A3 193 R') 194 H', up F3 19202 (nI (kp q + 1)), Pk q P, ?_, ?_, ?_, ?_, ?_, ?_, ?_⟩
  · rw [gh194, gh193, ghF2, e_Pa_letter 1 _ _ _ rfl]
    have hfull : nx + 3 ≤ 60 := hx
    simp (maxSteps := 2000000) (disch := (first | omega | (simp (disch := omega) only [up_eq, up_ne, cpA_o, cpF_o, List.length_set] <;> omega) | fail)) only [ob_s, am_bi_s, am_bv_s, am_bl_s, ↓bif_d, lits, nI_addS, nI_mulS, nI_subS, nI_lt', nI_le', nI_eq', ↓rd_nI, ↓wrH, up_eq, up_ne, up_up, up_sw, List.set_set, g_seq, g_sne, Nat.reduceEqDiff, ↓reduceIte, List.length_set, Nat.add_sub_cancel_left, Nat.add_sub_cancel, ite_true, ite_false, if_true, if_false, not_true_eq_false, not_false_eq_true, Bool.and_true, Bool.true_and, true_or, or_true, false_or, or_false, and_true, true_and, and_false, false_and, Nat.not_lt_zero, hpRX, hpIX, hpFX, hpLX, hpSX, ↓rgX, ↓rpX, Nat.reduceLeDiff, Nat.reduceLT, Nat.reduceAdd, Nat.reduceMul, Nat.reduceSub, iB, b01_0, g0, s_out, g1, n2, k4, e1906, k3, hfull, hba, q7]
  · refine act_done (r' := R') (H' := H') hI1 hb' hH0 hH1 hH2 ?_ ?_ ?_ ?_ ?_ ?_ ?_ ?_ ?_ hLS ?_ hS
    · intro j z1 z2
      rw [up_ne _ _ (by omega), up_ne _ _ (by omega), q1 j (by omega) (by omega) (by omega) (by omega) (by omega) (by omega)]
    · intro j z1 z2 z3
      rw [up_ne _ _ z3, up_ne _ _ z2]
      exact eA3h j z1
    · exact up_eq _ _ _
    · intro k z1 z2
      rw [up_ne _ _ (by omega), eF3 k (by omega) (by omega) (by omega)]
    · rw [up_ne _ _ (by omega), q2 _ (by omega)]; simp (disch := (first | omega | fail)) only [st_e, sf_e, Nat.reduceAdd, Nat.reduceMul, up_eq, up_ne, cpA_o, cpF_o]
    · exact up_eq _ _ _
    · rw [up_ne _ _ (by omega), q2 _ (by omega), up_eq]
    · rw [up_ne _ _ (by omega)]; exact eF3h _ (by omega)
    · rw [up_ne _ _ (by omega)]; exact eF3h _ (by omega)
    · rw [up_ne _ _ (by omega), up_eq]
  · rw [up_ne _ _ (by omega), up_eq]
  · rw [up_eq, ← eA1 193 (by omega)]; exact hH1
  · rw [up_ne _ _ (by omega), up_ne _ _ (by omega), eA3h _ (by omega)]; exact eA1 195 (by omega)
  · rw [sX 0 (by omega), q1 0 (by omega) (by omega) (by omega) (by omega) (by omega) (by omega)]; exact eA2 0 (by omega)
  · intro j hj
    rw [up_ne _ _ (by omega), up_ne _ _ (by omega), eA3h _ (by omega)]; exact eA1 j (by omega)
end X

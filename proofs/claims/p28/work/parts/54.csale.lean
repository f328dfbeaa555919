/-! THE CLASS'S SALE: what it stands on -/
/-- the class's state beside the reference's row -/
def Cx (A : Nat → List Int32) (F : Nat → Int32) (r : List Int32) (nB nl nb nx : Nat) : Prop :=
  Mwf r nB nl nb nx ∧ Bnd (A 5) (A 7) r nB ∧ (F 302 = nI nB ∧ F 804 = nI nl ∧ F 203 = nI nb ∧ F 1906 = nI nx) ∧ LenS A 2 ∧
  (∀ l, l < nl → g (A 10) l = g r (18 + l) ∧ g (A 12) l = g r (38 + l) ∧ g (A 14) l = g r (58 + l) ∧ g (A 16) l = g r (78 + l) ∧ rg (g r (38 + l)) 0 1000000 ∧ rg (g r (58 + l)) 0 1000000 ∧ rg (g r (78 + l)) 0 1) ∧
  (∀ b, b < nb → g (A 18) b = g r (99 + b) ∧ rg (g r (99 + b)) 0 10000000) ∧
  (∀ x, x < nx → g (A 21) x = nI (byN r x) ∧ g (A 23) x = nI (lotN r x) ∧ g (A 25) x = g r (228 + x) ∧ g (A 27) x = g r (288 + x) ∧ g (A 29) x = g r (348 + x) ∧ g (A 31) x = g r (408 + x) ∧ rg (g r (228 + x)) 1 1000000 ∧ rg (g r (288 + x)) 0 100000 ∧ rg (g r (348 + x)) 0 2000000 ∧ rg (g r (408 + x)) 0 1) ∧
  (∀ s, s < 4 → g (A 33) s = g r (468 + s)) ∧ rg (g r 468) 0 100000 ∧ rg (g r 469) 0 500 ∧ rg (g r 470) 0 500 ∧ rg (g r 471) 0 1000
theorem LenS2 {A : Nat → List Int32} (h : LenS A 2) : (A 5).length = 8 ∧ (A 7).length = 8 ∧ (A 10).length = 20 ∧ (A 12).length = 20 ∧ (A 14).length = 20 ∧ (A 16).length = 20 ∧ (A 18).length = 8 ∧ (A 21).length = 60 ∧ (A 23).length = 60 ∧ (A 25).length = 60 ∧ (A 27).length = 60 ∧ (A 29).length = 60 ∧ (A 31).length = 60 ∧ (A 33).length = 4 := h
theorem Mwf_of {a : Nat → List Int32} {X Y r : List Int32} {nB nl nb nx : Nat} (hM : Mok r nB nl nb nx) (hB : Bnd X Y r nB) (hX : SimX a r nl nb nx) : Mwf r nB nl nb nx := by
  refine ⟨hM, Bnd_st hB, fun x hx => ?_⟩
  obtain ⟨h0, h1, h2, h3, h4, h5, h6, h7, h8, h9⟩ := hM
  obtain ⟨-, -, -, -, -, -, ⟨l, ql, q7⟩, ⟨b, qb, q8⟩, -⟩ := hX x hx
  have e1 : lotN r x = l := by unfold lotN; rw [q7, nI_clamp (by omega)]
  have e2 : byN r x = b := by unfold byN; rw [q8, nI_clamp (by omega)]
  rw [e1, e2]
  exact ⟨⟨ql, q7⟩, qb, q8⟩
theorem Cx_of {A : Nat → List Int32} {F : Nat → Int32} {P : Nat → Nat} {nB nl nb nx q t : Nat} (hI : InvN A F P nB nl nb nx q t) : Cx A F (A 193) nB nl nb nx := by
  have hB := InvN_bnd hI
  obtain ⟨⟨hM, ⟨n1, n2, n3, n4⟩, hSB, hSL, hSM, hSX, ⟨hS0, hS1, hS2, hS3, hS4⟩⟩, ⟨l1, l2, l3⟩, -⟩ := hI
  have hW := Mwf_of hM hB hSX
  have hnx := hM.2.2.2.2.2.2.2.2.2
  refine ⟨hW, hB, ⟨n1, n2, n3, n4⟩, l1, fun l hl => hSL l hl, fun b hb => hSM b hb, fun x hx => ?_, fun s hs => hS0 s hs, hS1, hS2, hS3, hS4⟩
  obtain ⟨p0, p1, p2, p3, p4, p5, p6, p7, p8, p9, p10, p11⟩ := hSX x hx
  obtain ⟨⟨q1, q2⟩, q3, q4⟩ := hW.2.2 x hx
  rw [q4] at p0
  rw [q2] at p1
  exact ⟨p0, p1, p2, p3, p4, p5, p8, p9, rg_mono p10 (by omega), p11⟩
theorem Cx_c {A A' : Nat → List Int32} {F F' : Nat → Int32} {r : List Int32} {nB nl nb nx : Nat} (hA : ∀ j, j < 36 → A' j = A j) (hF : ∀ k, k < 3400 → F' k = F k) (h : Cx A F r nB nl nb nx) : Cx A' F' r nB nl nb nx := by
  obtain ⟨h1, h2, ⟨h3, h4, h5, h6⟩, h7, h8, h9, h10, h11⟩ := h
  refine ⟨h1, ?_, ⟨?_, ?_, ?_, ?_⟩, LenS_c (fun j hj => hA (2 + j) (by omega)) h7, ?_, ?_, ?_, ?_⟩
  · rw [hA 5 (by omega), hA 7 (by omega)]; exact h2
  · rw [hF 302 (by omega)]; exact h3
  · rw [hF 804 (by omega)]; exact h4
  · rw [hF 203 (by omega)]; exact h5
  · rw [hF 1906 (by omega)]; exact h6
  · rw [hA 10 (by omega), hA 12 (by omega), hA 14 (by omega), hA 16 (by omega)]; exact h8
  · rw [hA 18 (by omega)]; exact h9
  · rw [hA 21 (by omega), hA 23 (by omega), hA 25 (by omega), hA 27 (by omega), hA 29 (by omega), hA 31 (by omega)]; exact h10
  · rw [hA 33 (by omega)]; exact h11
/-- the lengths of the sale's rows -/
def LenW (A : Nat → List Int32) : Prop := (A 166).length = 20 ∧ (A 168).length = 20 ∧ (A 170).length = 20 ∧ (A 172).length = 20 ∧ (A 174).length = 20 ∧ (A 176).length = 160 ∧ (A 178).length = 60 ∧ (A 180).length = 60 ∧ (A 182).length = 8
theorem sub_nI0 (x : Int32) : x - nI 0 = x := Int32.sub_zero x
theorem am_min_N {a b : Nat} (ha : a < 2 ^ 31) (hb : b < 2 ^ 31) : am_min (nI a) (nI b) = nI (if b < a then b else a) := by
  unfold am_min
  simp only [nI_lt' hb ha]
  split <;> rfl
theorem am_max_N {a b : Nat} (ha : a < 2 ^ 31) (hb : b < 2 ^ 31) : am_max (nI a) (nI b) = nI (if a < b then b else a) := by
  unfold am_max
  simp only [nI_lt' ha hb]
  split <;> rfl
section X
variable {A : Nat → List Int32} {F : Nat → Int32} {P : Nat → Nat} {r : List Int32} {nB nl nb nx : Nat} {L B Fi Se Mn Bu Pr : List Int32}
theorem ceN_le {X Y : List Int32} (hB : Bnd X Y r nB) {a : Nat} (ha : a < 2 ^ 31) : ceN r nB a ≤ a + 100000 := by
  have h1 := nxN_le hB ha
  unfold ceN
  split <;> omega
/-- a worth, in whole numbers -/
theorem mWo_N (hC : Cx A F r nB nl nb nx) {x : Nat} (hx : x < nx) (hL : rg (g L (8 * lotN r x + byN r x)) 0 10000000) : ∃ p q a, p ≤ 1000000 ∧ 1 ≤ p ∧ q ≤ 10000000 ∧ g r (228 + x) = nI p ∧ g L (8 * lotN r x + byN r x) = nI q ∧ a = (if q < p then q else p) ∧ mWo r nB L x = nI (flN r nB a) ∧ flN r nB a ≤ a := by
  obtain ⟨hM, hB, ⟨n1, n2, n3, n4⟩, l1, hCL, hCM, hCX, hCS, hS0, hS1, hS2, hS3⟩ := id hC
  obtain ⟨c5, c7, c10, c12, c14, c16, c18, c21, c23, c25, c27, c29, c31, c33⟩ := LenS2 l1
  have hnl : nl ≤ 20 := hM.1.2.2.2.2.2.2.2.1
  have hnb : nb ≤ 8 := hM.1.2.2.2.2.2.2.2.2.1
  have hnx : nx ≤ 60 := hM.1.2.2.2.2.2.2.2.2.2
  have hnB : nB ≤ 8 := hM.1.2.2.2.2.2.2.1
  obtain ⟨p, p1, p2, p3⟩ := (hCX x hx).2.2.2.2.2.2.1
  obtain ⟨q, q1, q2, q3⟩ := hL
  have e : (if g L (8 * lotN r x + byN r x) ≤ g r (228 + x) then g L (8 * lotN r x + byN r x) else g r (228 + x)) = nI (if q < p then q else p) := by
    rw [p3, q3]
    simp only [nI_le' (show q < 2 ^ 31 by omega) (show p < 2 ^ 31 by omega)]
    rcases Nat.lt_trichotomy q p with z | z | z
    · rw [if_pos (by omega), if_pos z]
    · rw [z]; split <;> split <;> rfl
    · rw [if_neg (by omega), if_neg (by omega)]
  have ha : (if q < p then q else p) ≤ 1000000 := by split <;> omega
  refine ⟨p, q, _, p2, p1, q2, p3, q3, rfl, ?_, flN_le hB (by omega)⟩
  unfold mWo
  rw [e, mFl_N hB (by omega)]
theorem mAs_N (hC : Cx A F r nB nl nb nx) {l : Nat} (hl : l < nl) : ∃ s e, s ≤ 1000000 ∧ e ≤ 1000000 ∧ g r (38 + l) = nI s ∧ g r (58 + l) = nI e ∧ mAs r nB l = nI (ceN r nB (if s < e then e else s)) ∧ ceN r nB (if s < e then e else s) ≤ 1100000 := by
  obtain ⟨hM, hB, ⟨n1, n2, n3, n4⟩, l1, hCL, hCM, hCX, hCS, hS0, hS1, hS2, hS3⟩ := id hC
  obtain ⟨c5, c7, c10, c12, c14, c16, c18, c21, c23, c25, c27, c29, c31, c33⟩ := LenS2 l1
  have hnl : nl ≤ 20 := hM.1.2.2.2.2.2.2.2.1
  have hnb : nb ≤ 8 := hM.1.2.2.2.2.2.2.2.2.1
  have hnx : nx ≤ 60 := hM.1.2.2.2.2.2.2.2.2.2
  have hnB : nB ≤ 8 := hM.1.2.2.2.2.2.2.1
  obtain ⟨-, -, -, -, ⟨s, s1, s2, s3⟩, ⟨e, e1, e2, e3⟩, -⟩ := hCL l hl
  have hm : (if s < e then e else s) ≤ 1000000 := by split <;> omega
  have hc : ceN r nB (if s < e then e else s) ≤ 1100000 := by
    have h1 := ceN_le hB (a := if s < e then e else s) (by omega)
    omega
  refine ⟨s, e, s2, e2, s3, e3, ?_, hc⟩
  unfold mAs
  rw [s3, e3]
  simp only [nI_le' (show s < 2 ^ 31 by omega) (show e < 2 ^ 31 by omega)]
  have z : (if s ≤ e then nI e else nI s) = nI (if s < e then e else s) := by
    rcases Nat.lt_trichotomy s e with z | z | z
    · rw [if_pos (by omega), if_pos z]
    · rw [z]; split <;> split <;> rfl
    · rw [if_neg (by omega), if_neg (by omega)]
  rw [z, mCe_N hB (by omega)]
/-- the price, in whole numbers: at most the worth of the first bid -/
theorem mPr_N (hC : Cx A F r nB nl nb nx) {l f : Nat} {v : Int32} (hl : l < nl) (hf : f < nx) (hfl : lotN r f = l) (hse : isL r nb nx l v) (hL : ∀ b, b < nb → rg (g L (8 * l + b)) 0 10000000) : ∃ w p, mWo r nB L f = nI w ∧ w ≤ 1000000 ∧ p ≤ w ∧ mPr r nB L l (nI f) v = nI p := by
  obtain ⟨hM, hB, ⟨n1, n2, n3, n4⟩, l1, hCL, hCM, hCX, hCS, hS0, hS1, hS2, hS3⟩ := id hC
  obtain ⟨c5, c7, c10, c12, c14, c16, c18, c21, c23, c25, c27, c29, c31, c33⟩ := LenS2 l1
  have hnl : nl ≤ 20 := hM.1.2.2.2.2.2.2.2.1
  have hnb : nb ≤ 8 := hM.1.2.2.2.2.2.2.2.2.1
  have hnx : nx ≤ 60 := hM.1.2.2.2.2.2.2.2.2.2
  have hnB : nB ≤ 8 := hM.1.2.2.2.2.2.2.1
  obtain ⟨s, e, s1, e1, s2, e2, ha, ha2⟩ := mAs_N hC hl
  obtain ⟨p, q, a, p1, p2, q1, p3, q3, ea, hw, hwa⟩ := mWo_N hC hf (by rw [hfl]; exact hL _ (hM.2.2 f hf).2.1)
  have ha1 : a ≤ 1000000 := by rw [ea]; split <;> omega
  have key : ∀ m : Nat, m < 2 ^ 31 → ∃ p, p ≤ flN r nB a ∧ (if nI (flN r nB a) ≤ nI m then nI (flN r nB a) else nI m) = nI p := by
    intro m hm
    simp only [nI_le' (show flN r nB a < 2 ^ 31 by omega) hm]
    by_cases c : flN r nB a ≤ m
    · exact ⟨_, Nat.le_refl _, by rw [if_pos c]⟩
    · exact ⟨m, by omega, by rw [if_neg c]⟩
  have fin : ∃ m : Nat, m < 2 ^ 31 ∧ (if v < nI 0 then mAs r nB l else (if mAs r nB l ≤ mNx r nB (mWo r nB L v.toNatClampNeg) then mNx r nB (mWo r nB L v.toNatClampNeg) else mAs r nB l)) = nI m := by
    rcases hse with z | ⟨y, y1, y2, y3, y4⟩
    · have h5 : (-nI 5 : Int32) < nI 0 := by decide
      rw [z, if_pos h5, ha]
      exact ⟨_, by omega, rfl⟩
    · rw [y2, nI_clamp (by omega), if_neg (show ¬ nI y < nI 0 from nI_pos (by omega)), ha]
      obtain ⟨p', q', a', p1', p2', q1', p3', q3', ea', hw', hwa'⟩ := mWo_N hC y1 (by rw [y3]; exact hL _ y4)
      have ha1' : a' ≤ 1000000 := by rw [ea']; split <;> omega
      rw [hw', mNx_N hB (by omega)]
      have hn := nxN_le hB (a := flN r nB a') (by omega)
      have key2 : ∀ a b : Nat, a < 2 ^ 31 → b < 2 ^ 31 → ∃ m, m < 2 ^ 31 ∧ (if nI a ≤ nI b then nI b else nI a) = nI m := by
        intro a b za zb
        split
        · exact ⟨b, zb, rfl⟩
        · exact ⟨a, za, rfl⟩
      exact key2 _ _ (by omega) (by omega)
  obtain ⟨m, m1, m2⟩ := fin
  obtain ⟨p', hp1, hp2⟩ := key m m1
  refine ⟨flN r nB a, p', hw, by omega, hp1, ?_⟩
  show (if mWo r nB L (nI f).toNatClampNeg ≤ (if v < nI 0 then mAs r nB l else (if mAs r nB l ≤ mNx r nB (mWo r nB L v.toNatClampNeg) then mNx r nB (mWo r nB L v.toNatClampNeg) else mAs r nB l)) then mWo r nB L (nI f).toNatClampNeg else (if v < nI 0 then mAs r nB l else (if mAs r nB l ≤ mNx r nB (mWo r nB L v.toNatClampNeg) then mNx r nB (mWo r nB L v.toNatClampNeg) else mAs r nB l))) = nI p'
  rw [m2, nI_clamp (by omega), hw]
  exact hp2
/-- what is left of a limit is never below nought -/
theorem SaI_left (hC : Cx A F r nB nl nb nx) (hS : SaI r nB nl nb nx L B Fi Se Mn Bu Pr nl) : ∀ l, l ≤ nl → ∀ b, b < nb → rg (g L (8 * l + b)) 0 10000000 := by
  obtain ⟨hM, hB, ⟨n1, n2, n3, n4⟩, l1, hCL, hCM, hCX, hCS, hS0, hS1, hS2, hS3⟩ := id hC
  obtain ⟨c5, c7, c10, c12, c14, c16, c18, c21, c23, c25, c27, c29, c31, c33⟩ := LenS2 l1
  have hnl : nl ≤ 20 := hM.1.2.2.2.2.2.2.2.1
  have hnb : nb ≤ 8 := hM.1.2.2.2.2.2.2.2.2.1
  have hnx : nx ≤ 60 := hM.1.2.2.2.2.2.2.2.2.2
  have hnB : nB ≤ 8 := hM.1.2.2.2.2.2.2.1
  obtain ⟨s1, s2, s3, s4, s5, s6, s7, s8⟩ := hS
  have hOB : ∀ l, l < nl → ∀ b, b < 8 → isL r nb nx l (g B (8 * l + b)) := fun l hl b hb => by rw [s3 l hl b hb]; exact mBs_isL hM _ _ _ _ _
  have hFiL : ∀ l, l < nl → isL r nb nx l (g Fi l) := fun l hl => by rw [s4 l hl]; exact mRk_isL (hOB l hl) 8 0 (by omega)
  have hSeL : ∀ l, l < nl → isL r nb nx l (g Se l) := fun l hl => by rw [s5 l hl]; exact mRk_isL (hOB l hl) 8 0 (by omega)
  intro l
  induction l with
  | zero =>
    intro _ b hb
    rw [Nat.mul_zero, Nat.zero_add, s1 b hb]
    exact (hCM b hb).2
  | succ l ih =>
    intro hl b hb
    have ih := ih (by omega)
    rw [s2 l (by omega) b hb]
    by_cases c : g Bu l = nI b
    · rw [cif_t c]
      rw [s7 l (by omega)] at c
      by_cases d : mSold r nB L l (g Fi l)
      · rw [cif_t d] at c
        rcases hFiL l (by omega) with z | ⟨y, y1, y2, y3, y4⟩
        · exact absurd (by rw [z]; decide) d.1
        · rw [y2, nI_clamp (by omega), (hM.2.2 y y1).2.2, nI_eq' (by omega) (by omega)] at c
          obtain ⟨w, p, h1, h2, h3, h4⟩ := mPr_N (v := g Se l) hC (l := l) (f := y) (by omega) y1 y3 (hSeL l (by omega)) ih
          obtain ⟨p', q, a, p1, p2, q1, p3, q3, ea, hw, hwa⟩ := mWo_N (L := L) hC y1 (by rw [y3]; exact ih _ y4)
          rw [s8 l (by omega), cif_t d, y2, h4]
          rw [y3, c] at q3
          rw [q3]
          rw [h1, nI_eq' (by omega) (by have : a ≤ 1000000 := by (rw [ea]; split <;> omega)
                                        omega)] at hw
          have : a ≤ q := by rw [ea]; split <;> omega
          rw [nI_subS (by omega)]
          exact ⟨q - p, by omega, by omega, rfl⟩
      · rw [cif_f d] at c
        exact absurd c (fun z => by
          have h5 : (-nI 5 : Int32) < nI 0 := by decide
          rw [z] at h5
          exact nI_pos (by omega) h5)
    · rw [cif_f c, sub_nI0]
      exact ih b hb
theorem lc_left (hC : Cx A F r nB nl nb nx) (hW : LenW A) (hS : SaI r nB nl nb nx L B Fi Se Mn Bu Pr nl) {k b : Nat} (hk : k ≤ nl) (hb : b < nb) (hc : ∀ l, l < k → g (A 166) l = g Bu l ∧ g (A 168) l = g Pr l) :
    ∀ n j, j + n = k → am_ev m_Sale_leftBefore (15, [.ref 164, .int (nI k), .int (nI b), .int (g L (8 * j + b)), .int (nI j)], [], heap A F P) = some (some (.int (g L (8 * k + b))), heap A F P) := by
  obtain ⟨hM, hB, ⟨n1, n2, n3, n4⟩, l1, hCL, hCM, hCX, hCS, hS0, hS1, hS2, hS3⟩ := id hC
  obtain ⟨c5, c7, c10, c12, c14, c16, c18, c21, c23, c25, c27, c29, c31, c33⟩ := LenS2 l1
  have hnl : nl ≤ 20 := hM.1.2.2.2.2.2.2.2.1
  have hnb : nb ≤ 8 := hM.1.2.2.2.2.2.2.2.2.1
  have hnx : nx ≤ 60 := hM.1.2.2.2.2.2.2.2.2.2
  have hnB : nB ≤ 8 := hM.1.2.2.2.2.2.2.1
  obtain ⟨w166, w168, w170, w172, w174, w176, w178, w180, w182⟩ := id hW
  have s2 := hS.2.1
  intro n
  induction n with
  | zero =>
    intro j hj
    have e : j = k := by omega
    rw [e, b_Sale_leftBefore_15]
    have hle : k ≤ k := Nat.le_refl _
    simp (maxSteps := 2000000) (disch := (first | omega | (simp (disch := omega) only [up_eq, up_ne, cpA_o, cpF_o, List.length_set] <;> omega) | fail)) only [ob_s, am_bi_s, am_bv_s, am_bl_s, ↓bif_d, lits, nI_addS, nI_mulS, nI_subS, nI_lt', nI_le', nI_eq', ↓rd_nI, ↓wrH, up_eq, up_ne, up_up, up_sw, List.set_set, g_seq, g_sne, Nat.reduceEqDiff, ↓reduceIte, List.length_set, Nat.add_sub_cancel_left, Nat.add_sub_cancel, ite_true, ite_false, if_true, if_false, not_true_eq_false, not_false_eq_true, Bool.and_true, Bool.true_and, true_or, or_true, false_or, or_false, and_true, true_and, and_false, false_and, Nat.not_lt_zero, hpRX, hpIX, hpFX, hpLX, hpSX, ↓rgX, ↓rpX, Nat.reduceLeDiff, Nat.reduceLT, Nat.reduceAdd, Nat.reduceMul, Nat.reduceSub, hle]
  | succ n ih =>
    intro j hj
    have hle : ¬ k ≤ j := by omega
    have e1 := (hc j (by omega)).1
    have e2 := (hc j (by omega)).2
    have ih := ih (j + 1) (by omega)
    rw [s2 j (by omega) b hb] at ih
    rw [b_Sale_leftBefore_15]
    by_cases c : g Bu j = nI b
    · rw [cif_t c] at ih
      simp (maxSteps := 2000000) (disch := (first | omega | (simp (disch := omega) only [up_eq, up_ne, cpA_o, cpF_o, List.length_set] <;> omega) | fail)) only [ob_s, am_bi_s, am_bv_s, am_bl_s, ↓bif_d, lits, nI_addS, nI_mulS, nI_subS, nI_lt', nI_le', nI_eq', ↓rd_nI, ↓wrH, up_eq, up_ne, up_up, up_sw, List.set_set, g_seq, g_sne, Nat.reduceEqDiff, ↓reduceIte, List.length_set, Nat.add_sub_cancel_left, Nat.add_sub_cancel, ite_true, ite_false, if_true, if_false, not_true_eq_false, not_false_eq_true, Bool.and_true, Bool.true_and, true_or, or_true, false_or, or_false, and_true, true_and, and_false, false_and, Nat.not_lt_zero, hpRX, hpIX, hpFX, hpLX, hpSX, ↓rgX, ↓rpX, Nat.reduceLeDiff, Nat.reduceLT, Nat.reduceAdd, Nat.reduceMul, Nat.reduceSub, hle, e1, e2, c, ih]
    · rw [cif_f c, sub_nI0] at ih
      simp (maxSteps := 2000000) (disch := (first | omega | (simp (disch := omega) only [up_eq, up_ne, cpA_o, cpF_o, List.length_set] <;> omega) | fail)) only [ob_s, am_bi_s, am_bv_s, am_bl_s, ↓bif_d, lits, nI_addS, nI_mulS, nI_subS, nI_lt', nI_le', nI_eq', ↓rd_nI, ↓wrH, up_eq, up_ne, up_up, up_sw, List.set_set, g_seq, g_sne, Nat.reduceEqDiff, ↓reduceIte, List.length_set, Nat.add_sub_cancel_left, Nat.add_sub_cancel, ite_true, ite_false, if_true, if_false, not_true_eq_false, not_false_eq_true, Bool.and_true, Bool.true_and, true_or, or_true, false_or, or_false, and_true, true_and, and_false, false_and, Nat.not_lt_zero, hpRX, hpIX, hpFX, hpLX, hpSX, ↓rgX, ↓rpX, Nat.reduceLeDiff, Nat.reduceLT, Nat.reduceAdd, Nat.reduceMul, Nat.reduceSub, hle, e1, c, ih]
theorem cs_left (hC : Cx A F r nB nl nb nx) (hW : LenW A) (hS : SaI r nB nl nb nx L B Fi Se Mn Bu Pr nl) {k b : Nat} (hk : k ≤ nl) (hb : b < nb) (hc : ∀ l, l < k → g (A 166) l = g Bu l ∧ g (A 168) l = g Pr l) : am_cl m_Sale_leftBefore [.ref 164, .int (nI k), .int (nI b)] (heap A F P) = some (some (.int (g L (8 * k + b))), heap A F P) := by
  have h := lc_left (P := P) hC hW hS hk hb hc k 0 (by omega)
  obtain ⟨hM, hB, ⟨n1, n2, n3, n4⟩, l1, hCL, hCM, hCX, hCS, hS0, hS1, hS2, hS3⟩ := id hC
  obtain ⟨c5, c7, c10, c12, c14, c16, c18, c21, c23, c25, c27, c29, c31, c33⟩ := LenS2 l1
  have hnl : nl ≤ 20 := hM.1.2.2.2.2.2.2.2.1
  have hnb : nb ≤ 8 := hM.1.2.2.2.2.2.2.2.2.1
  have hnx : nx ≤ 60 := hM.1.2.2.2.2.2.2.2.2.2
  have hnB : nB ≤ 8 := hM.1.2.2.2.2.2.2.1
  have e : g L (8 * 0 + b) = g r (99 + b) := by rw [Nat.mul_zero, Nat.zero_add]; exact hS.1 b hb
  rw [e] at h
  have e18 := (hCM b hb).1
  rw [e_Sale_leftBefore 164 _ _ _ rfl]
  simp (maxSteps := 2000000) (disch := (first | omega | (simp (disch := omega) only [up_eq, up_ne, cpA_o, cpF_o, List.length_set] <;> omega) | fail)) only [ob_s, am_bi_s, am_bv_s, am_bl_s, ↓bif_d, lits, nI_addS, nI_mulS, nI_subS, nI_lt', nI_le', nI_eq', ↓rd_nI, ↓wrH, up_eq, up_ne, up_up, up_sw, List.set_set, g_seq, g_sne, Nat.reduceEqDiff, ↓reduceIte, List.length_set, Nat.add_sub_cancel_left, Nat.add_sub_cancel, ite_true, ite_false, if_true, if_false, not_true_eq_false, not_false_eq_true, Bool.and_true, Bool.true_and, true_or, or_true, false_or, or_false, and_true, true_and, and_false, false_and, Nat.not_lt_zero, hpRX, hpIX, hpFX, hpLX, hpSX, ↓rgX, ↓rpX, Nat.reduceLeDiff, Nat.reduceLT, Nat.reduceAdd, Nat.reduceMul, Nat.reduceSub, e18, h]
theorem cs_late (hC : Cx A F r nB nl nb nx) {x : Nat} (hx : x < nx) : am_cl m_State_isLate [.ref 2, .int (nI x)] (heap A F P) = some (some (.int (b01 (mLa r x))), heap A F P) := by
  obtain ⟨hM, hB, ⟨n1, n2, n3, n4⟩, l1, hCL, hCM, hCX, hCS, hS0, hS1, hS2, hS3⟩ := id hC
  obtain ⟨c5, c7, c10, c12, c14, c16, c18, c21, c23, c25, c27, c29, c31, c33⟩ := LenS2 l1
  have hnl : nl ≤ 20 := hM.1.2.2.2.2.2.2.2.1
  have hnb : nb ≤ 8 := hM.1.2.2.2.2.2.2.2.2.1
  have hnx : nx ≤ 60 := hM.1.2.2.2.2.2.2.2.2.2
  have hnB : nB ≤ 8 := hM.1.2.2.2.2.2.2.1
  have e1 : g (A 27) x = g r (288 + x) := (hCX x hx).2.2.2.1
  have e2 : g (A 33) 0 = g r 468 := hCS 0 (by omega)
  rw [e_State_isLate 2 _ _ rfl]
  simp (maxSteps := 2000000) (disch := (first | omega | (simp (disch := omega) only [up_eq, up_ne, cpA_o, cpF_o, List.length_set] <;> omega) | fail)) only [ob_s, am_bi_s, am_bv_s, am_bl_s, ↓bif_d, lits, nI_addS, nI_mulS, nI_subS, nI_lt', nI_le', nI_eq', ↓rd_nI, ↓wrH, up_eq, up_ne, up_up, up_sw, List.set_set, g_seq, g_sne, Nat.reduceEqDiff, ↓reduceIte, List.length_set, Nat.add_sub_cancel_left, Nat.add_sub_cancel, ite_true, ite_false, if_true, if_false, not_true_eq_false, not_false_eq_true, Bool.and_true, Bool.true_and, true_or, or_true, false_or, or_false, and_true, true_and, and_false, false_and, Nat.not_lt_zero, hpRX, hpIX, hpFX, hpLX, hpSX, ↓rgX, ↓rpX, Nat.reduceLeDiff, Nat.reduceLT, Nat.reduceAdd, Nat.reduceMul, Nat.reduceSub, e1, e2]
  by_cases q : g r (288 + x) ≤ g r 468
  · rw [if_pos q, b01_f (p := mLa r x) (Int32.not_lt.mpr q)]
  · rw [if_neg q, b01_t (p := mLa r x) (Int32.not_le.mp q)]
theorem lc_alt (hC : Cx A F r nB nl nb nx) (hW : LenW A) {x : Nat} (hx : x < nx) (hc : ∀ l, l < lotN r x → g (A 166) l = g Bu l ∧ (g Bu l = nI (byN r x) → ∃ f, f < nx ∧ g Fi l = nI f ∧ g (A 176) (l * 8) = nI f)) :
    ∀ n l (u : Value), l + n = lotN r x → am_ev m_Sale_hasAlternativeBought (40, [.ref 164, .int (nI x), .int (nI (lotN r x)), .int (g r (348 + x)), .int (nI (byN r x)), .int (nI l), u], [], heap A F P) = some (some (.int (b01 (∃ j, l ≤ j ∧ j < lotN r x ∧ mSv1 r Bu Fi x j = true))), heap A F P) := by
  obtain ⟨hM, hB, ⟨n1, n2, n3, n4⟩, l1, hCL, hCM, hCX, hCS, hS0, hS1, hS2, hS3⟩ := id hC
  obtain ⟨c5, c7, c10, c12, c14, c16, c18, c21, c23, c25, c27, c29, c31, c33⟩ := LenS2 l1
  have hnl : nl ≤ 20 := hM.1.2.2.2.2.2.2.2.1
  have hnb : nb ≤ 8 := hM.1.2.2.2.2.2.2.2.2.1
  have hnx : nx ≤ 60 := hM.1.2.2.2.2.2.2.2.2.2
  have hnB : nB ≤ 8 := hM.1.2.2.2.2.2.2.1
  obtain ⟨w166, w168, w170, w172, w174, w176, w178, w180, w182⟩ := id hW
  obtain ⟨⟨x1, x2⟩, x3, x4⟩ := hM.2.2 x hx
  intro n
  induction n with
  | zero =>
    intro l u hl
    have hno : ¬ ∃ j, l ≤ j ∧ j < lotN r x ∧ mSv1 r Bu Fi x j = true := by
      rintro ⟨j, z1, z2, -⟩; omega
    have hle : lotN r x ≤ l := by omega
    rw [b_Sale_hasAlternativeBought_40, b01_f hno]
    simp (maxSteps := 2000000) (disch := (first | omega | (simp (disch := omega) only [up_eq, up_ne, cpA_o, cpF_o, List.length_set] <;> omega) | fail)) only [ob_s, am_bi_s, am_bv_s, am_bl_s, ↓bif_d, lits, nI_addS, nI_mulS, nI_subS, nI_lt', nI_le', nI_eq', ↓rd_nI, ↓wrH, up_eq, up_ne, up_up, up_sw, List.set_set, g_seq, g_sne, Nat.reduceEqDiff, ↓reduceIte, List.length_set, Nat.add_sub_cancel_left, Nat.add_sub_cancel, ite_true, ite_false, if_true, if_false, not_true_eq_false, not_false_eq_true, Bool.and_true, Bool.true_and, true_or, or_true, false_or, or_false, and_true, true_and, and_false, false_and, Nat.not_lt_zero, hpRX, hpIX, hpFX, hpLX, hpSX, ↓rgX, ↓rpX, Nat.reduceLeDiff, Nat.reduceLT, Nat.reduceAdd, Nat.reduceMul, Nat.reduceSub, hle]
  | succ n ih =>
    intro l u hl
    have hll : l < lotN r x := by omega
    have hle : ¬ lotN r x ≤ l := by omega
    have hsplit : (∃ j, l ≤ j ∧ j < lotN r x ∧ mSv1 r Bu Fi x j = true) ↔ (mSv1 r Bu Fi x l = true ∨ ∃ j, l + 1 ≤ j ∧ j < lotN r x ∧ mSv1 r Bu Fi x j = true) := by
      constructor
      · rintro ⟨j, z1, z2, z3⟩
        rcases Nat.eq_or_lt_of_le z1 with z | z
        · subst z; exact Or.inl z3
        · exact Or.inr ⟨j, z, z2, z3⟩
      · rintro (z | ⟨j, z1, z2, z3⟩)
        · exact ⟨l, Nat.le_refl _, hll, z⟩
        · exact ⟨j, by omega, z2, z3⟩
    have ih := fun u => ih (l + 1) u (by omega)
    obtain ⟨e1, hf⟩ := hc l hll
    rw [b_Sale_hasAlternativeBought_40]
    by_cases hown : g Bu l = nI (byN r x)
    · obtain ⟨f, hf1, hf2, hf3⟩ := hf hown
      have e29 := (hCX f hf1).2.2.2.2.1
      by_cases hs : g r (348 + f) = g r (348 + x)
      · have hs1 : mSv1 r Bu Fi x l = true := by
          unfold mSv1
          rw [hf2, nI_clamp (by omega), x4, decide_eq_true hown, decide_eq_true hs]; rfl
        rw [b01_t (hsplit.mpr (Or.inl hs1))]
        simp (maxSteps := 2000000) (disch := (first | omega | (simp (disch := omega) only [up_eq, up_ne, cpA_o, cpF_o, List.length_set] <;> omega) | fail)) only [ob_s, am_bi_s, am_bv_s, am_bl_s, ↓bif_d, lits, nI_addS, nI_mulS, nI_subS, nI_lt', nI_le', nI_eq', ↓rd_nI, ↓wrH, up_eq, up_ne, up_up, up_sw, List.set_set, g_seq, g_sne, Nat.reduceEqDiff, ↓reduceIte, List.length_set, Nat.add_sub_cancel_left, Nat.add_sub_cancel, ite_true, ite_false, if_true, if_false, not_true_eq_false, not_false_eq_true, Bool.and_true, Bool.true_and, true_or, or_true, false_or, or_false, and_true, true_and, and_false, false_and, Nat.not_lt_zero, hpRX, hpIX, hpFX, hpLX, hpSX, ↓rgX, ↓rpX, Nat.reduceLeDiff, Nat.reduceLT, Nat.reduceAdd, Nat.reduceMul, Nat.reduceSub, hle, e1, hown, hf3, e29, hs]
      · have hs1 : ¬ mSv1 r Bu Fi x l = true := by
          unfold mSv1
          rw [hf2, nI_clamp (by omega), decide_eq_false hs, Bool.and_false]; decide
        rw [b01_c (hsplit.trans ⟨fun z => z.resolve_left hs1, Or.inr⟩)]
        simp (maxSteps := 2000000) (disch := (first | omega | (simp (disch := omega) only [up_eq, up_ne, cpA_o, cpF_o, List.length_set] <;> omega) | fail)) only [ob_s, am_bi_s, am_bv_s, am_bl_s, ↓bif_d, lits, nI_addS, nI_mulS, nI_subS, nI_lt', nI_le', nI_eq', ↓rd_nI, ↓wrH, up_eq, up_ne, up_up, up_sw, List.set_set, g_seq, g_sne, Nat.reduceEqDiff, ↓reduceIte, List.length_set, Nat.add_sub_cancel_left, Nat.add_sub_cancel, ite_true, ite_false, if_true, if_false, not_true_eq_false, not_false_eq_true, Bool.and_true, Bool.true_and, true_or, or_true, false_or, or_false, and_true, true_and, and_false, false_and, Nat.not_lt_zero, hpRX, hpIX, hpFX, hpLX, hpSX, ↓rgX, ↓rpX, Nat.reduceLeDiff, Nat.reduceLT, Nat.reduceAdd, Nat.reduceMul, Nat.reduceSub, hle, e1, hown, hf3, e29, hs, ih]
    · have hs1 : ¬ mSv1 r Bu Fi x l = true := by
        unfold mSv1
        rw [x4, decide_eq_false hown, Bool.false_and]; decide
      rw [b01_c (hsplit.trans ⟨fun z => z.resolve_left hs1, Or.inr⟩)]
      simp (maxSteps := 2000000) (disch := (first | omega | (simp (disch := omega) only [up_eq, up_ne, cpA_o, cpF_o, List.length_set] <;> omega) | fail)) only [ob_s, am_bi_s, am_bv_s, am_bl_s, ↓bif_d, lits, nI_addS, nI_mulS, nI_subS, nI_lt', nI_le', nI_eq', ↓rd_nI, ↓wrH, up_eq, up_ne, up_up, up_sw, List.set_set, g_seq, g_sne, Nat.reduceEqDiff, ↓reduceIte, List.length_set, Nat.add_sub_cancel_left, Nat.add_sub_cancel, ite_true, ite_false, if_true, if_false, not_true_eq_false, not_false_eq_true, Bool.and_true, Bool.true_and, true_or, or_true, false_or, or_false, and_true, true_and, and_false, false_and, Nat.not_lt_zero, hpRX, hpIX, hpFX, hpLX, hpSX, ↓rgX, ↓rpX, Nat.reduceLeDiff, Nat.reduceLT, Nat.reduceAdd, Nat.reduceMul, Nat.reduceSub, hle, e1, hown, ih]
theorem cs_alt (hC : Cx A F r nB nl nb nx) (hW : LenW A) {x : Nat} (hx : x < nx) (hc : ∀ l, l < lotN r x → g (A 166) l = g Bu l ∧ (g Bu l = nI (byN r x) → ∃ f, f < nx ∧ g Fi l = nI f ∧ g (A 176) (l * 8) = nI f)) : am_cl m_Sale_hasAlternativeBought [.ref 164, .int (nI x), .int (nI (lotN r x))] (heap A F P) = some (some (.int (b01 (mSv r Bu Fi x))), heap A F P) := by
  have h := lc_alt (P := P) hC hW hx hc (lotN r x) 0 (.float 0) (by omega)
  obtain ⟨hM, hB, ⟨n1, n2, n3, n4⟩, l1, hCL, hCM, hCX, hCS, hS0, hS1, hS2, hS3⟩ := id hC
  obtain ⟨c5, c7, c10, c12, c14, c16, c18, c21, c23, c25, c27, c29, c31, c33⟩ := LenS2 l1
  have hnl : nl ≤ 20 := hM.1.2.2.2.2.2.2.2.1
  have hnb : nb ≤ 8 := hM.1.2.2.2.2.2.2.2.2.1
  have hnx : nx ≤ 60 := hM.1.2.2.2.2.2.2.2.2.2
  have hnB : nB ≤ 8 := hM.1.2.2.2.2.2.2.1
  obtain ⟨e21, -, -, -, e29, -, -, -, ⟨m, m1, m2, m3⟩, -⟩ := hCX x hx
  rw [e_Sale_hasAlternativeBought 164 _ _ _ rfl]
  by_cases c : m = 0
  · have hz : g r (348 + x) = nI 0 := by rw [m3, c]
    have hn : ¬ mSv r Bu Fi x := fun z => by
      have := z.1
      rw [hz] at this
      exact Int32.lt_irrefl this
    rw [b01_f hn]
    simp (maxSteps := 2000000) (disch := (first | omega | (simp (disch := omega) only [up_eq, up_ne, cpA_o, cpF_o, List.length_set] <;> omega) | fail)) only [ob_s, am_bi_s, am_bv_s, am_bl_s, ↓bif_d, lits, nI_addS, nI_mulS, nI_subS, nI_lt', nI_le', nI_eq', ↓rd_nI, ↓wrH, up_eq, up_ne, up_up, up_sw, List.set_set, g_seq, g_sne, Nat.reduceEqDiff, ↓reduceIte, List.length_set, Nat.add_sub_cancel_left, Nat.add_sub_cancel, ite_true, ite_false, if_true, if_false, not_true_eq_false, not_false_eq_true, Bool.and_true, Bool.true_and, true_or, or_true, false_or, or_false, and_true, true_and, and_false, false_and, Nat.not_lt_zero, hpRX, hpIX, hpFX, hpLX, hpSX, ↓rgX, ↓rpX, Nat.reduceLeDiff, Nat.reduceLT, Nat.reduceAdd, Nat.reduceMul, Nat.reduceSub, e21, e29, hz]
  · have hz : ¬ g r (348 + x) = nI 0 := by rw [m3, nI_eq' (by omega) (by omega)]; exact c
    have hp : nI 0 < g r (348 + x) := by rw [m3, nI_lt' (by omega) (by omega)]; omega
    have e : b01 (∃ j, 0 ≤ j ∧ j < lotN r x ∧ mSv1 r Bu Fi x j = true) = b01 (mSv r Bu Fi x) := b01_c ⟨fun ⟨j, _, z2, z3⟩ => ⟨hp, j, z2, z3⟩, fun ⟨_, j, z2, z3⟩ => ⟨j, Nat.zero_le _, z2, z3⟩⟩
    rw [e] at h
    simp (maxSteps := 2000000) (disch := (first | omega | (simp (disch := omega) only [up_eq, up_ne, cpA_o, cpF_o, List.length_set] <;> omega) | fail)) only [ob_s, am_bi_s, am_bv_s, am_bl_s, ↓bif_d, lits, nI_addS, nI_mulS, nI_subS, nI_lt', nI_le', nI_eq', ↓rd_nI, ↓wrH, up_eq, up_ne, up_up, up_sw, List.set_set, g_seq, g_sne, Nat.reduceEqDiff, ↓reduceIte, List.length_set, Nat.add_sub_cancel_left, Nat.add_sub_cancel, ite_true, ite_false, if_true, if_false, not_true_eq_false, not_false_eq_true, Bool.and_true, Bool.true_and, true_or, or_true, false_or, or_false, and_true, true_and, and_false, false_and, Nat.not_lt_zero, hpRX, hpIX, hpFX, hpLX, hpSX, ↓rgX, ↓rpX, Nat.reduceLeDiff, Nat.reduceLT, Nat.reduceAdd, Nat.reduceMul, Nat.reduceSub, e21, e29, hz, h]
end X

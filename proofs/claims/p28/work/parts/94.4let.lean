/-! THE LAW'S LETTERS: the texts that it types, as the class reads them -/
section T
variable {T : Nat → Int32} {t nl : Nat}
theorem dg {p d : Nat} (hp : p < t) (hT : T p = nI (48 + d)) (hd : d ≤ 9) : dgt T t p := ⟨hp, by rw [hT, nI_lt' (by omega) (by omega)]; omega, by rw [hT, nI_lt' (by omega) (by omega)]; omega⟩
theorem dv {p d : Nat} (hT : T p = nI (48 + d)) (hd : d ≤ 9) : dvl T p = d := by
  unfold dvl
  rw [hT, nI_clamp (by omega)]
  omega
theorem ndg {p c : Nat} (hT : T p = nI c) (hc : c < 48 ∨ (57 < c ∧ c < 200)) : ¬ dgt T t p := by
  rintro ⟨-, z1, z2⟩
  rw [hT, nI_lt' (by omega) (by omega)] at z1 z2
  omega
theorem ndg_t {p : Nat} (h : t ≤ p) : ¬ dgt T t p := fun z => by have := z.1; omega
theorem scn_stop {n e v : Nat} (h : ¬ dgt T t e) : scn T t n e v = (e, v) := by
  cases n with
  | zero => rfl
  | succ n => rw [scn_s, cif_f h]
theorem T48 {p d : Nat} (hT : T p = nI (48 + d)) (hd : d ≤ 9) (h : 1 ≤ d) : ¬ (p < t ∧ T p = nI 48) := by
  rintro ⟨-, z⟩
  rw [hT, nI_eq' (by omega) (by omega)] at z
  omega
theorem numL_1 {p d : Nat} (hp : p < t) (hT : T p = nI (48 + d)) (hd : d ≤ 9) (hn : ¬ dgt T t (p + 1)) : numL T t p = (p + 1, d) := by
  unfold numL
  by_cases c : d = 0
  · subst c
    rw [cif_t ⟨hp, hT⟩]
  · rw [cif_f (T48 hT hd (by omega)), scn_s, cif_t (dg hp hT hd), scn_stop hn, dv hT hd, Nat.mul_zero, Nat.zero_add]
theorem numA_1 {p d : Nat} (hp : p < t) (hT : T p = nI (48 + d)) (hd : d ≤ 9) (h1 : 1 ≤ d) (hn : ¬ dgt T t (p + 1)) : numA T t p = (p + 1, d) := by
  unfold numA
  rw [cif_f (T48 hT hd h1), scn_s, cif_t (dg hp hT hd), scn_stop hn, dv hT hd, Nat.mul_zero, Nat.zero_add]
theorem numA_2 {p d d' : Nat} (hp : p + 1 < t) (hT : T p = nI (48 + d)) (hd : d ≤ 9) (h1 : 1 ≤ d) (hT' : T (p + 1) = nI (48 + d')) (hd' : d' ≤ 9) (hn : ¬ dgt T t (p + 2)) : numA T t p = (p + 2, 10 * d + d') := by
  unfold numA
  rw [cif_f (T48 hT hd h1), scn_s, cif_t (dg (by omega) hT hd), scn_s, cif_t (dg hp hT' hd'), scn_stop hn, dv hT hd, dv hT' hd', Nat.mul_zero, Nat.zero_add]
theorem altR_ok {p l a q e : Nat} (h1 : numL T t p = (q, l)) (hq : ¬ q = p) (hnd : ¬ dgt T t q) (hl : l < nl) (hqt : q < t) (he : T q = nI 61) (h2 : numA T t (q + 1) = (e, a)) (he' : ¬ e = q + 1) (hnd2 : ¬ dgt T t e) (ha : a ≤ 1000000) : altR T t nl p = .inr (l, a, e) := by
  unfold altR
  rw [h1]
  dsimp only
  rw [h2]
  dsimp only
  rw [cif_t ⟨hq, hnd, hl⟩, cif_t ⟨hqt, he⟩, cif_t ⟨he', hnd2, ha⟩]
theorem altR_f0 (ht : t = 0) : altR T t nl 0 = .inl 0 := by
  subst ht
  have hn : numL T 0 0 = (0, 0) := by
    unfold numL
    rw [cif_f (fun z => absurd z.1 (Nat.lt_irrefl 0)), scn_stop (ndg_t (Nat.le_refl _))]
  unfold altR
  rw [hn]
  dsimp only
  rw [cif_f (fun z => z.1 rfl), cif_f (fun z => z.1 rfl)]
theorem altR_f1 {l : Nat} (ht : t = 1) (hT : T 0 = nI (48 + l)) (hl : l ≤ 9) (hnl : l < nl) : altR T t nl 0 = .inl 1 := by
  subst ht
  have hn : numL T 1 0 = (1, l) := numL_1 (by omega) hT hl (ndg_t (Nat.le_refl _))
  unfold altR
  rw [hn]
  dsimp only
  rw [cif_t ⟨by omega, ndg_t (Nat.le_refl _), hnl⟩, cif_f (fun z => absurd z.1 (Nat.lt_irrefl 1))]
/-- the text l=7/o=30,l=9 -/
def Tx3 (T : Nat → Int32) (l o : Nat) : Prop := T 0 = nI (48 + l) ∧ T 1 = nI 61 ∧ T 2 = nI (48 + 7) ∧ T 3 = nI 47 ∧ T 4 = nI (48 + o) ∧ T 5 = nI 61 ∧ T 6 = nI (48 + 3) ∧ T 7 = nI (48 + 0) ∧ T 8 = nI 44 ∧ T 9 = nI (48 + l) ∧ T 10 = nI 61 ∧ T 11 = nI (48 + 9)
theorem Tx3_alt {l o : Nat} (h : Tx3 T l o) (hl : l ≤ 9) (ho : o ≤ 9) (hln : l < nl) (hon : o < nl) (ht : 12 ≤ t) (hd : ¬ dgt T t 12) : altR T t nl 0 = .inr (l, 7, 3) ∧ altR T t nl 4 = .inr (o, 30, 8) ∧ altR T t nl 9 = .inr (l, 9, 12) := by
  obtain ⟨t0, t1, t2, t3, t4, t5, t6, t7, t8, t9, t10, t11⟩ := h
  exact ⟨altR_ok (numL_1 (by omega) t0 hl (ndg t1 (by omega))) (by omega) (ndg t1 (by omega)) hln (by omega) t1 (numA_1 (by omega) t2 (by omega) (by omega) (ndg t3 (by omega))) (by omega) (ndg t3 (by omega)) (by omega),
    altR_ok (numL_1 (by omega) t4 ho (ndg t5 (by omega))) (by omega) (ndg t5 (by omega)) hon (by omega) t5 (numA_2 (by omega) t6 (by omega) (by omega) t7 (by omega) (ndg t8 (by omega))) (by omega) (ndg t8 (by omega)) (by omega),
    altR_ok (numL_1 (by omega) t9 hl (ndg t10 (by omega))) (by omega) (ndg t10 (by omega)) hln (by omega) t10 (numA_1 (by omega) t11 (by omega) (by omega) hd) (by omega) hd (by omega)⟩
end T
section X
variable {A : Nat → List Int32} {F : Nat → Int32} {P : Nat → Nat} {T : Nat → Int32} {t : Nat}
def L3 (A : Nat → List Int32) : Prop := (A 187).length = 20 ∧ (A 189).length = 20 ∧ (A 191).length = 20
/-- one alternative and what stands behind it -/
theorem alt_step (hc : CL A F T t) {p k w nl l a e : Nat} (hp : p ≤ t) (hk : k < 20) (hnl : nl ≤ 20) (hr : altR T t nl p = .inr (l, a, e)) (f5 : F 18405 = nI k) (f6 : F 18406 = nI w) (f7 : F 18407 = nI 0) (f8 : F 18408 = nI 0) (f9 : F 18409 = nI 0) (u3 u4 u5 : Value) :
    ∃ A2, LfA A A2 ∧ L3 A2 ∧ A2 187 = (A 187).set k (nI l) ∧ A2 189 = (A 189).set k (nI a) ∧ A2 191 = (A 191).set k (nI w) ∧
    (e = t → ∃ F', LfF F F' ∧ F' 18405 = nI (k + 1) ∧ am_ev m_Letter_read (21, [.ref 184, .int (nI nl), .int (nI p), u3, u4, u5], [], heap A F P) = some (some (.int (-nI 1)), heap A2 F' P)) ∧
    (e < t → T e = nI 44 → ∃ F' u3' u4' u5', LfF F F' ∧ F' 18405 = nI (k + 1) ∧ F' 18406 = nI (w + 1) ∧ F' 18407 = nI 0 ∧ F' 18408 = nI 0 ∧ F' 18409 = nI 0 ∧ am_ev m_Letter_read (21, [.ref 184, .int (nI nl), .int (nI p), u3, u4, u5], [], heap A F P) = am_ev m_Letter_read (21, [.ref 184, .int (nI nl), .int (nI (e + 1)), u3', u4', u5'], [], heap A2 F' P)) ∧
    (e < t → T e = nI 47 → ∃ F' u3' u4' u5', LfF F F' ∧ F' 18405 = nI (k + 1) ∧ F' 18406 = nI w ∧ F' 18407 = nI 0 ∧ F' 18408 = nI 0 ∧ F' 18409 = nI 0 ∧ am_ev m_Letter_read (21, [.ref 184, .int (nI nl), .int (nI p), u3, u4, u5], [], heap A F P) = am_ev m_Letter_read (21, [.ref 184, .int (nI nl), .int (nI (e + 1)), u3', u4', u5'], [], heap A2 F' P)) ∧
    (e < t → ¬ T e = nI 44 → ¬ T e = nI 47 → ∃ A3 F', LfA A A3 ∧ L3 A3 ∧ LfF F F' ∧ am_ev m_Letter_read (21, [.ref 184, .int (nI nl), .int (nI p), u3, u4, u5], [], heap A F P) = some (some (.int (nI e)), heap A3 F' P)) := by
  have t80 := hc.2.1
  obtain ⟨l187, l189, l191⟩ := hc.2.2.2.2
  obtain ⟨x1, x2⟩ := c_alt (P := P) hc hp (fun _ => hk) hnl f5 f6 f7 f8 f9 u3 u4 u5
  obtain ⟨F1, v3, v4, v5, d, q1, q5, q6, q7, q8, q9, q10, q11, q12⟩ := x2 l a e hr
  obtain ⟨s1, s2, s3, s4, s5, s6⟩ := altR_inr hp hr
  have hA1 : LfA A (up A 187 ((A 187).set k (nI l))) := fun j z1 z2 z3 => up_ne _ _ z1
  have hl1 : (up A 187 ((A 187).set k (nI l)) 187).length = 20 := by rw [up_eq, List.length_set]; exact l187
  have hl2 : (up A 187 ((A 187).set k (nI l)) 189).length = 20 := by rw [up_ne _ _ (by omega)]; exact l189
  have hl3 : (up A 187 ((A 187).set k (nI l)) 191).length = 20 := by rw [up_ne _ _ (by omega)]; exact l191
  have hc1 : CL (up A 187 ((A 187).set k (nI l))) F1 T t := CL_c hc hA1 q1 hl1 hl2 hl3
  obtain ⟨y1, y2, y3, y4⟩ := c_after (P := P) (nl := nl) hc1 s5 s6 hk s3 q9 q10 q5 q6 q7 q8 q11 v3 v4 v5
  rw [up_ne _ _ (show (189 : Nat) ≠ 187 by omega), up_ne _ _ (show (191 : Nat) ≠ 187 by omega)] at y1 y2 y3
  refine ⟨up (up (up A 187 ((A 187).set k (nI l))) 189 ((A 189).set k (nI a))) 191 ((A 191).set k (nI w)), fun j z1 z2 z3 => by rw [up_ne _ _ z3, up_ne _ _ z2, up_ne _ _ z1], ?_, by simp (disch := (first | omega | fail)) only [st_e, sf_e, Nat.reduceAdd, Nat.reduceMul, up_eq, up_ne, cpA_o, cpF_o], by simp (disch := (first | omega | fail)) only [st_e, sf_e, Nat.reduceAdd, Nat.reduceMul, up_eq, up_ne, cpA_o, cpF_o], by simp (disch := (first | omega | fail)) only [st_e, sf_e, Nat.reduceAdd, Nat.reduceMul, up_eq, up_ne, cpA_o, cpF_o], fun h => ?_, fun h1 h2 => ?_, fun h1 h2 => ?_, fun h1 h2 h3 => ?_⟩
  · unfold L3
    simp (disch := (first | omega | (simp (disch := omega) only [up_eq, up_ne, cpA_o, List.length_set] <;> omega) | fail)) only [st_e, sf_e, Nat.reduceAdd, Nat.reduceMul, up_eq, up_ne, cpA_o, cpF_o, g_seq, g_sne, List.length_set]
    exact ⟨l187, l189, l191⟩
  · obtain ⟨F2, w1, w2, w3⟩ := y1 h
    exact ⟨F2, q1.trans w1, w2, q12.trans w3⟩
  · obtain ⟨F2, a3, a4, a5, w1, w2, w3, w4, w5, w6, w7⟩ := y2 h1 h2
    exact ⟨F2, a3, a4, a5, q1.trans w1, w2, w3, w4, w5, w6, q12.trans w7⟩
  · obtain ⟨F2, a3, a4, a5, w1, w2, w3, w4, w5, w6, w7⟩ := y3 h1 h2
    exact ⟨F2, a3, a4, a5, q1.trans w1, w2, w3, w4, w5, w6, q12.trans w7⟩
  · exact ⟨_, F1, hA1, ⟨hl1, hl2, hl3⟩, q1, q12.trans (y4 h1 h2 h3)⟩
/-- the whole text -/
theorem read3 (hc : CL A F T t) {nl l o : Nat} (hnl : nl ≤ 20) (hT : Tx3 T l o) (hl : l ≤ 9) (ho : o ≤ 9) (hln : l < nl) (hon : o < nl) (hd : ¬ dgt T t 12) (ht : 12 ≤ t) (f5 : F 18405 = nI 0) (f6 : F 18406 = nI 0) (f7 : F 18407 = nI 0) (f8 : F 18408 = nI 0) (f9 : F 18409 = nI 0) (u3 u4 u5 : Value) :
    (t = 12 → ∃ A' F', LfA A A' ∧ L3 A' ∧ LfF F F' ∧ F' 18405 = nI 3 ∧ A' 187 = (((A 187).set 0 (nI l)).set 1 (nI o)).set 2 (nI l) ∧ A' 189 = (((A 189).set 0 (nI 7)).set 1 (nI 30)).set 2 (nI 9) ∧ A' 191 = (((A 191).set 0 (nI 0)).set 1 (nI 0)).set 2 (nI 1) ∧ am_ev m_Letter_read (21, [.ref 184, .int (nI nl), .int (nI 0), u3, u4, u5], [], heap A F P) = some (some (.int (-nI 1)), heap A' F' P)) ∧
    (12 < t → ¬ T 12 = nI 44 → ¬ T 12 = nI 47 → ∃ A' F', LfA A A' ∧ L3 A' ∧ LfF F F' ∧ am_ev m_Letter_read (21, [.ref 184, .int (nI nl), .int (nI 0), u3, u4, u5], [], heap A F P) = some (some (.int (nI 12)), heap A' F' P)) := by
  obtain ⟨r1, r2, r3⟩ := Tx3_alt (nl := nl) hT hl ho hln hon ht hd
  obtain ⟨A1, a1, a2, a3, a4, a5, -, -, a8, -⟩ := alt_step (P := P) hc (Nat.zero_le _) (by omega) hnl r1 f5 f6 f7 f8 f9 u3 u4 u5
  obtain ⟨F1, x3, x4, x5, b1, b2, b3, b4, b5, b6, b7⟩ := a8 (by omega) hT.2.2.2.1
  have hc1 : CL A1 F1 T t := CL_c hc a1 b1 a2.1 a2.2.1 a2.2.2
  obtain ⟨A2, c1, c2, c3, c4, c5, -, c7, -, -⟩ := alt_step (P := P) hc1 (show 4 ≤ t by omega) (by omega) hnl r2 b2 b3 b4 b5 b6 x3 x4 x5
  obtain ⟨F2, y3, y4, y5, d1, d2, d3, d4, d5, d6, d7⟩ := c7 (by omega) hT.2.2.2.2.2.2.2.2.1
  have hc2 : CL A2 F2 T t := CL_c hc1 c1 d1 c2.1 c2.2.1 c2.2.2
  obtain ⟨A3, e1, e2, e3, e4, e5, e6, -, -, e9⟩ := alt_step (P := P) hc2 (show 9 ≤ t by omega) (by omega) hnl r3 d2 d3 d4 d5 d6 y3 y4 y5
  constructor
  · intro h
    obtain ⟨F3, f1, f2, f3⟩ := e6 h.symm
    refine ⟨A3, F3, (a1.trans c1).trans e1, e2, (b1.trans d1).trans f1, f2, by rw [e3, c3, a3], by rw [e4, c4, a4], by rw [e5, c5, a5], b7.trans (d7.trans f3)⟩
  · intro h h1 h2
    obtain ⟨A4, F4, f1, f2, f3, f4⟩ := e9 h h1 h2
    exact ⟨A4, F4, (a1.trans c1).trans f1, f2, (b1.trans d1).trans f3, b7.trans (d7.trans f4)⟩
end X

/-! THE RELATION OF THE CLASS AND THE REFERENCE -/
/-- a state of the class, as a view: its rows by their offsets, its ints -/
def st (A : Nat → List Int32) (B : Nat) : Nat → List Int32 := fun j => if j < 32 then A (B + j) else []
def sf (F : Nat → Int32) (B : Nat) : Nat → Int32 := fun k => if k < 3200 then F (100 * B + k) else 0
theorem st_e {A : Nat → List Int32} {B j : Nat} (h : j < 32) : st A B j = A (B + j) := if_pos h
theorem sf_e {F : Nat → Int32} {B k : Nat} (h : k < 3200) : sf F B k = F (100 * B + k) := if_pos h
/-- in a range -/
def rg (v : Int32) (lo hi : Nat) : Prop := ∃ n, lo ≤ n ∧ n ≤ hi ∧ v = nI n
theorem rg_iff {v : Int32} {lo hi : Nat} (hh : hi < 2 ^ 31) (hl : lo < 2 ^ 31) : rg v lo hi ↔ ¬ (v < nI lo ∨ nI hi < v) := by
  constructor
  · rintro ⟨n, h1, h2, rfl⟩ (h | h)
    · rw [nI_lt' (by omega) hl] at h; omega
    · rw [nI_lt' hh (by omega)] at h; omega
  · intro h
    have h0 : ¬ v < nI 0 := fun z => h (Or.inl (Int32.lt_of_lt_of_le z (nI_le (Nat.zero_le _) hl)))
    obtain ⟨n, hn, rfl⟩ := nI_of h0
    refine ⟨n, Nat.le_of_not_lt fun z => h (Or.inl ?_), Nat.le_of_not_lt fun z => h (Or.inr ?_), rfl⟩
    · rw [nI_lt' hn hl]; exact z
    · rw [nI_lt' hh hn]; exact z
def SimB (a : Nat → List Int32) (r : List Int32) (nB : Nat) : Prop :=
  (∀ k, k < nB → ∃ j, j < nB ∧ g (a 3) k = g r (1 + j) ∧ g (a 5) k = g r (9 + j)) ∧
  (∀ j, j < nB → ∃ k, k < nB ∧ g (a 3) k = g r (1 + j) ∧ g (a 5) k = g r (9 + j)) ∧
  g (a 3) 0 = nI 0 ∧ g r 1 = nI 0 ∧
  (∀ j, j < nB → rg (g r (1 + j)) 0 1000000 ∧ rg (g r (9 + j)) 1 100000) ∧
  (∀ i j, i < j → j < nB → g r (1 + i) < g r (1 + j)) ∧
  (∀ i j, i < j → j < nB → ¬ g (a 3) i = g (a 3) j)
def SimL (a : Nat → List Int32) (r : List Int32) (nl : Nat) : Prop :=
  ∀ l, l < nl → g (a 8) l = g r (18 + l) ∧ g (a 10) l = g r (38 + l) ∧ g (a 12) l = g r (58 + l) ∧ g (a 14) l = g r (78 + l) ∧ rg (g r (38 + l)) 0 1000000 ∧ rg (g r (58 + l)) 0 1000000 ∧ rg (g r (78 + l)) 0 1
def SimM (a : Nat → List Int32) (r : List Int32) (nb : Nat) : Prop :=
  ∀ b, b < nb → g (a 16) b = g r (99 + b) ∧ rg (g r (99 + b)) 0 10000000
def SimX (a : Nat → List Int32) (r : List Int32) (nl nb nx : Nat) : Prop :=
  ∀ x, x < nx → g (a 19) x = g r (168 + x) ∧ g (a 21) x = g r (108 + x) ∧ g (a 23) x = g r (228 + x) ∧ g (a 25) x = g r (288 + x) ∧ g (a 27) x = g r (348 + x) ∧ g (a 29) x = g r (408 + x) ∧ (∃ l, l < nl ∧ g r (108 + x) = nI l) ∧ (∃ b, b < nb ∧ g r (168 + x) = nI b) ∧ rg (g r (228 + x)) 1 1000000 ∧ rg (g r (288 + x)) 0 100000 ∧ rg (g r (348 + x)) 0 (1000000 + x) ∧ rg (g r (408 + x)) 0 1
def SimS (a : Nat → List Int32) (r : List Int32) : Prop :=
  (∀ s, s < 4 → g (a 31) s = g r (468 + s)) ∧ rg (g r 468) 0 100000 ∧ rg (g r 469) 0 500 ∧ rg (g r 470) 0 500 ∧ rg (g r 471) 0 1000
def SimN (f : Nat → Int32) (nB nl nb nx : Nat) : Prop := f 102 = nI nB ∧ f 604 = nI nl ∧ f 3 = nI nb ∧ f 1706 = nI nx
def Sim (a : Nat → List Int32) (f : Nat → Int32) (r : List Int32) (nB nl nb nx : Nat) : Prop :=
  Mok r nB nl nb nx ∧ SimN f nB nl nb nx ∧ SimB a r nB ∧ SimL a r nl ∧ SimM a r nb ∧ SimX a r nl nb nx ∧ SimS a r
theorem SimB_c {a a' : Nat → List Int32} {r r' : List Int32} {nB : Nat} (hn : nB ≤ 8) (hr : ∀ j, 1 ≤ j → j < 17 → g r' j = g r j) (h3 : a' 3 = a 3) (h5 : a' 5 = a 5) (hp : 1 ≤ nB) (h : SimB a r nB) : SimB a' r' nB := by
  obtain ⟨b1, b2, b3, b4, b5, b6, b7⟩ := h
  refine ⟨fun k hk => ?_, fun j hj => ?_, ?_, ?_, fun j hj => ?_, fun i j h1 h2 => ?_, fun i j h1 h2 => ?_⟩
  · obtain ⟨j, q1, q2, q3⟩ := b1 k hk
    exact ⟨j, q1, by rw [h3, hr _ (by omega) (by omega)]; exact q2, by rw [h5, hr _ (by omega) (by omega)]; exact q3⟩
  · obtain ⟨k, q1, q2, q3⟩ := b2 j hj
    exact ⟨k, q1, by rw [h3, hr _ (by omega) (by omega)]; exact q2, by rw [h5, hr _ (by omega) (by omega)]; exact q3⟩
  · rw [h3]; exact b3
  · rw [hr _ (by omega) (by omega)]; exact b4
  · rw [hr _ (by omega) (by omega), hr _ (by omega) (by omega)]; exact b5 j hj
  · rw [hr _ (by omega) (by omega), hr _ (by omega) (by omega)]; exact b6 i j h1 h2
  · rw [h3]; exact b7 i j h1 h2
theorem SimL_c {a a' : Nat → List Int32} {r r' : List Int32} {nl : Nat} (hn : nl ≤ 20) (hr : ∀ j, 18 ≤ j → j < 98 → g r' j = g r j) (h8 : a' 8 = a 8) (h10 : a' 10 = a 10) (h12 : a' 12 = a 12) (h14 : a' 14 = a 14) (h : SimL a r nl) : SimL a' r' nl := by
  intro l hl
  have := h l hl
  rw [h8, h10, h12, h14, hr (18 + l) (by omega) (by omega), hr (38 + l) (by omega) (by omega), hr (58 + l) (by omega) (by omega), hr (78 + l) (by omega) (by omega)]
  exact this
theorem SimM_c {a a' : Nat → List Int32} {r r' : List Int32} {nb : Nat} (hn : nb ≤ 8) (hr : ∀ j, 99 ≤ j → j < 107 → g r' j = g r j) (h16 : a' 16 = a 16) (h : SimM a r nb) : SimM a' r' nb := by
  intro b hb
  have := h b hb
  rw [h16, hr (99 + b) (by omega) (by omega)]
  exact this
theorem SimX_c {a a' : Nat → List Int32} {r r' : List Int32} {nl nb nx nl' nb' : Nat} (hn : nx ≤ 60) (hl : nl ≤ nl') (hb : nb ≤ nb') (hr : ∀ j, 108 ≤ j → j < 468 → g r' j = g r j) (h1 : a' 19 = a 19) (h2 : a' 21 = a 21) (h3 : a' 23 = a 23) (h4 : a' 25 = a 25) (h5 : a' 27 = a 27) (h6 : a' 29 = a 29) (h : SimX a r nl nb nx) : SimX a' r' nl' nb' nx := by
  intro x hx
  obtain ⟨q1, q2, q3, q4, q5, q6, ⟨l, ql, q7⟩, ⟨b, qb, q8⟩, q9⟩ := h x hx
  rw [h1, h2, h3, h4, h5, h6, hr (168 + x) (by omega) (by omega), hr (108 + x) (by omega) (by omega), hr (228 + x) (by omega) (by omega), hr (288 + x) (by omega) (by omega), hr (348 + x) (by omega) (by omega), hr (408 + x) (by omega) (by omega)]
  exact ⟨q1, q2, q3, q4, q5, q6, ⟨l, by omega, q7⟩, ⟨b, by omega, q8⟩, q9⟩
theorem SimS_c {a a' : Nat → List Int32} {r r' : List Int32} (hr : ∀ j, 468 ≤ j → j < 472 → g r' j = g r j) (h31 : a' 31 = a 31) (h : SimS a r) : SimS a' r' := by
  obtain ⟨h1, h2⟩ := h
  refine ⟨fun s hs => ?_, ?_⟩
  · rw [h31, hr _ (by omega) (by omega)]; exact h1 s hs
  · rw [hr 468 (by omega) (by omega), hr 469 (by omega) (by omega), hr 470 (by omega) (by omega), hr 471 (by omega) (by omega)]; exact h2
/-- lengths of all other rows -/
def LenO (A : Nat → List Int32) : Prop := (A 194).length = 1888 ∧ (A 185).length = 80 ∧ (A 195).length = 80 ∧ ((A 187).length = 20 ∧ (A 189).length = 20 ∧ (A 191).length = 20) ∧ ((A 196).length = 40 ∧ (A 197).length = 40 ∧ (A 198).length = 40) ∧ SaL (A 199) (A 200) (A 201) (A 202) (A 203) (A 204) (A 205) ∧ ((A 166).length = 20 ∧ (A 168).length = 20 ∧ (A 170).length = 20 ∧ (A 172).length = 20 ∧ (A 174).length = 20 ∧ (A 176).length = 160 ∧ (A 178).length = 60 ∧ (A 180).length = 60 ∧ (A 182).length = 8)
def Hist (A : Nat → List Int32) (F : Nat → Int32) (P : Nat → Nat) (q : Nat) : Prop :=
  q ≤ 4 ∧ F 3401 = nI q ∧ F 19202 = nI q ∧ (∀ i, i < 4 → hsP (P i)) ∧ (∀ i j, i < j → j < 4 → ¬ P i = P j) ∧ ∀ s, s < q → ∃ nB nl nb nx, Sim (st A (P s)) (sf F (P s)) (sl (A 194) s) nB nl nb nx
def Text (A : Nat → List Int32) (F : Nat → Int32) (t : Nat) : Prop := t ≤ 80 ∧ F 18401 = nI t ∧ F 19203 = nI t ∧ ∀ j, j < t → g (A 185) j = g (A 195) j
/-- the fate of a bid, as the reference tells it -/
noncomputable def mFa (r : List Int32) (nB : Nat) (L B Fi Bu : List Int32) (x : Nat) : Int32 :=
  cif (g r (408 + x) = nI 1) (nI 1) (cif (mLa r x) (nI 2) (cif (g r (78 + lotN r x) = nI 1) (nI 3) (cif (mSv r Bu Fi x) (nI 4) (cif (¬ mCo r nB L Bu Fi x) (nI 5) (cif (¬ g B (8 * lotN r x + byN r x) = nI x) (nI 6) (cif (¬ g Fi (lotN r x) = nI x) (nI 7) (cif (g Bu (lotN r x) < nI 0) (nI 8) (nI 0))))))))
/-- the state of a lot, as the reference tells it -/
noncomputable def mSt (r Mn Bu : List Int32) (l : Nat) : Int32 := cif (g r (78 + l) = nI 1) (nI 3) (cif (¬ g Bu l < nI 0) (nI 0) (cif (g Mn l = nI 0) (nI 1) (nI 2)))
/-- the class's sale rows, behind the lots below k, against the reference's -/
def ClS (A : Nat → List Int32) (r : List Int32) (nB nl nx : Nat) (L B Fi Se Mn Bu Pr : List Int32) (k : Nat) : Prop :=
  (∀ l, l < k → g (A 166) l = g Bu l ∧ g (A 168) l = g Pr l ∧ g (A 170) l = mSt r Mn Bu l ∧ g (A 172) l = g Mn l ∧ g (A 174) l = mAs r nB l ∧ (∀ p, nI p < g Mn l → p < 8 → g (A 176) (8 * l + p) = mRk r nB L B l (nI p) 8 0)) ∧
  (∀ x, x < nx → lotN r x < k → g (A 178) x = mWo r nB L x ∧ g (A 180) x = mFa r nB L B Fi Bu x)
def Held (A : Nat → List Int32) (F : Nat → Int32) (nB nl nb nx : Nat) : Prop := F 16410 = nI 0 ∨ (F 16410 = nI 1 ∧ ∃ L B Fi Se Mn Bu Pr : List Int32, SaL L B Fi Se Mn Bu Pr ∧ SaI (A 193) nB nl nb nx L B Fi Se Mn Bu Pr nl ∧ ClS A (A 193) nB nl nx L B Fi Se Mn Bu Pr nl)
def InvN (A : Nat → List Int32) (F : Nat → Int32) (P : Nat → Nat) (nB nl nb nx q t : Nat) : Prop :=
  Sim (st A 2) (sf F 2) (A 193) nB nl nb nx ∧ (LenS A 2 ∧ (∀ b, hsP b → LenS A b) ∧ LenO A) ∧ Hist A F P q ∧ Text A F t ∧ Held A F nB nl nb nx
def Inv (A : Nat → List Int32) (F : Nat → Int32) (P : Nat → Nat) : Prop := ∃ nB nl nb nx q t, InvN A F P nB nl nb nx q t
theorem hsP_b {b : Nat} (h : hsP b) : 36 ≤ b ∧ b ≤ 132 := by rcases h with rfl | rfl | rfl | rfl <;> omega
theorem st_c {A A' : Nat → List Int32} {B B' : Nat} (h : ∀ j, j < 32 → A' (B' + j) = A (B + j)) : st A' B' = st A B := by
  funext j
  unfold st
  split
  · rename_i z; exact h j z
  · rfl
theorem sf_c {F F' : Nat → Int32} {B B' : Nat} (h : ∀ k, k < 3200 → F' (100 * B' + k) = F (100 * B + k)) : sf F' B' = sf F B := by
  funext j
  unfold sf
  split
  · rename_i z; exact h j z
  · rfl
theorem LenS_c {A A' : Nat → List Int32} {B B' : Nat} (h : ∀ j, j < 32 → A' (B' + j) = A (B + j)) (hl : LenS A B) : LenS A' B' := by
  unfold LenS at hl ⊢
  rw [h 3 (by omega), h 5 (by omega), h 8 (by omega), h 10 (by omega), h 12 (by omega), h 14 (by omega), h 16 (by omega), h 19 (by omega), h 21 (by omega), h 23 (by omega), h 25 (by omega), h 27 (by omega), h 29 (by omega), h 31 (by omega)]
  exact hl
theorem hsP_far {b c : Nat} (hb : hsP b) (hc : hsP c) (h : ¬ b = c) : b + 32 ≤ c ∨ c + 32 ≤ b := by
  rcases hb with rfl | rfl | rfl | rfl <;> rcases hc with rfl | rfl | rfl | rfl <;> omega
theorem cpA_i {A : Nat → List Int32} {s d j : Nat} (h : j < 32) : cpA A s d (d + j) = A (s + j) := by
  unfold cpA
  rw [if_pos (by omega), if_pos (by omega)]
  congr 1
  omega
theorem cpF_i {F : Nat → Int32} {s d k : Nat} (h : k < 3200) : cpF F s d (100 * d + k) = F (100 * s + k) := by
  unfold cpF
  rw [if_pos (by omega), if_pos (by omega)]
  congr 1
  omega
theorem Pk_inj {q : Nat} {P : Nat → Nat} (h : ∀ i j, i < j → j < 4 → ¬ P i = P j) : ∀ i j, i < j → j < 4 → ¬ Pk q P i = Pk q P j := by
  intro i j h1 h2
  have e : ∀ i j, i < 4 → j < 4 → P i = P j → i = j := by
    intro i j hi hj hp
    rcases Nat.lt_trichotomy i j with z | z | z
    · exact absurd hp (h i j z hj)
    · exact z
    · exact absurd hp.symm (h j i z hi)
  unfold Pk
  split
  · have hr : ∀ k, k < 4 → ∃ m, m < 4 ∧ rot P k = P m ∧ m = (if k = 3 then 0 else k + 1) := by
      intro k hk
      have : k = 0 ∨ k = 1 ∨ k = 2 ∨ k = 3 := by omega
      rcases this with rfl | rfl | rfl | rfl
      · exact ⟨1, by omega, rfl, rfl⟩
      · exact ⟨2, by omega, rfl, rfl⟩
      · exact ⟨3, by omega, rfl, rfl⟩
      · exact ⟨0, by omega, rfl, rfl⟩
    obtain ⟨m, m1, m2, m3⟩ := hr i (by omega)
    obtain ⟨n, n1, n2, n3⟩ := hr j h2
    rw [m2, n2]
    intro z
    have := e m n m1 n1 z
    rw [m3, n3] at this
    split at this <;> split at this <;> omega
  · exact h i j h1 h2
/-- where a state of the history stands behind an act -/
theorem Pk_of {q s : Nat} {P : Nat → Nat} (hq : q ≤ 4) (hs : s < kp q) : Pk q P s = P (of4 q s) := by
  unfold Pk of4
  unfold kp at hs
  by_cases c : q = 4
  · rw [if_pos c] at hs
    rw [if_pos c, if_pos c]
    have : s = 0 ∨ s = 1 ∨ s = 2 := by omega
    rcases this with rfl | rfl | rfl <;> rfl
  · rw [if_neg c, if_neg c]
theorem of4_lt {q s : Nat} (hq : q ≤ 4) (hs : s < kp q) : of4 q s < q := by
  unfold of4
  unfold kp at hs
  by_cases c : q = 4
  · rw [if_pos c] at hs ⊢; omega
  · rw [if_neg c] at hs ⊢; omega
/-- what an act leaves -/
theorem act_done {A A' : Nat → List Int32} {F F' : Nat → Int32} {P : Nat → Nat} {nB nl nb nx q t nB' nl' nb' nx' b : Nat} {H' r' : List Int32} (hI : InvN A F P nB nl nb nx q t) (hb : b = Pk q P (kp q)) (hH : H'.length = 1888) (hH1 : sl H' (kp q) = A 193) (hH2 : ∀ s, s < kp q → sl H' s = sl (A 194) (of4 q s))
    (hA1 : ∀ j, 36 ≤ j → j < 164 → A' j = cpA A 2 b j) (hA2 : ∀ j, 164 ≤ j → ¬ j = 193 → ¬ j = 194 → A' j = A j) (hA3 : A' 194 = H')
    (hF1 : ∀ k, 3600 ≤ k → k < 16400 → F' k = cpF F 2 b k) (hF2 : F' 3401 = nI (kp q + 1)) (hF3 : F' 19202 = nI (kp q + 1)) (hF4 : F' 16410 = nI 0) (hF5 : F' 18401 = F 18401) (hF6 : F' 19203 = F 19203)
    (hL : LenS A' 2) (hr' : A' 193 = r') (hS : Sim (st A' 2) (sf F' 2) r' nB' nl' nb' nx') : InvN A' F' (Pk q P) nB' nl' nb' nx' (kp q + 1) t := by
  subst hr'
  obtain ⟨hs, ⟨l1, l2, l3⟩, ⟨q1, q2, q3, q4, q5, q6⟩, ht, -⟩ := hI
  have hP := Pk_hs (q := q) q4
  have hkp := kp_lt q1
  have hbP : hsP b := by rw [hb]; exact hP _ hkp
  obtain ⟨b1, b2⟩ := hsP_b hbP
  refine ⟨hS, ⟨hL, fun c hc => ?_, ?_⟩, ⟨by omega, hF2, hF3, hP, Pk_inj q5, fun s hs' => ?_⟩, ?_, Or.inl hF4⟩
  · obtain ⟨c1, c2⟩ := hsP_b hc
    by_cases e : b = c
    · subst e
      refine LenS_c (fun j hj => ?_) l1
      rw [hA1 _ (by omega) (by omega), cpA_i hj]
    · have := hsP_far hbP hc e
      refine LenS_c (fun j hj => ?_) (l2 c hc)
      rw [hA1 _ (by omega) (by omega), cpA_o (by omega)]
  · unfold LenO at l3 ⊢
    rw [hA3, hA2 185 (by omega) (by omega) (by omega), hA2 195 (by omega) (by omega) (by omega), hA2 187 (by omega) (by omega) (by omega), hA2 189 (by omega) (by omega) (by omega), hA2 191 (by omega) (by omega) (by omega), hA2 196 (by omega) (by omega) (by omega), hA2 197 (by omega) (by omega) (by omega), hA2 198 (by omega) (by omega) (by omega), hA2 199 (by omega) (by omega) (by omega), hA2 200 (by omega) (by omega) (by omega), hA2 201 (by omega) (by omega) (by omega), hA2 202 (by omega) (by omega) (by omega), hA2 203 (by omega) (by omega) (by omega), hA2 204 (by omega) (by omega) (by omega), hA2 205 (by omega) (by omega) (by omega), hA2 166 (by omega) (by omega) (by omega), hA2 168 (by omega) (by omega) (by omega), hA2 170 (by omega) (by omega) (by omega), hA2 172 (by omega) (by omega) (by omega), hA2 174 (by omega) (by omega) (by omega), hA2 176 (by omega) (by omega) (by omega), hA2 178 (by omega) (by omega) (by omega), hA2 180 (by omega) (by omega) (by omega), hA2 182 (by omega) (by omega) (by omega)]
    exact ⟨hH, l3.2⟩
  · rcases Nat.lt_or_ge s (kp q) with z | z
    · obtain ⟨mB, ml, mb, mx, hm⟩ := q6 (of4 q s) (of4_lt q1 z)
      have hne : ¬ b = Pk q P s := fun e => by
        rw [hb] at e
        exact Pk_inj q5 s (kp q) z hkp e.symm
      have hc := hP s (by omega)
      obtain ⟨c1, c2⟩ := hsP_b hc
      have hf := hsP_far hbP hc hne
      have eP := Pk_of (P := P) q1 z
      refine ⟨mB, ml, mb, mx, ?_⟩
      have e1 : st A' (Pk q P s) = st A (P (of4 q s)) := by
        rw [← eP]
        refine st_c (fun j hj => ?_)
        rw [hA1 _ (by omega) (by omega), cpA_o (by omega)]
      have e2 : sf F' (Pk q P s) = sf F (P (of4 q s)) := by
        rw [← eP]
        refine sf_c (fun k hk => ?_)
        rw [hF1 _ (by omega) (by omega), cpF_o (by omega)]
      rw [e1, e2, hA3, hH2 s z]
      exact hm
    · have es : s = kp q := by omega
      subst es
      refine ⟨nB, nl, nb, nx, ?_⟩
      have e1 : st A' (Pk q P (kp q)) = st A 2 := by
        rw [← hb]
        refine st_c (fun j hj => ?_)
        rw [hA1 _ (by omega) (by omega), cpA_i hj]
      have e2 : sf F' (Pk q P (kp q)) = sf F 2 := by
        rw [← hb]
        refine sf_c (fun k hk => ?_)
        rw [hF1 _ (by omega) (by omega), cpF_i hk]
      rw [e1, e2, hA3, hH1]
      exact hs
  · unfold Text at ht ⊢
    rw [hF5, hF6, hA2 185 (by omega) (by omega) (by omega), hA2 195 (by omega) (by omega) (by omega)]
    exact ht

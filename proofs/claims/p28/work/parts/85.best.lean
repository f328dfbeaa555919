/-! THE BIDS THAT COUNT FOR A LOT, IN THEIR ORDER -/
section B
variable {r L B Fi Se Mn Bu Pr : List Int32} {nB nl nb nx : Nat} {A : Nat → List Int32} {F : Nat → Int32}
def Cand (r : List Int32) (nB : Nat) (L Bu Fi : List Int32) (l b z : Nat) : Prop := g r (78 + l) = nI 0 ∧ lotN r z = l ∧ byN r z = b ∧ mCo r nB L Bu Fi z
theorem mBs_max (hn : nx ≤ 60) (l b : Nat) : ∀ k, k ≤ nx → (mBs r nB L Bu Fi l b k = -nI 5 ∧ ∀ z, z < k → ¬ Cand r nB L Bu Fi l b z) ∨ ∃ y, y < k ∧ mBs r nB L Bu Fi l b k = nI y ∧ Cand r nB L Bu Fi l b y ∧ ∀ z, z < k → Cand r nB L Bu Fi l b z → ¬ z = y → (mWo r nB L z).toInt < (mWo r nB L y).toInt ∨ ((mWo r nB L z).toInt = (mWo r nB L y).toInt ∧ y < z) := by
  intro k
  induction k with
  | zero => exact fun _ => Or.inl ⟨rfl, fun z hz => absurd hz (Nat.not_lt_zero _)⟩
  | succ k ih =>
    intro hk
    have ih := ih (by omega)
    rw [mBs_s]
    by_cases c : Cand r nB L Bu Fi l b k
    · rw [cif_t (p := g r (78 + l) = nI 0 ∧ lotN r k = l ∧ byN r k = b ∧ mCo r nB L Bu Fi k) c]
      rcases ih with ⟨h1, h2⟩ | ⟨y, y1, y2, y3, y4⟩
      · rw [h1, cif_t (Or.inl (by decide))]
        refine Or.inr ⟨k, Nat.lt_succ_self _, rfl, c, fun z hz hc hne => ?_⟩
        exact absurd hc (h2 z (by omega))
      · rw [y2, nI_clamp (by omega)]
        by_cases d : mWo r nB L y < mWo r nB L k
        · rw [cif_t (Or.inr d)]
          rw [Int32.lt_iff_toInt_lt] at d
          refine Or.inr ⟨k, Nat.lt_succ_self _, rfl, c, fun z hz hc hne => ?_⟩
          by_cases e : z = y
          · subst e; exact Or.inl d
          · have := y4 z (by omega) hc e
            omega
        · rw [cif_f (fun z => z.elim (fun z => absurd z (nI_pos (by omega))) d)]
          rw [Int32.lt_iff_toInt_lt] at d
          refine Or.inr ⟨y, by omega, rfl, y3, fun z hz hc hne => ?_⟩
          by_cases e : z = k
          · subst e
            omega
          · exact y4 z (by omega) hc hne
    · rw [cif_f (p := g r (78 + l) = nI 0 ∧ lotN r k = l ∧ byN r k = b ∧ mCo r nB L Bu Fi k) c]
      rcases ih with ⟨h1, h2⟩ | ⟨y, y1, y2, y3, y4⟩
      · refine Or.inl ⟨h1, fun z hz hc => ?_⟩
        by_cases e : z = k
        · exact c (e ▸ hc)
        · exact h2 z (by omega) hc
      · refine Or.inr ⟨y, by omega, y2, y3, fun z hz hc hne => ?_⟩
        by_cases e : z = k
        · exact absurd (e ▸ hc) c
        · exact y4 z (by omega) hc hne
theorem mRe_cand (hC : Cx A F r nB nl nb nx) (hS : SaI r nB nl nb nx L B Fi Se Mn Bu Pr nl) {x : Nat} (hx : x < nx) : mRe r nB L Bu Fi x = nI 0 ↔ Cand r nB L Bu Fi (lotN r x) (byN r x) x := by
  obtain ⟨⟨x1, x2⟩, x3, x4⟩ := hC.1.2.2 x hx
  rw [mRe_0 (Bu := Bu) (Fi := Fi) hC hx (SaI_left hC hS (lotN r x) (by omega) (byN r x) x3)]
  exact ⟨fun z => ⟨z.1, rfl, rfl, z.2⟩, fun z => ⟨z.1, z.2.2.2⟩⟩
theorem cd2_0 {x : Nat} : cd2 r nB L Bu Fi nx x = nI 0 ↔ mRe r nB L Bu Fi x = nI 0 ∧ ¬ ∃ z, z < nx ∧ Btr r nB L Bu Fi z x := by
  unfold cd2
  by_cases c : mRe r nB L Bu Fi x = nI 0
  · by_cases d : ∃ z, z < nx ∧ Btr r nB L Bu Fi z x
    · rw [cif_t ⟨c, d⟩]
      exact ⟨fun z => absurd z (by decide), fun z => absurd d z.2⟩
    · rw [cif_f (fun z => d z.2)]
      exact ⟨fun z => ⟨z, d⟩, fun z => z.1⟩
  · rw [cif_f (fun z => c z.1)]
    exact ⟨fun z => absurd z c, fun z => z.1⟩
theorem Btr_int {z x : Nat} : (mWo r nB L x < mWo r nB L z ∨ (mWo r nB L z = mWo r nB L x ∧ z < x)) ↔ ((mWo r nB L x).toInt < (mWo r nB L z).toInt ∨ ((mWo r nB L z).toInt = (mWo r nB L x).toInt ∧ z < x)) := by
  rw [Int32.lt_iff_toInt_lt, Int32.toInt_inj]
/-- a bid counts at last, where it is its bidder's best one -/
theorem best_iff (hC : Cx A F r nB nl nb nx) (hS : SaI r nB nl nb nx L B Fi Se Mn Bu Pr nl) {x : Nat} (hx : x < nx) : cd2 r nB L Bu Fi nx x = nI 0 ↔ g B (8 * lotN r x + byN r x) = nI x := by
  have hnx : nx ≤ 60 := hC.1.1.2.2.2.2.2.2.2.2.2
  have hnb : nb ≤ 8 := hC.1.1.2.2.2.2.2.2.2.2.1
  obtain ⟨⟨x1, x2⟩, x3, x4⟩ := hC.1.2.2 x hx
  rw [hS.2.2.1 _ x1 _ (by omega), cd2_0]
  have hm := mBs_max (r := r) (nB := nB) (L := L) (Bu := Bu) (Fi := Fi) hnx (lotN r x) (byN r x) nx (Nat.le_refl _)
  constructor
  · rintro ⟨h1, h2⟩
    have hc := (mRe_cand hC hS hx).mp h1
    rcases hm with ⟨m1, m2⟩ | ⟨y, y1, y2, y3, y4⟩
    · exact absurd hc (m2 x hx)
    · by_cases e : x = y
      · rw [y2, e]
      · refine absurd ⟨y, y1, ?_⟩ h2
        obtain ⟨z1, z2, z3, z4⟩ := id y3
        refine ⟨fun z => e z.symm, z2, z3, (mRe_cand hC hS y1).mpr (by rw [z2, z3]; exact y3), Btr_int.mpr ?_⟩
        have := y4 x hx hc e
        omega
  · intro h
    rcases hm with ⟨m1, m2⟩ | ⟨y, y1, y2, y3, y4⟩
    · rw [m1] at h
      exact absurd h.symm (nI_nm5 (by omega))
    · rw [y2, nI_eq' (by omega) (by omega)] at h
      subst h
      refine ⟨(mRe_cand hC hS hx).mpr y3, ?_⟩
      rintro ⟨z, z1, z2, z3, z4, z5, z6⟩
      have hz := (mRe_cand hC hS z1).mp z5
      rw [z3, z4] at hz
      have := y4 z z1 hz z2
      have := Btr_int.mp z6
      omega
theorem cN_ins {p p' : Nat → Prop} {a : Nat} {t : Prop} (hp : ¬ p a) (h : ∀ y, p' y ↔ (p y ∨ (y = a ∧ t))) : ∀ n k, k ≤ a → a < k + n → cN p' n k = cN p n k + cif t 1 0 := by
  intro n
  induction n with
  | zero => intro k h1 h2; omega
  | succ n ih =>
    intro k h1 h2
    rw [cN_s, cN_s]
    by_cases e : k = a
    · subst e
      have hc : cN p' n (k + 1) = cN p n (k + 1) := cN_c n (k + 1) (fun j j1 j2 => (h j).trans ⟨fun z => z.resolve_right (fun z => by omega), Or.inl⟩)
      rw [hc, cif_f hp]
      by_cases ht : t
      · rw [cif_t ((h k).mpr (Or.inr ⟨rfl, ht⟩)), cif_t ht]; omega
      · rw [cif_f (fun z => ((h k).mp z).elim hp (fun z => ht z.2)), cif_f ht]; rfl
    · have he : cif (p' k) 1 0 = cif (p k) (1 : Nat) 0 := by
        have := h k
        by_cases c : p k
        · rw [cif_t c, cif_t (this.mpr (Or.inl c))]
        · rw [cif_f c, cif_f (fun z => (this.mp z).elim c (fun z => e z.1))]
      rw [he, ih (k + 1) (by omega) (by omega)]
      omega
/-- a count over all bids is a count over the list of those that are meant -/
theorem cN_cnt (s : Nat → Bool) {nx : Nat} : ∀ (O : List Nat), O.Nodup → (∀ y, y ∈ O → y < nx) → cN (fun y => y ∈ O ∧ s y = true) nx 0 = O.countP s := by
  intro O
  induction O with
  | nil =>
    intro _ _
    have : ∀ n k, cN (fun y => y ∈ ([] : List Nat) ∧ s y = true) n k = 0 := by
      intro n
      induction n with
      | zero => intro k; rfl
      | succ n ih => intro k; rw [cN_s, ih, cif_f (fun z => absurd z.1 List.not_mem_nil)]
    rw [this]
    rfl
  | cons a O ih =>
    intro hd hm
    obtain ⟨h1, h2⟩ := List.nodup_cons.mp hd
    rw [cN_ins (p := fun y => y ∈ O ∧ s y = true) (a := a) (t := s a = true) (fun z => h1 z.1) (fun y => ?_) nx 0 (Nat.zero_le _) (by have := hm a List.mem_cons_self; omega), ih h2 (fun y hy => hm y (List.mem_cons_of_mem _ hy))]
    · by_cases c : s a = true
      · rw [cif_t c, List.countP_cons_of_pos c]
      · rw [cif_f c, List.countP_cons_of_neg c]; rfl
    · rw [List.mem_cons]
      constructor
      · rintro ⟨e | e, h⟩
        · subst e; exact Or.inr ⟨rfl, h⟩
        · exact Or.inl ⟨e, h⟩
      · rintro (⟨e, h⟩ | ⟨e, h⟩)
        · exact ⟨Or.inr e, h⟩
        · subst e; exact ⟨Or.inl rfl, h⟩
theorem Srt_nd {O : List Nat} (hs : Srt r nB L O) : O.Nodup := by
  unfold List.Nodup
  rw [List.pairwise_iff_getElem]
  intro i j hi hj hij e
  have := hs i j hij hj
  rw [od_at hi, od_at hj, e] at this
  exact mAh_ne this rfl
/-- the order of the bids that count for a lot -/
def Ord (r : List Int32) (nB : Nat) (L B Bu Fi : List Int32) (nx k : Nat) (O : List Nat) : Prop := O.Perm (bl (fun j => g B (8 * k + j)) 8) ∧ Srt r nB L O ∧ O.length ≤ 8 ∧ ∀ y, y ∈ O ↔ (y < nx ∧ lotN r y = k ∧ cd2 r nB L Bu Fi nx y = nI 0)
theorem ord_ex (hC : Cx A F r nB nl nb nx) (hS : SaI r nB nl nb nx L B Fi Se Mn Bu Pr nl) {k : Nat} (hk : k < nl) : ∃ O, Ord r nB L B Bu Fi nx k O := by
  have hM := hC.1
  have hnx : nx ≤ 60 := hM.1.2.2.2.2.2.2.2.2.2
  have hnb : nb ≤ 8 := hM.1.2.2.2.2.2.2.2.2.1
  have hbest : ∀ j y, j < 8 → ¬ g B (8 * k + j) < nI 0 → (g B (8 * k + j)).toNatClampNeg = y → y < nx ∧ g B (8 * k + j) = nI y ∧ byN r y = j ∧ lotN r y = k := by
    intro j y hj h1 h2
    rw [hS.2.2.1 k hk j hj] at h1 h2 ⊢
    rcases mBs_spec r nB L Bu Fi k j nx with z | ⟨u, u1, u2, u3, u4, u5, u6⟩
    · exact absurd (by rw [z]; decide) h1
    · rw [u2, nI_clamp (by omega)] at h2
      subst h2
      exact ⟨u1, u2, u5, u4⟩
  obtain ⟨O, hOp, hs⟩ := srt_ex (r := r) (nB := nB) (L := L) (f := fun j => g B (8 * k + j)) (N := 8) (fun i j hij hj hc => by
    by_cases d : g B (8 * k + i) < nI 0
    · exact Or.inr d
    · refine Or.inl (fun z => ?_)
      have h1 := (hbest i _ (by omega) d rfl).2.2.1
      have h2 := (hbest j _ hj hc rfl).2.2.1
      have z : (g B (8 * k + i)).toNatClampNeg = (g B (8 * k + j)).toNatClampNeg := z
      rw [z, h2] at h1
      omega) 8 (Nat.le_refl _)
  refine ⟨O, hOp, hs, by rw [hOp.length_eq]; exact bl_le _ 8, fun y => ?_⟩
  rw [hOp.mem_iff, bl_mem]
  constructor
  · rintro ⟨j, j1, j2, j3⟩
    obtain ⟨h1, h2, h3, h4⟩ := hbest j y j1 j2 j3
    exact ⟨h1, h4, (best_iff hC hS h1).mpr (by rw [h4, h3]; exact h2)⟩
  · rintro ⟨h1, h2, h3⟩
    have h4 := (best_iff hC hS h1).mp h3
    have h5 := (hM.2.2 y h1).2.1
    rw [h2] at h4
    exact ⟨byN r y, by omega, by show ¬ g B (8 * k + byN r y) < nI 0; rw [h4]; exact nI_pos (by omega), by show (g B (8 * k + byN r y)).toNatClampNeg = y; rw [h4, nI_clamp (by omega)]⟩
section K
variable {k : Nat} {O : List Nat}
theorem ord_mn (hC : Cx A F r nB nl nb nx) (hS : SaI r nB nl nb nx L B Fi Se Mn Bu Pr nl) (hk : k < nl) (hO : Ord r nB L B Bu Fi nx k O) : g Mn k = nI O.length ∧ mMn B k 8 0 = O.length := by
  have e : mMn B k 8 0 = O.length := by rw [mMn_bl, hO.1.length_eq]
  exact ⟨by rw [hS.2.2.2.2.2.1 k hk, e], e⟩
theorem ord_rk (hC : Cx A F r nB nl nb nx) (hS : SaI r nB nl nb nx L B Fi Se Mn Bu Pr nl) (hk : k < nl) (hO : Ord r nB L B Bu Fi nx k O) {p : Nat} (hp : p < 2 ^ 31) : mRk r nB L B k (nI p) 8 0 = if p < O.length then nI (od O p) else -nI 5 := by
  have hnx : nx ≤ 60 := hC.1.1.2.2.2.2.2.2.2.2.2
  have hB := fun b hb => (SaI_bs hC.1 hS hk b hb).isB
  split
  · rename_i h
    exact mRk_od hnx hB hO.1 hO.2.1 h
  · rename_i h
    refine mRk_far hnx hB (fun j hj e => ?_)
    rw [(ord_mn hC hS hk hO).2] at hj
    rw [nI_eq' (by have := hO.2.2.1; omega) hp] at e
    omega
theorem ord_fi (hC : Cx A F r nB nl nb nx) (hS : SaI r nB nl nb nx L B Fi Se Mn Bu Pr nl) (hk : k < nl) (hO : Ord r nB L B Bu Fi nx k O) : (g Fi k = if 0 < O.length then nI (od O 0) else -nI 5) ∧ (g Se k = if 1 < O.length then nI (od O 1) else -nI 5) := by
  rw [hS.2.2.2.1 k hk, hS.2.2.2.2.1 k hk]
  exact ⟨ord_rk hC hS hk hO (by omega), ord_rk hC hS hk hO (by omega)⟩
theorem ord_mem (hO : Ord r nB L B Bu Fi nx k O) {p : Nat} (hp : p < O.length) : od O p < nx ∧ lotN r (od O p) = k ∧ cd2 r nB L Bu Fi nx (od O p) = nI 0 := (hO.2.2.2 _).mp (od_mem hp)
/-- the place of a bid is the number of those ahead of it -/
theorem ord_place (hO : Ord r nB L B Bu Fi nx k O) {p : Nat} (hp : p < O.length) : cN (fun y => lotN r y = k ∧ cd2 r nB L Bu Fi nx y = nI 0 ∧ mAh r nB L y (od O p)) nx 0 = p := by
  have h1 := cN_cnt (ahP r nB L (od O p)) O (Srt_nd hO.2.1) (fun y hy => ((hO.2.2.2 y).mp hy).1)
  rw [Srt_cnt hO.2.1 hp] at h1
  refine Eq.trans (cN_c nx 0 (fun y _ hy => ?_)) h1
  rw [hO.2.2.2 y, ahP_t]
  constructor
  · rintro ⟨a, b, c⟩
    exact ⟨⟨by omega, a, b⟩, mAh_ne c, c⟩
  · rintro ⟨⟨a, b, c⟩, d, e⟩
    exact ⟨b, c, e⟩
theorem ord_many (hO : Ord r nB L B Bu Fi nx k O) : cN (fun y => lotN r y = k ∧ cd2 r nB L Bu Fi nx y = nI 0) nx 0 = O.length := by
  have h1 := cN_cnt (fun _ => true) O (Srt_nd hO.2.1) (fun y hy => ((hO.2.2.2 y).mp hy).1)
  have h2 : O.countP (fun _ => true) = O.length := List.countP_eq_length.mpr (fun _ _ => rfl)
  rw [h2] at h1
  rw [← h1]
  refine cN_c nx 0 (fun y _ hy => ?_)
  rw [hO.2.2.2 y]
  constructor
  · rintro ⟨a, b⟩
    exact ⟨⟨by omega, a, b⟩, rfl⟩
  · rintro ⟨⟨a, b, c⟩, -⟩
    exact ⟨b, c⟩
/-- a lot is sold where its first bid reaches the reserve -/
theorem ord_sold (hC : Cx A F r nB nl nb nx) (hS : SaI r nB nl nb nx L B Fi Se Mn Bu Pr nl) (hk : k < nl) (hO : Ord r nB L B Bu Fi nx k O) : g Bu k < nI 0 ↔ (O.length = 0 ∨ mWo r nB L (od O 0) < g r (58 + k)) := by
  have hnx : nx ≤ 60 := hC.1.1.2.2.2.2.2.2.2.2.2
  have hnb : nb ≤ 8 := hC.1.1.2.2.2.2.2.2.2.2.1
  have hf := (ord_fi hC hS hk hO).1
  rw [hS.2.2.2.2.2.2.1 k hk]
  unfold mSold
  by_cases c : 0 < O.length
  · rw [if_pos c] at hf
    obtain ⟨o1, o2, o3⟩ := ord_mem hO c
    obtain ⟨-, o5, o6⟩ := hC.1.2.2 _ o1
    rw [hf, nI_clamp (by omega)]
    by_cases d : mWo r nB L (od O 0) < g r (58 + k)
    · rw [cif_f (fun z => z.2 d)]
      exact ⟨fun _ => Or.inr d, fun _ => by decide⟩
    · rw [cif_t ⟨nI_pos (by omega), d⟩, o6]
      exact ⟨fun z => absurd z (nI_pos (by omega)), fun z => z.elim (fun z => by omega) (fun z => absurd z d)⟩
  · rw [if_neg c] at hf
    rw [hf, cif_f (fun z => z.1 (by decide))]
    exact ⟨fun _ => Or.inl (by omega), fun _ => by decide⟩
/-- the fate of a bid -/
theorem ord_fate (hC : Cx A F r nB nl nb nx) (hS : SaI r nB nl nb nx L B Fi Se Mn Bu Pr nl) (hk : k < nl) (hO : Ord r nB L B Bu Fi nx k O) {x : Nat} (hx : x < nx) (hxk : lotN r x = k) : (¬ cd2 r nB L Bu Fi nx x = nI 0 → mFa r nB L B Fi Bu x = cd2 r nB L Bu Fi nx x) ∧ ∀ p, p < O.length → od O p = x → mFa r nB L B Fi Bu x = if 0 < p then nI 7 else if mWo r nB L x < g r (58 + k) then nI 8 else nI 0 := by
  have hnx : nx ≤ 60 := hC.1.1.2.2.2.2.2.2.2.2.2
  have hb := best_iff hC hS hx
  rw [mFa_eq hC hS hx]
  refine ⟨fun h => ?_, fun p hp hpx => ?_⟩
  · by_cases c : mRe r nB L Bu Fi x = nI 0
    · rw [cif_t c, cif_f (fun z => h (hb.mpr z))]
      have : ∃ z, z < nx ∧ Btr r nB L Bu Fi z x := Classical.byContradiction fun z => h (cd2_0.mpr ⟨c, z⟩)
      unfold cd2
      rw [cif_t ⟨c, this⟩]
    · rw [cif_f c]
      unfold cd2
      rw [cif_f (fun z => c z.1)]
  · have hm := (ord_mem hO hp).2.2
    rw [hpx] at hm
    rw [cif_t (cd2_0.mp hm).1, cif_t (hb.mp hm), hxk, (ord_fi hC hS hk hO).1, if_pos (by omega)]
    by_cases c : 0 < p
    · rw [if_pos c, cif_f]
      intro z
      rw [nI_eq' (by have := (ord_mem hO (show 0 < O.length by omega)).1; omega) (by omega)] at z
      have := hO.2.1 0 p c hp
      rw [z, hpx] at this
      exact mAh_ne this rfl
    · have p0 : p = 0 := by omega
      subst p0
      rw [if_neg c, hpx, cif_t rfl]
      have hso := ord_sold hC hS hk hO
      rw [hpx] at hso
      by_cases d : mWo r nB L x < g r (58 + k)
      · rw [if_pos d, cif_t (hso.mpr (Or.inr d))]
      · rw [if_neg d, cif_f (fun z => (hso.mp z).elim (fun z => by omega) d)]
end K
end B

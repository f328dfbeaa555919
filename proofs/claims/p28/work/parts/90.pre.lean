/-! ONE MORE BID: what doesn't change -/
section U
variable {r : List Int32} {nB nl nb nx : Nat} {L B Fi Se Mn Bu Pr L' B' Fi' Se' Mn' Bu' Pr' : List Int32}
/-- the sale's arrays are determined as far as they are arrays of a sale -/
theorem SaI_uk (hM : Mwf r nB nl nb nx) {kk : Nat} (hkk : kk ≤ nl) (h : SaI r nB nl nb nx L B Fi Se Mn Bu Pr kk) (h' : SaI r nB nl nb nx L' B' Fi' Se' Mn' Bu' Pr' kk) : ∀ k, k ≤ kk → (∀ l, l ≤ k → ∀ b, b < nb → g L' (8 * l + b) = g L (8 * l + b)) ∧ (∀ l, l < k → (∀ b, b < 8 → g B' (8 * l + b) = g B (8 * l + b)) ∧ g Fi' l = g Fi l ∧ g Se' l = g Se l ∧ g Mn' l = g Mn l ∧ g Bu' l = g Bu l ∧ g Pr' l = g Pr l) := by
  have hnx : nx ≤ 60 := hM.1.2.2.2.2.2.2.2.2.2
  have hby : ∀ x, x < nx → byN r x < nb := fun x hx => (hM.2.2 x hx).2.1
  obtain ⟨s1, s2, s3, s4, s5, s6, s7, s8⟩ := h
  obtain ⟨t1, t2, t3, t4, t5, t6, t7, t8⟩ := h'
  intro k
  induction k with
  | zero =>
    intro _
    refine ⟨fun l hl b hb => ?_, fun l hl => absurd hl (Nat.not_lt_zero _)⟩
    have : l = 0 := by omega
    subst this
    rw [Nat.mul_zero, Nat.zero_add, s1 b hb, t1 b hb]
  | succ k ih =>
    intro hk
    obtain ⟨i1, i2⟩ := ih (by omega)
    have oL := i1 k (Nat.le_refl _)
    have hB : ∀ b, b < 8 → g B' (8 * k + b) = g B (8 * k + b) := fun b hb => by
      rw [s3 k (by omega) b hb, t3 k (by omega) b hb]
      exact mBs_c hnx hby oL (fun j hj => (i2 j hj).2.2.2.2.1) (fun j hj => (i2 j hj).2.1) b nx (Nat.le_refl _)
    have hOB : ∀ b, b < 8 → isL r nb nx k (g B (8 * k + b)) := fun b hb => by rw [s3 k (by omega) b hb]; exact mBs_isL hM _ _ _ _ _
    have hFi : g Fi' k = g Fi k := by rw [s4 k (by omega), t4 k (by omega)]; exact mRk_c hnx oL hB hOB _ 8 0 (by omega)
    have hSe : g Se' k = g Se k := by rw [s5 k (by omega), t5 k (by omega)]; exact mRk_c hnx oL hB hOB _ 8 0 (by omega)
    have hMn : g Mn' k = g Mn k := by rw [s6 k (by omega), t6 k (by omega), mMn_c hB 8 0 (by omega)]
    have hFiL : isL r nb nx k (g Fi k) := by rw [s4 k (by omega)]; exact mRk_isL hOB 8 0 (by omega)
    have hSeL : isL r nb nx k (g Se k) := by rw [s5 k (by omega)]; exact mRk_isL hOB 8 0 (by omega)
    have hsd := propext (mSold_c (nB := nB) hnx oL hFiL)
    have hBu : g Bu' k = g Bu k := by rw [s7 k (by omega), t7 k (by omega), hFi, hsd]
    have hPr : g Pr' k = g Pr k := by
      rw [s8 k (by omega), t8 k (by omega), hFi, hSe, hsd]
      by_cases c : mSold r nB L k (g Fi k)
      · rw [cif_t c, cif_t c, mPr_c hnx oL hFiL c.1 hSeL]
      · rw [cif_f c, cif_f c]
    refine ⟨fun l hl b hb => ?_, fun l hl => ?_⟩
    · rcases Nat.lt_or_ge l (k + 1) with z | z
      · exact i1 l (by omega) b hb
      · have : l = k + 1 := by omega
        subst this
        rw [s2 k (by omega) b hb, t2 k (by omega) b hb, oL b hb, hBu, hPr]
    · rcases Nat.lt_or_ge l k with z | z
      · exact i2 l z
      · have : l = k := by omega
        subst this
        exact ⟨hB, hFi, hSe, hMn, hBu, hPr⟩
end U
/-- r' is r with the further bid number nx -/
def Ext (r r' : List Int32) (nx : Nat) : Prop := (∀ j, j < 107 → g r' j = g r j) ∧ (∀ y, y < nx → g r' (108 + y) = g r (108 + y) ∧ g r' (168 + y) = g r (168 + y) ∧ g r' (228 + y) = g r (228 + y) ∧ g r' (288 + y) = g r (288 + y) ∧ g r' (348 + y) = g r (348 + y) ∧ g r' (408 + y) = g r (408 + y)) ∧ g r' 468 = g r 468
section E
variable {r r' : List Int32} {nB nl nb nx : Nat} {L B Fi Se Mn Bu Pr : List Int32}
theorem mBd_e (h : ∀ j, j < 107 → g r' j = g r j) (a : Int32) : ∀ n k, k + n ≤ 8 → mBd r' a n k = mBd r a n k := by
  intro n
  induction n with
  | zero => intro k _; rfl
  | succ n ih =>
    intro k hk
    rw [mBd_s, mBd_s, h _ (by omega), ih (k + 1) (by omega)]
theorem mBand_e (h : ∀ j, j < 107 → g r' j = g r j) (h1 : 1 ≤ nB) (h8 : nB ≤ 8) (a : Int32) : mBand r' nB a = mBand r nB a ∧ mBand r nB a < nB := ⟨mBd_e h a (nB - 1) 0 (by omega), mBand_lt r a h1⟩
theorem mFl_e (h : ∀ j, j < 107 → g r' j = g r j) (h1 : 1 ≤ nB) (h8 : nB ≤ 8) (a : Int32) : mFl r' nB a = mFl r nB a := by
  obtain ⟨e1, e2⟩ := mBand_e h h1 h8 a
  unfold mFl
  rw [e1, h _ (by omega), h _ (by omega)]
theorem mNx_e (h : ∀ j, j < 107 → g r' j = g r j) (h1 : 1 ≤ nB) (h8 : nB ≤ 8) (a : Int32) : mNx r' nB a = mNx r nB a := by
  obtain ⟨e1, e2⟩ := mBand_e h h1 h8 a
  unfold mNx
  rw [e1, mFl_e h h1 h8, h _ (by omega), h _ (by omega)]
theorem mCe_e (h : ∀ j, j < 107 → g r' j = g r j) (h1 : 1 ≤ nB) (h8 : nB ≤ 8) (a : Int32) : mCe r' nB a = mCe r nB a := by
  unfold mCe
  rw [mFl_e h h1 h8, mNx_e h h1 h8]
section Y
variable (hE : Ext r r' nx) (h1 : 1 ≤ nB) (h8 : nB ≤ 8)
theorem lotN_e (hE : Ext r r' nx) {y : Nat} (hy : y < nx) : lotN r' y = lotN r y := by unfold lotN; rw [(hE.2.1 y hy).1]
theorem byN_e (hE : Ext r r' nx) {y : Nat} (hy : y < nx) : byN r' y = byN r y := by unfold byN; rw [(hE.2.1 y hy).2.1]
theorem mWo_e (hE : Ext r r' nx) (h1 : 1 ≤ nB) (h8 : nB ≤ 8) {y : Nat} (hy : y < nx) : mWo r' nB L y = mWo r nB L y := by
  unfold mWo
  rw [lotN_e hE hy, byN_e hE hy, (hE.2.1 y hy).2.2.1, mFl_e hE.1 h1 h8]
theorem mAh_e (hE : Ext r r' nx) (h1 : 1 ≤ nB) (h8 : nB ≤ 8) {x y : Nat} (hx : x < nx) (hy : y < nx) : mAh r' nB L x y ↔ mAh r nB L x y := by
  unfold mAh
  rw [mWo_e hE h1 h8 hx, mWo_e hE h1 h8 hy, (hE.2.1 x hx).2.2.2.1, (hE.2.1 y hy).2.2.2.1]
theorem mLa_e (hE : Ext r r' nx) {y : Nat} (hy : y < nx) : mLa r' y ↔ mLa r y := by
  unfold mLa
  rw [hE.2.2, (hE.2.1 y hy).2.2.2.1]
theorem mSv_e (hE : Ext r r' nx) {y : Nat} (hy : y < nx) (hF : ∀ l, l < lotN r y → (g Fi l).toNatClampNeg < nx) : mSv r' Bu Fi y ↔ mSv r Bu Fi y := by
  unfold mSv
  rw [lotN_e hE hy, (hE.2.1 y hy).2.2.2.2.1]
  have e : ∀ l, l < lotN r y → mSv1 r' Bu Fi y l = mSv1 r Bu Fi y l := fun l hl => by
    unfold mSv1
    rw [(hE.2.1 y hy).2.1, (hE.2.1 _ (hF l hl)).2.2.2.2.1, (hE.2.1 y hy).2.2.2.2.1]
  constructor
  · rintro ⟨a, l, b, c⟩
    exact ⟨a, l, b, by rw [← e l b]; exact c⟩
  · rintro ⟨a, l, b, c⟩
    exact ⟨a, l, b, by rw [e l b]; exact c⟩
theorem mRe_e (hE : Ext r r' nx) (h1 : 1 ≤ nB) (h8 : nB ≤ 8) {y : Nat} (hy : y < nx) (hl : lotN r y < 20) (hF : ∀ l, l < lotN r y → (g Fi l).toNatClampNeg < nx) : mRe r' nB L Bu Fi y = mRe r nB L Bu Fi y := by
  unfold mRe
  rw [(hE.2.1 y hy).2.2.2.2.2, propext (mLa_e hE hy), lotN_e hE hy, hE.1 _ (by omega), propext (mSv_e hE hy hF), mWo_e hE h1 h8 hy, hE.1 _ (by omega)]
theorem mCo_e (hE : Ext r r' nx) (h1 : 1 ≤ nB) (h8 : nB ≤ 8) {y : Nat} (hy : y < nx) (hl : lotN r y < 20) (hF : ∀ l, l < lotN r y → (g Fi l).toNatClampNeg < nx) : mCo r' nB L Bu Fi y ↔ mCo r nB L Bu Fi y := by
  unfold mCo
  rw [(hE.2.1 y hy).2.2.2.2.2, propext (mLa_e hE hy), lotN_e hE hy, propext (mSv_e hE hy hF), mWo_e hE h1 h8 hy, hE.1 _ (by omega), mCe_e hE.1 h1 h8]
theorem mBs_e (hE : Ext r r' nx) (h1 : 1 ≤ nB) (h8 : nB ≤ 8) (hn : nx ≤ 60) {l b : Nat} (hl : l < 20) (hF : ∀ j, j < l → nx = 0 ∨ (g Fi j).toNatClampNeg < nx) : ∀ k, k ≤ nx → mBs r' nB L Bu Fi l b k = mBs r nB L Bu Fi l b k := by
  intro k
  induction k with
  | zero => intro _; rfl
  | succ k ih =>
    intro hk
    have hi := ih (by omega)
    rw [mBs_s, mBs_s, hi, lotN_e hE (by omega), byN_e hE (by omega), hE.1 _ (by omega), mWo_e hE h1 h8 (show k < nx by omega)]
    by_cases c : g r (78 + l) = nI 0 ∧ lotN r k = l ∧ byN r k = b
    · obtain ⟨c1, c2, c3⟩ := c
      have hc : mCo r' nB L Bu Fi k ↔ mCo r nB L Bu Fi k := mCo_e hE h1 h8 (by omega) (by omega) (fun j hj => (hF j (by omega)).resolve_left (by omega))
      rw [propext hc]
      rcases mBs_spec r nB L Bu Fi l b k with q | ⟨y, q1, q2, -⟩
      · have e : ∀ z : Int32, (mBs r nB L Bu Fi l b k < nI 0 ∨ z < mWo r nB L k) = True := by
          intro z; rw [q]; simp only [eq_iff_iff, iff_true]; exact Or.inl (by decide)
        rw [e, e]
      · have hy : (mBs r nB L Bu Fi l b k).toNatClampNeg < nx := by rw [q2, nI_clamp (by omega)]; omega
        rw [mWo_e hE h1 h8 hy]
    · rw [cif_f (fun z => c ⟨z.1, z.2.1, z.2.2.1⟩), cif_f (fun z => c ⟨z.1, z.2.1, z.2.2.1⟩)]
theorem mAb_e (hE : Ext r r' nx) (h1 : 1 ≤ nB) (h8 : nB ≤ 8) (hn : nx ≤ 60) {l x b : Nat} (hx : x < nx) (hB : isB (g B (8 * l + b)) nx) : mAb r' nB L B l x b ↔ mAb r nB L B l x b := by
  unfold mAb
  rcases hB with z | ⟨y, y1, y2⟩
  · rw [z]
    exact ⟨fun w => absurd (by decide) w.1, fun w => absurd (by decide) w.1⟩
  · rw [y2, nI_clamp (by omega), propext (mAh_e hE h1 h8 y1 hx)]
theorem mPl_e (hE : Ext r r' nx) (h1 : 1 ≤ nB) (h8 : nB ≤ 8) (hn : nx ≤ 60) {l x : Nat} (hx : x < nx) (hB : ∀ b, b < 8 → isB (g B (8 * l + b)) nx) : ∀ n b, b + n ≤ 8 → mPl r' nB L B l x n b = mPl r nB L B l x n b := by
  intro n
  induction n with
  | zero => intro b _; rfl
  | succ n ih =>
    intro b hb
    rw [mPl_s, mPl_s, ih (b + 1) (by omega), propext (mAb_e hE h1 h8 hn hx (hB b (by omega)))]
theorem mRk_e (hE : Ext r r' nx) (h1 : 1 ≤ nB) (h8 : nB ≤ 8) (hn : nx ≤ 60) {l : Nat} {p : Int32} (hB : ∀ b, b < 8 → isB (g B (8 * l + b)) nx) : ∀ n b, b + n ≤ 8 → mRk r' nB L B l p n b = mRk r nB L B l p n b := by
  intro n
  induction n with
  | zero => intro b _; rfl
  | succ n ih =>
    intro b hb
    rw [mRk_s, mRk_s, ih (b + 1) (by omega)]
    rcases hB b (by omega) with z | ⟨y, y1, y2⟩
    · rw [z, cif_f (fun w => w.1 (by decide)), cif_f (fun w => w.1 (by decide))]
    · rw [y2, nI_clamp (by omega), mPl_e hE h1 h8 hn y1 hB 8 0 (by omega)]
theorem mAs_e (hE : Ext r r' nx) (h1 : 1 ≤ nB) (h8 : nB ≤ 8) {l : Nat} (hl : l < 20) : mAs r' nB l = mAs r nB l := by
  unfold mAs
  rw [hE.1 _ (by omega), hE.1 _ (by omega), mCe_e hE.1 h1 h8]
theorem mSold_e (hE : Ext r r' nx) (h1 : 1 ≤ nB) (h8 : nB ≤ 8) (hn : nx ≤ 60) {l : Nat} (hl : l < 20) {v : Int32} (hv : isB v nx) : mSold r' nB L l v ↔ mSold r nB L l v := by
  unfold mSold
  rcases hv with z | ⟨y, y1, y2⟩
  · rw [z]
    exact ⟨fun w => absurd (by decide) w.1, fun w => absurd (by decide) w.1⟩
  · rw [y2, nI_clamp (by omega), mWo_e hE h1 h8 y1, hE.1 _ (by omega)]
theorem mPr_e (hE : Ext r r' nx) (h1 : 1 ≤ nB) (h8 : nB ≤ 8) (hn : nx ≤ 60) {l f : Nat} (hl : l < 20) (hf : f < nx) {v : Int32} (hv : isB v nx) : mPr r' nB L l (nI f) v = mPr r nB L l (nI f) v := by
  rcases hv with z | ⟨y, y1, y2⟩
  · rw [z, mPr_5 (by omega), mPr_5 (by omega), mWo_e hE h1 h8 hf, mAs_e hE h1 h8 hl]
  · rw [y2, mPr_y (by omega) (by omega), mPr_y (by omega) (by omega), mWo_e hE h1 h8 hf, mAs_e hE h1 h8 hl, mWo_e hE h1 h8 y1, mNx_e hE.1 h1 h8]
/-- the lots ahead of the new bid's are sold as without it -/
theorem SaI_e (hE : Ext r r' nx) (hM : Mwf r nB nl nb nx) (hM' : Mwf r' nB nl nb (nx + 1)) {l : Nat} (hl : l < nl) (hlot : lotN r' nx = l) (hS : SaI r' nB nl nb (nx + 1) L B Fi Se Mn Bu Pr nl) : SaI r nB nl nb nx L B Fi Se Mn Bu Pr l := by
  have hnl : nl ≤ 20 := hM.1.2.2.2.2.2.2.2.1
  have hnb : nb ≤ 8 := hM.1.2.2.2.2.2.2.2.2.1
  have hnx : nx ≤ 60 := hM.1.2.2.2.2.2.2.2.2.2
  have hnx' : nx + 1 ≤ 60 := hM'.1.2.2.2.2.2.2.2.2.2
  have h1 : 1 ≤ nB := hM.1.2.2.2.2.2.1
  have h8 : nB ≤ 8 := hM.1.2.2.2.2.2.2.1
  have bsl : ∀ k, k < l → ∀ b, b < 8 → isB (g B (8 * k + b)) nx := by
    intro k hk b hb
    rcases SaI_bs hM' hS (show k < nl by omega) b hb with z | ⟨y, y1, y2, y3, y4⟩
    · exact Or.inl z
    · refine Or.inr ⟨y, ?_, y2⟩
      by_cases c : y = nx
      · subst c; omega
      · omega
  have fil : ∀ k, k < l → isB (g Fi k) nx := fun k hk => by
    rw [hS.2.2.2.1 k (by omega)]
    exact mRk_isB (bsl k hk) 8 0 (by omega)
  have sel : ∀ k, k < l → isB (g Se k) nx := fun k hk => by
    rw [hS.2.2.2.2.1 k (by omega)]
    exact mRk_isB (bsl k hk) 8 0 (by omega)
  have hF : ∀ k, k < l → nx = 0 ∨ (g Fi k).toNatClampNeg < nx := fun k hk => by
    rcases fil k hk with z | ⟨y, y1, y2⟩
    · rw [z, show (-nI 5 : Int32).toNatClampNeg = 0 from rfl]; omega
    · rw [y2, nI_clamp (by omega)]; exact Or.inr y1
  refine ⟨fun b hb => ?_, fun k hk => hS.2.1 k (by omega), fun k hk b hb => ?_, fun k hk => ?_, fun k hk => ?_, fun k hk => hS.2.2.2.2.2.1 k (by omega), fun k hk => ?_, fun k hk => ?_⟩
  · rw [hS.1 b hb, hE.1 _ (by omega)]
  · rw [hS.2.2.1 k (by omega) b hb, mBs_s, cif_f (fun z => by have := z.2.1; omega)]
    exact mBs_e hE h1 h8 hnx (by omega) (fun j hj => hF j (by omega)) nx (Nat.le_refl _)
  · rw [hS.2.2.2.1 k (by omega)]; exact mRk_e hE h1 h8 hnx (bsl k hk) 8 0 (by omega)
  · rw [hS.2.2.2.2.1 k (by omega)]; exact mRk_e hE h1 h8 hnx (bsl k hk) 8 0 (by omega)
  · rw [hS.2.2.2.2.2.2.1 k (by omega), propext (mSold_e hE h1 h8 hnx (show k < 20 by omega) (fil k hk))]
    by_cases c : mSold r nB L k (g Fi k)
    · rw [cif_t c, cif_t c]
      rcases fil k hk with z | ⟨y, y1, y2⟩
      · exact absurd (by rw [z]; decide) c.1
      · rw [y2, nI_clamp (by omega), (hE.2.1 y y1).2.1]
    · rw [cif_f c, cif_f c]
  · rw [hS.2.2.2.2.2.2.2 k (by omega), propext (mSold_e hE h1 h8 hnx (show k < 20 by omega) (fil k hk))]
    by_cases c : mSold r nB L k (g Fi k)
    · rw [cif_t c, cif_t c]
      rcases fil k hk with z | ⟨y, y1, y2⟩
      · exact absurd (by rw [z]; decide) c.1
      · rw [y2, mPr_e hE h1 h8 hnx (by omega) y1 (sel k hk)]
    · rw [cif_f c, cif_f c]
end Y
end E

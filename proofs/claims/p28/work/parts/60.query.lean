/-! WHAT IS TOLD OF THE SALE -/
section H
variable {A : Nat → List Int32} {F : Nat → Int32} {P : Nat → Nat} {r : List Int32} {nB nl nb nx q t : Nat} {L B Fi Se Mn Bu Pr : List Int32}
theorem SaI_bs (hM : Mwf r nB nl nb nx) (hS : SaI r nB nl nb nx L B Fi Se Mn Bu Pr nl) {k : Nat} (hk : k < nl) : ∀ b, b < 8 → isL r nb nx k (g B (8 * k + b)) := fun b hb => by rw [hS.2.2.1 k hk b hb]; exact mBs_isL hM _ _ _ _ _
theorem SaI_fi (hM : Mwf r nB nl nb nx) (hS : SaI r nB nl nb nx L B Fi Se Mn Bu Pr nl) {l b : Nat} (hl : l < nl) (hb : b < 2 ^ 31) (h : g Bu l = nI b) : ∃ f, f < nx ∧ g Fi l = nI f ∧ lotN r f = l ∧ byN r f = b ∧ mSold r nB L l (g Fi l) ∧ g Pr l = mPr r nB L l (nI f) (g Se l) := by
  have hnx : nx ≤ 60 := hM.1.2.2.2.2.2.2.2.2.2
  have hnb : nb ≤ 8 := hM.1.2.2.2.2.2.2.2.2.1
  have hOB := SaI_bs hM hS hl
  obtain ⟨s1, s2, s3, s4, s5, s6, s7, s8⟩ := hS
  have h5 : (-nI 5 : Int32) < nI 0 := by decide
  have hFiL : isL r nb nx l (g Fi l) := by rw [s4 l hl]; exact mRk_isL hOB 8 0 (by omega)
  by_cases c : mSold r nB L l (g Fi l)
  · rcases hFiL with z | ⟨f, f1, f2, f3, f4⟩
    · exact absurd (by rw [z]; exact h5) c.1
    · refine ⟨f, f1, f2, f3, ?_, c, by rw [s8 l hl, cif_t c, f2]⟩
      rw [s7 l hl, cif_t c, f2, nI_clamp (by omega), (hM.2.2 f f1).2.2, nI_eq' (by omega) hb] at h
      exact h
  · rw [s7 l hl, cif_f c] at h
    exact absurd h.symm (nI_nm5 hb)
theorem SaI_bu (hM : Mwf r nB nl nb nx) (hS : SaI r nB nl nb nx L B Fi Se Mn Bu Pr nl) {l : Nat} (hl : l < nl) : (g Bu l = -nI 5 ∧ g Pr l = nI 0) ∨ ∃ b, b < nb ∧ g Bu l = nI b := by
  have hnx : nx ≤ 60 := hM.1.2.2.2.2.2.2.2.2.2
  have hOB := SaI_bs hM hS hl
  obtain ⟨s1, s2, s3, s4, s5, s6, s7, s8⟩ := hS
  have hFiL : isL r nb nx l (g Fi l) := by rw [s4 l hl]; exact mRk_isL hOB 8 0 (by omega)
  have h5 : (-nI 5 : Int32) < nI 0 := by decide
  by_cases c : mSold r nB L l (g Fi l)
  · rcases hFiL with z | ⟨f, f1, f2, f3, f4⟩
    · exact absurd (by rw [z]; exact h5) c.1
    · refine Or.inr ⟨byN r f, f4, ?_⟩
      rw [s7 l hl, cif_t c, f2, nI_clamp (by omega), (hM.2.2 f f1).2.2]
  · exact Or.inl ⟨by rw [s7 l hl, cif_f c], by rw [s8 l hl, cif_f c]⟩
theorem SaI_pr (hC : Cx A F r nB nl nb nx) (hS : SaI r nB nl nb nx L B Fi Se Mn Bu Pr nl) {l : Nat} (hl : l < nl) : rg (g Pr l) 0 1000000 := by
  have hM := hC.1
  have hnb : nb ≤ 8 := hM.1.2.2.2.2.2.2.2.2.1
  rcases SaI_bu hM hS hl with ⟨-, z⟩ | ⟨b, hb, z⟩
  · rw [z]; exact ⟨0, by omega, by omega, rfl⟩
  · obtain ⟨f, f1, f2, f3, f4, f5, f6⟩ := SaI_fi hM hS hl (by omega) z
    have hSeL : isL r nb nx l (g Se l) := by rw [hS.2.2.2.2.1 l hl]; exact mRk_isL (SaI_bs hM hS hl) 8 0 (by omega)
    obtain ⟨w, p, h1, h2, h3, h4⟩ := mPr_N (v := g Se l) hC hl f1 f3 hSeL (SaI_left hC hS l (by omega))
    rw [f6, h4]
    exact ⟨p, by omega, by omega, rfl⟩
/-- a withdrawn lot isn't sold -/
theorem SaI_aw (hM : Mwf r nB nl nb nx) (hS : SaI r nB nl nb nx L B Fi Se Mn Bu Pr nl) {l : Nat} (hl : l < nl) (h : g r (78 + l) = nI 1) : g Bu l = -nI 5 := by
  have hnb : nb ≤ 8 := hM.1.2.2.2.2.2.2.2.2.1
  rcases SaI_bu hM hS hl with ⟨z, -⟩ | ⟨b, hb, z⟩
  · exact z
  · obtain ⟨f, f1, f2, f3, f4, f5, f6⟩ := SaI_fi hM hS hl (by omega) z
    have hOB := SaI_bs hM hS hl
    have h5 : (-nI 5 : Int32) < nI 0 := by decide
    exfalso
    have hall : ∀ b, b < 8 → g B (8 * l + b) < nI 0 := fun b hb => by
      rw [hS.2.2.1 l hl b hb]
      rcases mBs_spec r nB L Bu Fi l b nx with z | ⟨y, y1, y2, y3, y4⟩
      · rw [z]; exact h5
      · rw [h] at y3
        exact absurd y3 (by decide)
    have e : mRk r nB L B l (nI 0) 8 0 = -nI 5 := mRk_none 8 0 (fun j _ hj hc => absurd (hall j (by omega)) hc)
    rw [← hS.2.2.2.1 l hl, f2] at e
    exact nI_nm5 (by have := hM.1.2.2.2.2.2.2.2.2.2; omega) e
theorem cl_bid (hC : Cx A F r nB nl nb nx) (hW : LenW A) (hS : SaI r nB nl nb nx L B Fi Se Mn Bu Pr nl) (hK : ClS A r nB nl nx L B Fi Se Mn Bu Pr nl) {k p : Nat} (hk : k < nl) (hp : p < 2 ^ 31) : am_cl m_Sale_bidAt [.ref 164, .int (nI k), .int (nI p)] (heap A F P) = some (some (.int (mRk r nB L B k (nI p) 8 0)), heap A F P) := by
  obtain ⟨d1, d2, d3, d4, d5, d6⟩ := hK.1 k hk
  have e := hS.2.2.2.2.2.1 k hk
  have hm8 := mMn_le8 (B := B) (l := k)
  refine cs_bidAt hC hW hk (fun b hb => (SaI_bs hC.1 hS hk b hb).isB) (by rw [d4, e]) (fun p hp => d6 p (by rw [e, nI_lt' (by omega) (by omega)]; exact hp) (by omega)) hp
end H
section X
variable {A : Nat → List Int32} {F : Nat → Int32} {P : Nat → Nat} {nB nl nb nx q t : Nat}
end X

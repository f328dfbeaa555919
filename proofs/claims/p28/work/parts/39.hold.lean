def up7 (A : Nat → List Int32) (L B Fi Se Mn Bu Pr : List Int32) : Nat → List Int32 := up (up (up (up (up (up (up A 199 L) 200 B) 201 Fi) 202 Se) 203 Mn) 204 Bu) 205 Pr
theorem g_eq_set {l l' : List Int32} {k : Nat} {v : Int32} (hk : k < l.length) (h : l' = l.set k v) (j : Nat) (hj : j ≠ k) : g l' j = g l j := by rw [h]; exact g_sne hk hj
/-- one more lot -/
theorem SaI_succ {r : List Int32} {nB nl nb nx : Nat} (hM : Mwf r nB nl nb nx) {L B Fi Se Mn Bu Pr : List Int32} {k : Nat} (hk : k < nl) (hS : SaI r nB nl nb nx L B Fi Se Mn Bu Pr k) (hLn : SaL L B Fi Se Mn Bu Pr) {B' L' : List Int32} (hF : FbI r nB L Bu Fi B B' k nx) (hL' : L'.length = 168) (hL1 : ∀ j, j < 8 * (k + 1) → g L' j = g L j) (hL2 : ∀ b, b < nb → g L' (8 * (k + 1) + b) = g L (8 * k + b) - cif (g (Bu.set k (cif (mSold r nB L k (mRk r nB L B' k (nI 0) 8 0)) (g r (168 + (mRk r nB L B' k (nI 0) 8 0).toNatClampNeg)) (-nI 5))) k = nI b) (g (Pr.set k (cif (mSold r nB L k (mRk r nB L B' k (nI 0) 8 0)) (mPr r nB L k (mRk r nB L B' k (nI 0) 8 0) (mRk r nB L B' k (nI 1) 8 0)) (nI 0))) k) (nI 0)) :
    SaI r nB nl nb nx L' B' (Fi.set k (mRk r nB L B' k (nI 0) 8 0)) (Se.set k (mRk r nB L B' k (nI 1) 8 0)) (Mn.set k (nI (mMn B' k 8 0))) (Bu.set k (cif (mSold r nB L k (mRk r nB L B' k (nI 0) 8 0)) (g r (168 + (mRk r nB L B' k (nI 0) 8 0).toNatClampNeg)) (-nI 5))) (Pr.set k (cif (mSold r nB L k (mRk r nB L B' k (nI 0) 8 0)) (mPr r nB L k (mRk r nB L B' k (nI 0) 8 0) (mRk r nB L B' k (nI 1) 8 0)) (nI 0))) (k + 1) := by
  obtain ⟨n1, n2, n3, n4, n5, n6, n7⟩ := hLn
  obtain ⟨s1, s2, s3, s4, s5, s6, s7, s8⟩ := hS
  have hnx : nx ≤ 60 := hM.1.2.2.2.2.2.2.2.2.2
  have hnl : nl ≤ 20 := hM.1.2.2.2.2.2.2.2.1
  have hnb : nb ≤ 8 := hM.1.2.2.2.2.2.2.2.2.1
  have hby : ∀ x, x < nx → byN r x < nb := fun x hx => (hM.2.2 x hx).2.1
  obtain ⟨f1, f2, f3⟩ := hF
  generalize hfi : mRk r nB L B' k (nI 0) 8 0 = fi at *
  generalize hse : mRk r nB L B' k (nI 1) 8 0 = se at *
  generalize hbu : cif (mSold r nB L k fi) (g r (168 + fi.toNatClampNeg)) (-nI 5) = bu at *
  generalize hpr : cif (mSold r nB L k fi) (mPr r nB L k fi se) (nI 0) = pr at *
  -- rows below k
  have oL : ∀ l, l ≤ k → ∀ b, b < nb → g L' (8 * l + b) = g L (8 * l + b) := fun l hl b hb => hL1 _ (by omega)
  have oB : ∀ l, l < k → ∀ b, b < 8 → g B' (8 * l + b) = g B (8 * l + b) := fun l hl b hb => f3 _ (Or.inl (by omega))
  have oBu : ∀ j, j ≠ k → g (Bu.set k bu) j = g Bu j := fun j hj => g_sne (by omega) hj
  have oFi : ∀ j, j ≠ k → g (Fi.set k fi) j = g Fi j := fun j hj => g_sne (by omega) hj
  have hOB : ∀ l, l < k → ∀ b, b < 8 → isL r nb nx l (g B (8 * l + b)) := fun l hl b hb => by rw [s3 l hl b hb]; exact mBs_isL hM _ _ _ _ _
  have hOB' : ∀ b, b < 8 → isL r nb nx k (g B' (8 * k + b)) := fun b hb => by rw [f2 b hb]; exact mBs_isL hM _ _ _ _ _
  have hfiL : isL r nb nx k fi := by rw [← hfi]; exact mRk_isL hOB' 8 0 (by omega)
  have hseL : isL r nb nx k se := by rw [← hse]; exact mRk_isL hOB' 8 0 (by omega)
  have hFiL : ∀ l, l < k → isL r nb nx l (g Fi l) := fun l hl => by rw [s4 l hl]; exact mRk_isL (hOB l hl) 8 0 (by omega)
  have hSeL : ∀ l, l < k → isL r nb nx l (g Se l) := fun l hl => by rw [s5 l hl]; exact mRk_isL (hOB l hl) 8 0 (by omega)
  refine ⟨fun b hb => ?_, fun l hl b hb => ?_, fun l hl b hb => ?_, fun l hl => ?_, fun l hl => ?_, fun l hl => ?_, fun l hl => ?_, fun l hl => ?_⟩
  · rw [hL1 b (by omega)]; exact s1 b hb
  · rcases Nat.lt_or_ge l k with q | q
    · rw [hL1 _ (by omega), hL1 _ (by omega), oBu l (by omega), g_sne (by omega) (by omega)]
      exact s2 l q b hb
    · have : l = k := by omega
      subst this
      rw [hL2 b hb, hL1 _ (by omega)]
  · rcases Nat.lt_or_ge l k with q | q
    · rw [oB l q b hb, s3 l q b hb]
      exact (mBs_c hnx hby (oL l (by omega)) (fun j hj => oBu j (by omega)) (fun j hj => oFi j (by omega)) b nx (Nat.le_refl _)).symm
    · have : l = k := by omega
      subst this
      rw [f2 b hb]
      exact (mBs_c hnx hby (oL l (by omega)) (fun j hj => oBu j (by omega)) (fun j hj => oFi j (by omega)) b nx (Nat.le_refl _)).symm
  · rcases Nat.lt_or_ge l k with q | q
    · rw [oFi l (by omega), s4 l q]
      exact (mRk_c hnx (oL l (by omega)) (oB l q) (hOB l q) _ 8 0 (by omega)).symm
    · have : l = k := by omega
      subst this
      rw [g_seq (by omega), ← hfi]
      exact (mRk_c hnx (oL l (by omega)) (fun _ _ => rfl) hOB' _ 8 0 (by omega)).symm
  · rcases Nat.lt_or_ge l k with q | q
    · rw [g_sne (by omega) (by omega), s5 l q]
      exact (mRk_c hnx (oL l (by omega)) (oB l q) (hOB l q) _ 8 0 (by omega)).symm
    · have : l = k := by omega
      subst this
      rw [g_seq (by omega), ← hse]
      exact (mRk_c hnx (oL l (by omega)) (fun _ _ => rfl) hOB' _ 8 0 (by omega)).symm
  · rcases Nat.lt_or_ge l k with q | q
    · rw [g_sne (by omega) (by omega), s6 l q, mMn_c (oB l q) 8 0 (by omega)]
    · have : l = k := by omega
      subst this
      rw [g_seq (by omega)]
  · rcases Nat.lt_or_ge l k with q | q
    · rw [oBu l (by omega), oFi l (by omega), propext (mSold_c hnx (oL l (by omega)) (hFiL l q))]
      exact s7 l q
    · have : l = k := by omega
      subst this
      rw [g_seq (by omega), g_seq (by omega), propext (mSold_c hnx (oL l (by omega)) hfiL)]
      exact hbu.symm
  · rcases Nat.lt_or_ge l k with q | q
    · rw [g_sne (by omega) (by omega), oFi l (by omega), g_sne (l := Se) (by omega) (by omega), propext (mSold_c hnx (oL l (by omega)) (hFiL l q)), s8 l q]
      by_cases c : mSold r nB L l (g Fi l)
      · rw [cif_t c, cif_t c, mPr_c hnx (oL l (by omega)) (hFiL l q) c.1 (hSeL l q)]
      · rw [cif_f c, cif_f c]
    · have : l = k := by omega
      subst this
      rw [g_seq (by omega), g_seq (by omega), g_seq (by omega), propext (mSold_c hnx (oL l (by omega)) hfiL), ← hpr]
      by_cases c : mSold r nB L l fi
      · rw [cif_t c, cif_t c, mPr_c hnx (oL l (by omega)) hfiL c.1 hseL]
      · rw [cif_f c, cif_f c]
section M
variable {A : Nat → List Int32} {F : Nat → Int32} {P : Nat → Nat} {nB nl nb nx : Nat}
end M

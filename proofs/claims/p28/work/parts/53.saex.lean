/-! THE SALE'S ARRAYS: there are some for every row -/
def mkl (n : Nat) (f : Nat → Int32) : List Int32 := (List.range n).map f
theorem mkl_len (n : Nat) (f : Nat → Int32) : (mkl n f).length = n := by simp [mkl]
theorem g_mkl {n : Nat} {f : Nat → Int32} {j : Nat} (h : j < n) : g (mkl n f) j = f j := by
  unfold g mkl
  rw [List.getD_eq_getElem?_getD, List.getElem?_map, List.getElem?_range h]
  rfl
section S
variable {r : List Int32} {nB nl nb nx : Nat}
theorem SaI_go (hM : Mwf r nB nl nb nx) : ∀ n k (L B Fi Se Mn Bu Pr : List Int32), k + n = nl → SaL L B Fi Se Mn Bu Pr → SaI r nB nl nb nx L B Fi Se Mn Bu Pr k → ∃ L' B' Fi' Se' Mn' Bu' Pr' : List Int32, SaL L' B' Fi' Se' Mn' Bu' Pr' ∧ SaI r nB nl nb nx L' B' Fi' Se' Mn' Bu' Pr' nl := by
  have hnl : nl ≤ 20 := hM.1.2.2.2.2.2.2.2.1
  have hnb : nb ≤ 8 := hM.1.2.2.2.2.2.2.2.2.1
  intro n
  induction n with
  | zero =>
    intro k L B Fi Se Mn Bu Pr hk hL hS
    have hkn : k = nl := by omega
    subst hkn
    exact ⟨L, B, Fi, Se, Mn, Bu, Pr, hL, hS⟩
  | succ n ih =>
    intro k L B Fi Se Mn Bu Pr hk hL hS
    have hFb : FbI r nB L Bu Fi B (mkl 160 (fun j => if 8 * k ≤ j ∧ j < 8 * k + 8 then mBs r nB L Bu Fi k (j - 8 * k) nx else g B j)) k nx := by
      refine ⟨mkl_len _ _, fun j hj => ?_, fun j hj => ?_⟩
      · rw [g_mkl (by omega), if_pos (by omega), Nat.add_sub_cancel_left]
      · by_cases h : j < 160
        · rw [g_mkl h, if_neg (by omega)]
        · unfold g
          rw [List.getD_eq_getElem?_getD, List.getD_eq_getElem?_getD, List.getElem?_eq_none (by rw [mkl_len]; omega), List.getElem?_eq_none (by rw [hL.2.1]; omega)]
    generalize mkl 160 (fun j => if 8 * k ≤ j ∧ j < 8 * k + 8 then mBs r nB L Bu Fi k (j - 8 * k) nx else g B j) = B' at hFb
    have hsuc := fun L' hL' => SaI_succ (L' := L') hM (show k < nl by omega) hS hL hFb hL'
    generalize mRk r nB L B' k (nI 0) 8 0 = fi at hsuc
    generalize mRk r nB L B' k (nI 1) 8 0 = se at hsuc
    generalize cif (mSold r nB L k fi) (g r (168 + fi.toNatClampNeg)) (-nI 5) = bu at hsuc
    generalize cif (mSold r nB L k fi) (mPr r nB L k fi se) (nI 0) = pr at hsuc
    have hsuc := hsuc (mkl 168 (fun j => if j < 8 * (k + 1) then g L j else g L (8 * k + (j - 8 * (k + 1))) - cif (g (Bu.set k bu) k = nI (j - 8 * (k + 1))) (g (Pr.set k pr) k) (nI 0))) (mkl_len _ _) (fun j hj => by rw [g_mkl (by omega), if_pos hj]) (fun b hb => by rw [g_mkl (by omega), if_neg (by omega), Nat.add_sub_cancel_left])
    refine ih (k + 1) _ _ _ _ _ _ _ (by omega) ⟨mkl_len _ _, hFb.1, ?_, ?_, ?_, ?_, ?_⟩ hsuc
    · rw [List.length_set]; exact hL.2.2.1
    · rw [List.length_set]; exact hL.2.2.2.1
    · rw [List.length_set]; exact hL.2.2.2.2.1
    · rw [List.length_set]; exact hL.2.2.2.2.2.1
    · rw [List.length_set]; exact hL.2.2.2.2.2.2
theorem SaI_ex (hM : Mwf r nB nl nb nx) : ∃ L B Fi Se Mn Bu Pr : List Int32, SaL L B Fi Se Mn Bu Pr ∧ SaI r nB nl nb nx L B Fi Se Mn Bu Pr nl := by
  have hnb : nb ≤ 8 := hM.1.2.2.2.2.2.2.2.2.1
  exact SaI_go hM nl 0 (mkl 168 (fun j => g r (99 + j))) (List.replicate 160 0) (List.replicate 20 0) (List.replicate 20 0) (List.replicate 20 0) (List.replicate 20 0) (List.replicate 20 0) (by omega) ⟨mkl_len _ _, by simp, by simp, by simp, by simp, by simp, by simp⟩ ⟨fun b hb => g_mkl (by omega), fun l hl => by omega, fun l hl => by omega, fun l hl => by omega, fun l hl => by omega, fun l hl => by omega, fun l hl => by omega, fun l hl => by omega⟩
end S

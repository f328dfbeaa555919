/-! THE AMOUNT THAT IS NEEDED: the new bid buys where its worth reaches what the others ask -/
section K
variable {r r' : List Int32} {nB nl nb nx : Nat} {L B Fi Se Mn Bu Pr L' B' Fi' Se' Mn' Bu' Pr' : List Int32} {A A' : Nat → List Int32} {F F' : Nat → Int32}
/-- the best bid of a bidder for a lot is not below another of his -/
theorem best_of (hC : Cx A F r nB nl nb nx) (hS : SaI r nB nl nb nx L B Fi Se Mn Bu Pr nl) {z : Nat} (hz : z < nx) (h0 : mRe r nB L Bu Fi z = nI 0) : ∃ y, y < nx ∧ lotN r y = lotN r z ∧ byN r y = byN r z ∧ cd2 r nB L Bu Fi nx y = nI 0 ∧ (mWo r nB L z).toInt ≤ (mWo r nB L y).toInt := by
  have hnx : nx ≤ 60 := hC.1.1.2.2.2.2.2.2.2.2.2
  have hnb : nb ≤ 8 := hC.1.1.2.2.2.2.2.2.2.2.1
  obtain ⟨⟨x1, x2⟩, x3, x4⟩ := hC.1.2.2 z hz
  have hc := (mRe_cand hC hS hz).mp h0
  rcases mBs_max (r := r) (nB := nB) (L := L) (Bu := Bu) (Fi := Fi) hnx (lotN r z) (byN r z) nx (Nat.le_refl _) with ⟨m1, m2⟩ | ⟨y, y1, y2, y3, y4⟩
  · exact absurd hc (m2 z hz)
  · refine ⟨y, y1, y3.2.1, y3.2.2.1, (best_iff hC hS y1).mpr ?_, ?_⟩
    · rw [y3.2.1, y3.2.2.1, hS.2.2.1 _ x1 _ (by omega)]
      exact y2
    · by_cases e : z = y
      · rw [e]; exact Int.le_refl _
      · have := y4 z hz hc e
        omega
theorem mAh_N {x y w wy : Nat} (hx : mWo r nB L x = nI w) (hy : mWo r nB L y = nI wy) (hw : w < 2 ^ 31) (hwy : wy < 2 ^ 31) : mAh r nB L x y ↔ if w = wy then (if g r (288 + x) = g r (288 + y) then x < y else g r (288 + x) < g r (288 + y)) else wy < w := by
  unfold mAh
  rw [hx, hy]
  by_cases e : w = wy
  · rw [if_pos (congrArg nI e), if_pos e]
  · rw [if_neg (fun z => e ((nI_eq' hw hwy).mp z)), if_neg e, nI_lt' hwy hw]
/-- what is known of the new bid -/
def NewB (r r' : List Int32) (nx l b : Nat) (a m : Int32) : Prop := Ext r r' nx ∧ lotN r' nx = l ∧ byN r' nx = b ∧ g r' (228 + nx) = a ∧ g r' (288 + nx) = m ∧ g r' (348 + nx) = nI 0 ∧ g r' (408 + nx) = nI 0
theorem key_bad {l b : Nat} {a m : Int32} (hN : NewB r r' nx l b a m) (hl : l < 20) (h : g r 468 < m ∨ g r (78 + l) = nI 1) : ¬ mFa r' nB L' B' Fi' Bu' nx = nI 0 := by
  obtain ⟨hE, n1, n2, n3, n4, n5, n6⟩ := hN
  unfold mFa
  rw [n6, cif_f (by decide)]
  by_cases c : mLa r' nx
  · rw [cif_t c]; decide
  · rw [cif_f c, n1, hE.1 _ (by omega)]
    rcases h with z | z
    · exact absurd (by unfold mLa; rw [hE.2.2, n4]; exact z) c
    · rw [cif_t z]; decide
theorem key (hC : Cx A F r nB nl nb nx) (hS : SaI r nB nl nb nx L B Fi Se Mn Bu Pr nl) (hC' : Cx A' F' r' nB nl nb (nx + 1)) (hS' : SaI r' nB nl nb (nx + 1) L' B' Fi' Se' Mn' Bu' Pr' nl) {l b am q m1 s e : Nat} {a m : Int32} {O : List Nat} (hN : NewB r r' nx l b a m) (hl : l < nl) (hb : b < nb) (ham : a = nI am) (ham6 : am ≤ 1000000) (hq : g L (8 * l + b) = nI q) (hq7 : q ≤ 10000000) (hnl : ¬ g r 468 < m) (haw : ¬ g r (78 + l) = nI 1) (hO : Ord r nB L B Bu Fi nx l O) (hs : g r (38 + l) = nI s) (he : g r (58 + l) = nI e) (hs6 : s ≤ 1000000) (he6 : e ≤ 1000000) (hM1 : MaxOf (fun y => y ∈ O) (vB r nB L b m) (ceN r nB (if s < e then e else s)) m1) : mFa r' nB L' B' Fi' Bu' nx = nI 0 ↔ m1 ≤ flN r nB (if q < am then q else am) := by
  have hM := hC.1
  have hM' := hC'.1
  have hB := hC.2.1
  have hnl20 : nl ≤ 20 := hM.1.2.2.2.2.2.2.2.1
  have hnb8 : nb ≤ 8 := hM.1.2.2.2.2.2.2.2.2.1
  have hnx : nx ≤ 60 := hM.1.2.2.2.2.2.2.2.2.2
  have hnx' : nx + 1 ≤ 60 := hM'.1.2.2.2.2.2.2.2.2.2
  have h1 : 1 ≤ nB := hM.1.2.2.2.2.2.1
  have h8 : nB ≤ 8 := hM.1.2.2.2.2.2.2.1
  obtain ⟨hE, n1, n2, n3, n4, n5, n6⟩ := id hN
  -- the arrays ahead
  have hSe := SaI_e hE hM hM' hl n1 hS'
  have hSl : SaI r nB nl nb nx L B Fi Se Mn Bu Pr l := ⟨hS.1, fun k hk => hS.2.1 k (by omega), fun k hk => hS.2.2.1 k (by omega), fun k hk => hS.2.2.2.1 k (by omega), fun k hk => hS.2.2.2.2.1 k (by omega), fun k hk => hS.2.2.2.2.2.1 k (by omega), fun k hk => hS.2.2.2.2.2.2.1 k (by omega), fun k hk => hS.2.2.2.2.2.2.2 k (by omega)⟩
  obtain ⟨i1, i2⟩ := SaI_uk hM (by omega) hSl hSe l (Nat.le_refl _)
  have oL := i1 l (Nat.le_refl _)
  have oBu : ∀ j, j < l → g Bu' j = g Bu j := fun j hj => (i2 j hj).2.2.2.2.1
  have oFi : ∀ j, j < l → g Fi' j = g Fi j := fun j hj => (i2 j hj).2.1
  have hFx : ∀ k, k < l → nx = 0 ∨ (g Fi' k).toNatClampNeg < nx := fun k hk => by
    have hfl : isB (g Fi k) nx := by
      rw [hS.2.2.2.1 k (by omega)]
      exact mRk_isB (fun b hb => (SaI_bs hM hS (by omega) b hb).isB) 8 0 (by omega)
    rw [oFi k hk]
    rcases hfl with z | ⟨y, y1, y2⟩
    · rw [z, show (-nI 5 : Int32).toNatClampNeg = 0 from rfl]; omega
    · rw [y2, nI_clamp (by omega)]; exact Or.inr y1
  -- an old bid of the lot
  have oM : ∀ y, y < nx → lotN r y = l → mWo r nB L' y = mWo r nB L y := fun y hy hyl => mWo_c (by rw [hyl]; exact oL _ (hM.2.2 y hy).2.1)
  have oW : ∀ y, y < nx → lotN r y = l → mWo r' nB L' y = mWo r nB L y := fun y hy hyl => by
    rw [mWo_e hE h1 h8 hy]
    exact oM y hy hyl
  have oR : ∀ y, y < nx → lotN r y = l → mRe r' nB L' Bu' Fi' y = mRe r nB L Bu Fi y := fun y hy hyl => by
    rw [mRe_e hE h1 h8 hy (by omega) (fun j hj => (hFx j (by omega)).resolve_left (by omega))]
    unfold mRe
    have hsv : mSv r Bu' Fi' y ↔ mSv r Bu Fi y := mSv_c (by rw [hyl]; exact oBu) (by rw [hyl]; exact oFi)
    rw [oM y hy hyl, propext hsv]
  have ol : ∀ y, y < nx → (lotN r' y = lotN r y ∧ byN r' y = byN r y ∧ g r' (288 + y) = g r (288 + y)) := fun y hy => ⟨lotN_e hE hy, byN_e hE hy, (hE.2.1 y hy).2.2.2.1⟩
  -- the new bid's worth
  have hWn : mWo r' nB L' nx = nI (flN r nB (if q < am then q else am)) := by
    unfold mWo
    rw [n1, n2, oL b hb, hq, n3, ham, mFl_e hE.1 h1 h8, ← mFl_N hB (by split <;> omega)]
    congr 1
    have hle : nI q ≤ nI am ↔ q ≤ am := by rw [nI_le' (by omega) (by omega)]
    by_cases c : q < am
    · rw [if_pos c, if_pos (hle.mpr (by omega))]
    · rw [if_neg c]
      by_cases d : q ≤ am
      · rw [if_pos (hle.mpr d)]; exact congrArg nI (by omega)
      · rw [if_neg (fun z => d (hle.mp z))]
  have hWv := vld_fl hB (a := if q < am then q else am) (by split <;> omega)
  have hWce := fun t ht => worth_ceil hB (a := if q < am then q else am) (s := t) (by split <;> omega) ht
  have hWle := flN_le hB (a := if q < am then q else am) (by split <;> omega)
  generalize hw : flN r nB (if q < am then q else am) = w at hWn hWv hWce hWle ⊢
  have hw6 : w ≤ 1000000 := by
    have : (if q < am then q else am) ≤ 1000000 := by split <;> omega
    omega
  -- an old bid's worth
  have oN : ∀ y, y < nx → lotN r y = l → ∃ wy, mWo r nB L y = nI wy ∧ wy ≤ 1000000 ∧ ((¬ byN r y = b ∧ m < g r (288 + y)) → vB r nB L b m y = nI wy) ∧ (¬ (¬ byN r y = b ∧ m < g r (288 + y)) → vB r nB L b m y = nI (nxN r nB wy)) ∧ nxN r nB wy ≤ 1100000 ∧ wy < nxN r nB wy := fun y hy hyl => by
    obtain ⟨wy, n, f1, f2, f3, f4, f5, f6, f7⟩ := vB_N (b := b) (v := m) hC hS hy
    refine ⟨wy, f1, f2, fun c => ?_, fun c => ?_, f4, nx_gt hB (by omega)⟩
    · unfold vB; rw [cif_t c, f1]
    · unfold vB; rw [cif_f c, f3]
  have hm1 := hM1.1
  obtain ⟨O', hO'⟩ := ord_ex hC' hS' hl
  have hof := ord_fate hC' hS' hl hO' (Nat.lt_succ_self nx) n1
  have he' : g r' (58 + l) = nI e := by rw [hE.1 _ (by omega)]; exact he
  have hs' : g r' (38 + l) = nI s := by rw [hE.1 _ (by omega)]; exact hs
  -- its reasons
  have hRe : mRe r' nB L' Bu' Fi' nx = nI 0 ↔ s ≤ w := by
    unfold mRe
    rw [n6, cif_f (by decide), cif_f (by unfold mLa; rw [hE.2.2, n4]; exact hnl), n1, hE.1 _ (by omega), cif_f haw, cif_f (fun z => by have := z.1; rw [n5] at this; exact absurd this (by decide)), hWn, hs', nI_lt' (by omega) (by omega)]
    by_cases c : w < s
    · rw [cif_t c]; exact ⟨fun z => absurd z (by decide), fun z => by omega⟩
    · rw [cif_f c]; exact ⟨fun _ => by omega, fun _ => rfl⟩
  -- the others that count
  have hOy : ∀ y, y ∈ O → y < nx ∧ lotN r y = l ∧ mRe r nB L Bu Fi y = nI 0 := fun y hy => by
    obtain ⟨a1, a2, a3⟩ := (hO.2.2.2 y).mp hy
    exact ⟨a1, a2, (cd2_0.mp a3).1⟩
  have hup : (∀ y, y ∈ O → ∃ n, vB r nB L b m y = nI n ∧ n ≤ m1) := hM1.2.2.1
  constructor
  · -- it buys
    intro h
    have hc0 : cd2 r' nB L' Bu' Fi' (nx + 1) nx = nI 0 := Classical.byContradiction fun z => z (by rw [← hof.1 z]; exact h)
    have hmem := (hO'.2.2.2 nx).mpr ⟨Nat.lt_succ_self _, n1, hc0⟩
    obtain ⟨p, hp, hpx⟩ := mem_od hmem
    have hfa := hof.2 p hp hpx
    rw [h] at hfa
    have hp0 : p = 0 := Classical.byContradiction fun z => by
      rw [if_pos (by omega)] at hfa
      exact absurd hfa (by decide)
    subst hp0
    rw [if_neg (by omega)] at hfa
    have hres : e ≤ w := by
      by_cases c : mWo r' nB L' nx < g r' (58 + l)
      · rw [if_pos c] at hfa; exact absurd hfa (by decide)
      · rw [hWn, he', nI_lt' (by omega) (by omega)] at c; omega
    obtain ⟨k1, k2⟩ := cd2_0.mp hc0
    have hsw := hRe.mp k1
    rcases hM1.2.2.2 with z | ⟨y, y1, y2⟩
    · rw [z]
      exact (hWce _ (by split <;> omega)).mpr (by split <;> omega)
    · obtain ⟨a1, a2, a3⟩ := (hO.2.2.2 y).mp y1
      obtain ⟨c1, c2⟩ := cd2_0.mp a3
      obtain ⟨wy, f1, f2, f3, f4, f5, f6⟩ := oN y a1 a2
      have hWy : mWo r' nB L' y = nI wy := (oW y a1 a2).trans f1
      have hRy : mRe r' nB L' Bu' Fi' y = nI 0 := (oR y a1 a2).trans c1
      obtain ⟨g1, g2, g3⟩ := ol y a1
      have hyn : ¬ y = nx := by omega
      by_cases d : byN r y = b
      · -- his own best bid
        have hv := f4 (fun z => z.1 d)
        rw [y2, nI_eq' (by omega) (by omega)] at hv
        rw [hv]
        refine nx_least hB hWv (by omega) (Nat.lt_of_not_le fun z => k2 ⟨y, by omega, hyn, by rw [g1, a2, n1], by rw [g2, d, n2], hRy, ?_⟩)
        rw [hWy, hWn, nI_lt' (by omega) (by omega), nI_eq' (by omega) (by omega)]
        omega
      · -- another bidder's
        have hy' : y ∈ O' := by
          refine (hO'.2.2.2 y).mpr ⟨by omega, by rw [g1, a2], cd2_0.mpr ⟨hRy, ?_⟩⟩
          rintro ⟨z, z1, z2, z3, z4, z5, z6⟩
          by_cases zn : z = nx
          · subst zn; rw [n2, g2] at z4; exact d z4.symm
          · obtain ⟨o1, o2, o3⟩ := ol z (by omega)
            have zl : lotN r z = l := by rw [← o1, z3, g1, a2]
            refine c2 ⟨z, by omega, z2, by rw [zl, a2], by rw [← o2, z4, g2], by rw [← oR z (by omega) zl]; exact z5, ?_⟩
            rw [← oW z (by omega) zl, ← oW y a1 a2]
            exact z6
        obtain ⟨py, hpy, hpyx⟩ := mem_od hy'
        have hpy0 : 0 < py := Nat.pos_of_ne_zero fun z => by subst z; exact hyn (hpyx.symm.trans hpx)
        have hah := hO'.2.1 0 py hpy0 hpy
        rw [hpx, hpyx] at hah
        rw [mAh_N hWn hWy (by omega) (by omega), n4, g3] at hah
        by_cases c : m < g r (288 + y)
        · have hv := f3 ⟨d, c⟩
          rw [y2, nI_eq' (by omega) (by omega)] at hv
          by_cases ew : w = wy
          · omega
          · rw [if_neg ew] at hah; omega
        · have hv := f4 (fun z => c z.2)
          rw [y2, nI_eq' (by omega) (by omega)] at hv
          rw [hv]
          refine nx_least hB hWv (by omega) ?_
          by_cases ew : w = wy
          · rw [if_pos ew] at hah
            by_cases em : m = g r (288 + y)
            · rw [if_pos em] at hah; omega
            · rw [if_neg em] at hah; exact absurd hah c
          · rw [if_neg ew] at hah; exact hah
  · -- its worth is enough
    intro h
    have ha0 := hM1.2.1
    have hse := (hWce (if s < e then e else s) (by split <;> omega)).mp (by omega)
    have hsw : s ≤ w := by
      by_cases c : s < e
      · rw [if_pos c] at hse; omega
      · rw [if_neg c] at hse; exact hse
    have hew : e ≤ w := by
      by_cases c : s < e
      · rw [if_pos c] at hse; exact hse
      · rw [if_neg c] at hse; omega
    have hRn := hRe.mpr hsw
    -- his own other bids are below it
    have own : ∀ z, z < nx → lotN r z = l → byN r z = b → mRe r nB L Bu Fi z = nI 0 → ∀ wz, mWo r nB L z = nI wz → wz ≤ 1000000 → wz < w := by
      intro z z1 z2 z3 z4 wz z5 z6
      obtain ⟨y, y1, y2, y3, y4, y5⟩ := best_of hC hS z1 z4
      have hyl : lotN r y = l := by rw [y2, z2]
      obtain ⟨wy, f1, f2, f3, f4, f5, f6⟩ := oN y y1 hyl
      have hv := f4 (fun t => t.1 (by rw [y3, z3]))
      obtain ⟨n, k1, k2⟩ := hup y ((hO.2.2.2 y).mpr ⟨y1, hyl, y4⟩)
      rw [hv, nI_eq' (by omega) (by have := hM1.1; omega)] at k1
      rw [z5, f1, nI_toInt (by omega), nI_toInt (by omega)] at y5
      omega
    have hc0 : cd2 r' nB L' Bu' Fi' (nx + 1) nx = nI 0 := by
      refine cd2_0.mpr ⟨hRn, ?_⟩
      rintro ⟨z, z1, z2, z3, z4, z5, z6⟩
      have z0 : z < nx := by omega
      obtain ⟨o1, o2, o3⟩ := ol z z0
      have zl : lotN r z = l := by rw [← o1, z3, n1]
      obtain ⟨wz, f1, f2, -⟩ := oN z z0 zl
      have := own z z0 zl (by rw [← o2, z4, n2]) (by rw [← oR z z0 zl]; exact z5) wz f1 f2
      rw [oW z z0 zl, f1, hWn, nI_lt' (by omega) (by omega), nI_eq' (by omega) (by omega)] at z6
      omega
    have hmem := (hO'.2.2.2 nx).mpr ⟨Nat.lt_succ_self _, n1, hc0⟩
    obtain ⟨p, hp, hpx⟩ := mem_od hmem
    -- all others are behind it
    have hah : ∀ y, y ∈ O' → ¬ y = nx → mAh r' nB L' nx y := by
      intro y hy hyn
      obtain ⟨a1, a2, a3⟩ := (hO'.2.2.2 y).mp hy
      have y0 : y < nx := by omega
      obtain ⟨g1, g2, g3⟩ := ol y y0
      have yl : lotN r y = l := by rw [← g1]; exact a2
      obtain ⟨c1, c2⟩ := cd2_0.mp a3
      rw [oR y y0 yl] at c1
      obtain ⟨wy, f1, f2, f3, f4, f5, f6⟩ := oN y y0 yl
      have hWy : mWo r' nB L' y = nI wy := (oW y y0 yl).trans f1
      rw [mAh_N hWn hWy (by omega) (by omega), n4, g3]
      by_cases d : byN r y = b
      · have := own y y0 yl d c1 wy f1 f2
        rw [if_neg (by omega)]
        exact this
      · have hyO : y ∈ O := by
          refine (hO.2.2.2 y).mpr ⟨y0, yl, cd2_0.mpr ⟨c1, ?_⟩⟩
          rintro ⟨z, z1, z2, z3, z4, z5, z6⟩
          have zl : lotN r z = l := by rw [z3, yl]
          obtain ⟨o1, o2, o3⟩ := ol z z1
          refine c2 ⟨z, by omega, z2, by rw [o1, g1, z3], by rw [o2, g2, z4], by rw [oR z z1 zl]; exact z5, ?_⟩
          rw [oW z z1 zl, oW y y0 yl]
          exact z6
        obtain ⟨n, k1, k2⟩ := hup y hyO
        by_cases c : m < g r (288 + y)
        · rw [f3 ⟨d, c⟩, nI_eq' (by omega) (by have := hM1.1; omega)] at k1
          by_cases ew : w = wy
          · rw [if_pos ew, if_neg (fun t => by rw [t] at c; exact absurd c (Int32.lt_irrefl))]
            exact c
          · rw [if_neg ew]; omega
        · rw [f4 (fun t => c t.2), nI_eq' (by omega) (by have := hM1.1; omega)] at k1
          rw [if_neg (by omega)]
          omega
    have hp0 : p = 0 := Classical.byContradiction fun z => by
      have h0 := hO'.2.1 0 p (by omega) hp
      rw [hpx] at h0
      have hne := mAh_ne h0
      exact mAh_as h0 (hah _ (od_mem (by omega)) hne)
    subst hp0
    rw [hof.2 0 hp hpx, if_neg (by omega), if_neg]
    rw [hWn, he', nI_lt' (by omega) (by omega)]
    omega
end K

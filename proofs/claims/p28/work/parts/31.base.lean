/-! READS, WRITES, ROWS -/
theorem up_app {α : Type} (f : Nat → α) (k : Nat) (v : α) (j : Nat) : up f k v j = if j = k then v else f j := rfl
theorem am_bi_s (x : Int32) (h : am_H) (f : Int32 → am_H → Option am_R) : am_bi (some (some (.int x), h)) f = f x h := rfl
theorem am_bl_s (x : Int64) (h : am_H) (f : Int64 → am_H → Option am_R) : am_bl (some (some (.long x), h)) f = f x h := rfl
theorem am_bv_s (h : am_H) (f : am_H → Option am_R) : am_bv (some (none, h)) f = f h := rfl
theorem ob_s {α β : Type} (a : α) (f : α → Option β) : Option.bind (some a) f = f a := rfl
theorem bif_d {α : Type} (p : Prop) (dp : Decidable p) (a b : α) : (bif @decide p dp then a else b) = @ite α p dp a b := by
  by_cases hp : p
  · simp [hp]
  · simp [hp]
/-- a row's entry, 0 beyond -/
def g (l : List Int32) (k : Nat) : Int32 := l.getD k 0
theorem nI_lt0 {n : Nat} (h : n < 2 ^ 31) : (nI n < 0) = False := by simp only [eq_iff_iff, iff_false]; exact nI_pos h
theorem g_at {l : List Int32} {k : Nat} (h : k < l.length) : l[k]? = some (g l k) := by
  unfold g
  rw [List.getD_eq_getElem?_getD, List.getElem?_eq_getElem h]; rfl
theorem am_in_nI {k n : Nat} (hk : k < 2 ^ 31) : am_in (nI k) n = Nat.blt k n := by
  unfold am_in
  rw [nI_clamp hk]
  simp [nI_pos hk]
theorem am_in_lt' {k n : Nat} (h : k < n) (hn : n < 2 ^ 31) : am_in (nI k) n = true := by
  rw [am_in_nI (by omega)]
  exact Nat.ble_eq_true_of_le h
theorem rd_nI {l : List Int32} {k : Nat} (h : k < l.length) (hl : l.length < 2 ^ 31) : (bif am_in (nI k) l.length then l[(nI k).toNatClampNeg]? else none) = some (g l k) := by
  rw [am_in_lt' h hl, nI_clamp (by omega)]
  exact g_at h
theorem wr_nI {α : Type} {l : List Int32} {k : Nat} {v : Int32} {f : List Int32 → α} (h : k < l.length) (hl : l.length < 2 ^ 31) : (bif am_in (nI k) l.length then some (f (l.set (nI k).toNatClampNeg v)) else none) = some (f (l.set k v)) := by
  rw [am_in_lt' h hl, nI_clamp (by omega)]
  rfl
theorem g_set {l : List Int32} {k j : Nat} {v : Int32} (h : k < l.length) : g (l.set k v) j = if j = k then v else g l j := by
  unfold g
  rw [List.getD_eq_getElem?_getD, List.getD_eq_getElem?_getD, List.getElem?_set]
  by_cases q : k = j
  · subst q; simp [h]
  · rw [if_neg q, if_neg (fun z => q z.symm)]
/-- Row.get and Row.put, for any number -/
def rget (l : List Int32) (i : Int32) : Int32 := if i < 0 then 0 else if Int32.ofNat l.length ≤ i then 0 else g l i.toNatClampNeg
def rput (l : List Int32) (i v : Int32) : List Int32 := if i < 0 then l else if Int32.ofNat l.length ≤ i then l else l.set i.toNatClampNeg v
theorem in_of {i : Int32} {n : Nat} (h0 : ¬ i < 0) (h1 : ¬ Int32.ofNat n ≤ i) (hn : n < 2 ^ 31) : am_in i n = true ∧ i.toNatClampNeg < n := by
  obtain ⟨k, hk, rfl⟩ := nI_of h0
  have : k < n := Nat.lt_of_not_le fun z => h1 (nI_le z hk)
  exact ⟨am_in_lt' this hn, by rw [nI_clamp hk]; exact this⟩
theorem rget_nI {l : List Int32} {k : Nat} (h : k < l.length) (hl : l.length < 2 ^ 31) : rget l (nI k) = g l k := by
  unfold rget
  rw [if_neg (nI_pos (by omega)), if_neg (show ¬ Int32.ofNat l.length ≤ nI k from nI_ge h hl), nI_clamp (by omega)]
theorem rput_nI {l : List Int32} {k : Nat} {v : Int32} (h : k < l.length) (hl : l.length < 2 ^ 31) : rput l (nI k) v = l.set k v := by
  unfold rput
  rw [if_neg (nI_pos (by omega)), if_neg (show ¬ Int32.ofNat l.length ≤ nI k from nI_ge h hl), nI_clamp (by omega)]
theorem rput_length (l : List Int32) (i v : Int32) : (rput l i v).length = l.length := by
  unfold rput
  split
  · rfl
  · split
    · rfl
    · simp
theorem row_get {a q : Nat} {h : am_H} {l : List Int32} {i : Int32} (h1 : h[a]? = some (.inr (5, [.ref q]))) (h2 : h[q]? = some (.inl (0, l))) (hl : l.length < 2 ^ 31) : am_cl m_Row_get [.ref a, .int i] h = some (some (.int (rget l i)), h) := by
  rw [e_Row_get a i h h1]
  have e1 : am_gr h a 5 0 = some q := by simp [am_gr, h1]
  have e2 : am_len h q = some (Int32.ofNat l.length) := by unfold am_len; rw [h2]; rfl
  simp only [e1, e2, ob_s, bif_d]
  unfold rget
  by_cases q1 : i < 0
  · simp only [if_pos q1]
  · simp only [if_neg q1]
    by_cases q2 : Int32.ofNat l.length ≤ i
    · simp only [if_pos q2]
    · simp only [if_neg q2]
      obtain ⟨g1, g2⟩ := in_of q1 q2 hl
      have e3 : am_al h 0 q i = some (g l i.toNatClampNeg) := by
        unfold am_al
        rw [h2]
        show (bif (Nat.beq 0 0 || _) && am_in i l.length then l[i.toNatClampNeg]? else none) = _
        rw [g1]
        exact g_at g2
      rw [e3]
      rfl
theorem row_put {a q : Nat} {h : am_H} {l : List Int32} {i v : Int32} (h1 : h[a]? = some (.inr (5, [.ref q]))) (h2 : h[q]? = some (.inl (0, l))) (hl : l.length < 2 ^ 31) : am_cl m_Row_put [.ref a, .int i, .int v] h = some (none, h.set q (.inl (0, rput l i v))) := by
  rw [e_Row_put a i v h h1]
  have e1 : am_gr h a 5 0 = some q := by simp [am_gr, h1]
  have e2 : am_len h q = some (Int32.ofNat l.length) := by unfold am_len; rw [h2]; rfl
  have e0 : h.set q (.inl (0, l)) = h := by
    obtain ⟨hq, e⟩ := List.getElem?_eq_some_iff.mp h2
    rw [← e]; exact List.set_getElem_self hq
  simp only [e1, e2, ob_s, bif_d]
  unfold rput
  by_cases q1 : i < 0
  · simp only [if_pos q1, e0]
  · simp only [if_neg q1]
    by_cases q2 : Int32.ofNat l.length ≤ i
    · simp only [if_pos q2, e0]
    · simp only [if_neg q2]
      obtain ⟨g1, g2⟩ := in_of q1 q2 hl
      have e3 : am_as h 0 q i v = some (h.set q (.inl (0, l.set i.toNatClampNeg v))) := by
        unfold am_as
        rw [h2]
        show (bif Nat.beq 0 0 && am_in i l.length then _ else none) = _
        rw [g1]
        rfl
      rw [e3]
      rfl

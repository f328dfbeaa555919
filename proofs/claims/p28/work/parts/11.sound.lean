/-! SOUNDNESS: what the abstract machine does, the machine does -/
def am_fr (p : Program) (s : State) (m : MethodId) (meth : Method) (c : Code) (i : Nat) : Prop := p.tables.exec = Jvm.exec ∧ c.code = am_by i ∧ c.maxLocals = am_ml i ∧ meth.sig.returnType = am_rt i ∧ s.vm.findClass (am_own i) = some m.cls ∧ ((am_nm i).name = "<init>" → meth.name = "<init>")
def am_end (i pc : Nat) (r : Option Value) : Prop := match r with
  | some (.int x) => decode (am_by i) pc = .ok (.ireturn, 1) ∧ (am_rt i = some .int ∨ (am_rt i = some .boolean ∧ (x = 0 ∨ x = 1)))
  | some (.long _) => decode (am_by i) pc = .ok (.lreturn, 1) ∧ am_rt i = some .long
  | none => decode (am_by i) pc = .ok (.return_, 1) ∧ am_rt i = none
  | _ => False
def am_snd (l : Launch) (D : va_G) (ky : Nat → ClassId) (b base : Nat) (xs : List Int32) (n : Nat) : Prop :=
  ∀ (i pc : Nat) (L S : List Value) (h : am_H) (r : Option Value) (h' : am_H), i < am_N → am_run n i (pc, L, S, h) = some (r, h') →
    ∀ {p : Program} {e : Env} {R : Room} {s : State} {m : MethodId} {args : Array Value} {below : List Frame} {meth : Method} {c : Code} {H : Heap} {locs : List Loc} {cells slots : Nat} {Q : State → Prop} {ls : Array Slot} (C Sl : Nat),
    am_fr p s m meth c i → am_ok D ky b base xs s → am_rank i ≤ R.frames → 39 * am_rank i ≤ R.locals → am_hp D ky b base xs h H → va_S (fun q : Nat => base ≤ q) s.heap H locs → lv_has ls (am_ml i) (am_ls (am_ad b base) 0 L) → am_lg i L →
    cells + h'.length = C + h.length → slots + am_sl h' = Sl + am_sl h → C ≤ R.cells → Sl ≤ R.slots →
    (∀ pc' ls' H' locs', am_hp D ky b base xs h' H' → va_S (fun q : Nat => base ≤ q) s.heap H' locs' → am_end i pc' r → W p l e R s m args below meth c H' locs' C Sl Q (F0 m pc' ls' (r.toList.map (am_cv (am_ad b base))))) →
    W p l e R s m args below meth c H locs cells slots Q (F0 m pc ls (S.map (am_cv (am_ad b base))))
def am_Q (D : va_G) (ky : Nat → ClassId) (b base : Nat) (xs : List Int32) (r : Option Value) (h' : am_H) : Array Value → State → Outcome → State → Prop := match r with
  | some (.int x) => va_Qi (fun y (_ : Unit) => y = x) (fun _ t => am_hp D ky b base xs h' t.heap) (fun q : Nat => base ≤ q)
  | some (.long x) => va_Ql (fun y (_ : Unit) => y = x) (fun _ t => am_hp D ky b base xs h' t.heap) (fun q : Nat => base ≤ q)
  | none => va_Qv (fun (_ : Unit) => True) (fun _ t => am_hp D ky b base xs h' t.heap) (fun q : Nat => base ≤ q)
  | _ => fun _ _ _ _ => False
abbrev am_rm_ (j : Nat) (mc ms : Nat) : Room := { frames := am_rank j, cells := mc, slots := ms, locals := 39 * am_rank j }
abbrev am_wl (j : Nat) : List Jvm.Cond := [.code (am_nm j) (am_by j) (am_ml j) (am_rt j)]
def am_mt (l : Launch) (D : va_G) (ky : Nat → ClassId) (b base : Nat) (xs : List Int32) (n : Nat) : Prop :=
  ∀ (j : Nat) (As : List Value) (h : am_H) (r : Option Value) (h' : am_H), j < am_N → j ≠ m_law → (am_cat As = am_na_ j ∨ am_la j As = true) → As.length = am_na_ j → am_run n j (0, am_l0 j As, [], h) = some (r, h') →
    Met l (am_nm j) (am_wl j) (am_rm_ j (h'.length - h.length) (am_sl h' - am_sl h)) (va_Pc (As.map (am_cv (am_ad b base))) (fun U => am_ok D ky b base xs U ∧ am_hp D ky b base xs h U.heap)) (am_Q D ky b base xs r h') (h'.length - h.length) (am_sl h' - am_sl h) (fun q : Nat => base ≤ q)
theorem am_find_spec {l : List am_E} {pc : Nat} {e : am_E} (h : am_find l pc = some e) : e ∈ l ∧ e.1 = pc := by
  induction l with
  | nil => cases h
  | cons x r ih =>
    unfold am_find at h
    cases q : Nat.beq x.1 pc <;> rw [q] at h
    · obtain ⟨h1, h2⟩ := ih h
      exact ⟨List.mem_cons_of_mem _ h1, h2⟩
    · cases h
      exact ⟨List.mem_cons_self, Nat.eq_of_beq_eq_true q⟩
theorem am_bt {α : Type} {c : Bool} {A B z : α} (hc : c = true) (hz : (bif c then A else B) = z) : A = z := by rw [hc] at hz; exact hz
theorem am_bf {α : Type} {c : Bool} {A B z : α} (hc : c = false) (hz : (bif c then A else B) = z) : B = z := by rw [hc] at hz; exact hz
theorem am_sw_tab {x : Int32} {sw : List (Int32 × Nat)} {d : Nat} {K : Nat → Option am_R} : ∀ {lo : Int}, (∀ (k : Nat) q, sw[k]? = some q → q.1.toInt = lo + k) →
    (∃ (k : Nat) (q : Int32 × Nat), sw[k]? = some q ∧ x.toInt = lo + k ∧ am_sw x sw d K = K q.2) ∨ ((x.toInt < lo ∨ lo + sw.length ≤ x.toInt) ∧ am_sw x sw d K = K d) := by
  induction sw with
  | nil =>
    intro lo _
    refine Or.inr ⟨?_, rfl⟩
    simp only [List.length_nil]
    omega
  | cons q r ih =>
    intro lo hl
    have h0 := hl 0 q rfl
    cases g : decide (x = q.1)
    · have hx : x.toInt ≠ lo := fun z => by
        have : x = q.1 := Int32.toInt_inj.mp (by rw [h0, z]; simp)
        rw [decide_eq_true this] at g
        cases g
      have e : am_sw x (q :: r) d K = am_sw x r d K := by
        rw [am_sw, g]; rfl
      rcases ih (lo := lo + 1) (fun k p hp => by rw [hl (k + 1) p (by simpa using hp)]; push_cast; omega) with ⟨k, p, h1, h2, h3⟩ | ⟨h1, h2⟩
      · exact Or.inl ⟨k + 1, p, by simpa using h1, by push_cast; omega, e.trans h3⟩
      · refine Or.inr ⟨?_, e.trans h2⟩
        simp only [List.length_cons]
        push_cast
        omega
    · refine Or.inl ⟨0, q, rfl, ?_, ?_⟩
      · rw [of_decide_eq_true g, h0]
      · rw [am_sw, g]; rfl
theorem am_sw_look {x : Int32} {sw : List (Int32 × Nat)} {d : Nat} {K : Nat → Option am_R} {dflt pc : Int} (hd : pc + dflt = (d : Int)) : ∀ {ps : List (Int × Int)}, sw.length = ps.length → (sw.zip ps).all (fun q => decide (q.1.1.toInt = q.2.1) && decide (pc + q.2.2 = (q.1.2 : Int))) = true →
    ∃ t : Nat, am_sw x sw d K = K t ∧ pc + Op.lookupswitch.offset ps dflt x.toInt = (t : Int) := by
  induction sw with
  | nil =>
    intro ps hl _
    cases ps with
    | nil => exact ⟨d, rfl, hd⟩
    | cons _ _ => cases hl
  | cons q r ih =>
    intro ps hl ha
    cases ps with
    | nil => cases hl
    | cons y ys =>
      obtain ⟨ya, yo⟩ := y
      simp only [List.zip_cons_cons, List.all_cons, Bool.and_eq_true, decide_eq_true_eq] at ha
      obtain ⟨⟨h1, h2⟩, h3⟩ := ha
      cases g : decide (x = q.1)
      · have hx : ¬ x = q.1 := of_decide_eq_false g
        obtain ⟨t, h4, h5⟩ := ih (ps := ys) (by simpa using hl) h3
        refine ⟨t, ?_, ?_⟩
        · rw [am_sw, g]; exact h4
        · rw [lv_osw hx h1]; exact h5
      · refine ⟨q.2, ?_, ?_⟩
        · rw [am_sw, g]; rfl
        · rw [Op.lookupswitch.offset_cons, if_pos (by rw [of_decide_eq_true g, h1])]
          exact h2

/-! stores to locals, branches, switches -/
def lop (ac : Nat → Nat × ClassId) (lo : List ab_V) : List (Nat × Value) := (List.range lo.length).filterMap (fun i => match lo[i]? with
  | some v => if v = vU then none else some (i, cv ac v)
  | none => none)
theorem lop_mem {ac : Nat → Nat × ClassId} {lo : List ab_V} {j : Nat} {w : ab_V} (h : lo[j]? = some w) (hw : w ≠ vU) : (j, cv ac w) ∈ lop ac lo := by
  refine List.mem_filterMap.mpr ⟨j, List.mem_range.mpr (List.getElem?_eq_some_iff.mp h).1, ?_⟩
  simp only [h]
  rw [if_neg hw]
theorem lop_has {ac : Nat → Nat × ClassId} {lo : List ab_V} {nL : Nat} {ls : Array Slot} (h : sm_L nL ls ac lo) : lv_has ls nL (lop ac lo) := by
  refine ⟨h.1, h.2.1, fun q hq => ?_⟩
  obtain ⟨i, -, hi⟩ := List.mem_filterMap.mp hq
  cases hl : lo[i]? with
  | none => simp [hl] at hi
  | some v =>
    simp only [hl] at hi
    split at hi
    · cases hi
    · rename_i hv
      cases hi
      exact h.2.2.2 i v hl hv
theorem ab_st_len (lo : List ab_V) (i : Nat) (v : ab_V) : (ab_st lo i v).length = lo.length := by
  induction lo generalizing i with
  | nil => simp [ab_st]
  | cons a r ih =>
    cases i with
    | zero => simp [ab_st]
    | succ i => simp [ab_st, ih]
theorem ab_cl_ne {a w : ab_V} (h : ab_cl a = w) (hw : w ≠ vU) : a = w ∧ ∀ ac, (cv ac w).category ≠ 2 := by
  match a, h with
  | .inl z, h => subst h; exact ⟨rfl, fun ac q => by cases q⟩
  | .inr (.inl z), h => exact absurd h.symm hw
  | .inr (.inr (some k)), h => subst h; exact ⟨rfl, fun ac q => by cases q⟩
  | .inr (.inr none), h => exact absurd h.symm hw
theorem ab_st_get {lo : List ab_V} {i j : Nat} {v w : ab_V} (h : (ab_st lo i v)[j]? = some w) (hw : w ≠ vU) : (j = i ∧ w = v) ∨ (j ≠ i ∧ lo[j]? = some w ∧ ∀ ac, ¬ (j + 1 = i ∧ (cv ac w).category = 2)) := by
  induction lo generalizing i j with
  | nil => simp [ab_st] at h
  | cons a r ih =>
    cases i with
    | zero =>
      cases j with
      | zero =>
        simp [ab_st] at h
        exact Or.inl ⟨rfl, h.symm⟩
      | succ j =>
        simp [ab_st] at h
        exact Or.inr ⟨by omega, by simpa using h, fun ac q => by omega⟩
    | succ i =>
      cases j with
      | zero =>
        cases i with
        | zero =>
          simp [ab_st] at h
          obtain ⟨h1, h2⟩ := ab_cl_ne h hw
          exact Or.inr ⟨by omega, by simp [h1], fun ac q => h2 ac q.2⟩
        | succ i =>
          simp [ab_st] at h
          exact Or.inr ⟨by omega, by simp [h], fun ac q => by omega⟩
      | succ j =>
        have h' : (ab_st r i v)[j]? = some w := by simpa [ab_st] using h
        rcases ih h' with ⟨h1, h2⟩ | ⟨h1, h2, h3⟩
        · exact Or.inl ⟨by omega, h2⟩
        · exact Or.inr ⟨by omega, by simpa using h2, fun ac q => h3 ac ⟨by omega, q.2⟩⟩
theorem sm_L_st {ac : Nat → Nat × ClassId} {lo : List ab_V} {nL i : Nat} {ls ls' : Array Slot} {v : ab_V} {x : Value} (h : sm_L nL ls ac lo) (hx : cv ac v = x) (h' : lv_has ls' nL ((i, x) :: (lop ac lo).filter (fun q => !(q.1 == i) && !(q.1 + 1 == i && q.2.category == 2)))) : sm_L nL ls' ac (ab_st lo i v) := by
  refine ⟨h'.1, h'.2.1, by rw [ab_st_len]; exact h.2.2.1, fun j w hj hw => ?_⟩
  rcases ab_st_get hj hw with ⟨rfl, rfl⟩ | ⟨h1, h2, h3⟩
  · rw [hx]
    exact h'.2.2 _ List.mem_cons_self
  · refine h'.2.2 (j, cv ac w) (List.mem_cons_of_mem _ (List.mem_filter.mpr ⟨lop_mem h2 hw, ?_⟩))
    have := h3 ac
    simp only [Bool.and_eq_true, Bool.not_eq_true', beq_eq_false_iff_ne, ne_eq, Bool.and_eq_false_iff]
    refine ⟨h1, ?_⟩
    by_cases q1 : j + 1 = i
    · exact Or.inr (fun q2 => this ⟨q1, q2⟩)
    · exact Or.inl q1
theorem sm_L_stL {ac : Nat → Nat × ClassId} {lo : List ab_V} {nL i : Nat} {ls ls' : Array Slot} {v : ab_V} {x : Value} (h : sm_L nL ls ac lo) (hx : cv ac v = x) (h' : lv_has ls' nL ((i, x) :: (lop ac lo).filter (fun q => !(q.1 == i) && (!(q.1 == i + 1) && !(q.1 + 1 == i && q.2.category == 2))))) : sm_L nL ls' ac (ab_stL lo i v) := by
  refine ⟨h'.1, h'.2.1, by unfold ab_stL; rw [List.length_set, ab_st_len]; exact h.2.2.1, fun j w hj hw => ?_⟩
  have hj1 : j ≠ i + 1 := by
    intro q
    subst q
    have hl := (List.getElem?_eq_some_iff.mp hj).1
    unfold ab_stL at hj hl
    rw [List.length_set] at hl
    rw [List.getElem?_set_self hl] at hj
    exact hw (Option.some.inj hj).symm
  unfold ab_stL at hj
  rw [List.getElem?_set_ne (fun q => hj1 q.symm)] at hj
  rcases ab_st_get hj hw with ⟨rfl, rfl⟩ | ⟨h1, h2, h3⟩
  · rw [hx]
    exact h'.2.2 _ List.mem_cons_self
  · refine h'.2.2 (j, cv ac w) (List.mem_cons_of_mem _ (List.mem_filter.mpr ⟨lop_mem h2 hw, ?_⟩))
    have := h3 ac
    simp only [Bool.and_eq_true, Bool.not_eq_true', beq_eq_false_iff_ne, ne_eq, Bool.and_eq_false_iff]
    refine ⟨h1, hj1, ?_⟩
    by_cases q1 : j + 1 = i
    · exact Or.inr (fun q2 => this ⟨q1, q2⟩)
    · exact Or.inl q1
theorem ab_cl_ok {n : Nat} {a : ab_V} (h : ab_ok n a) : ab_ok n (ab_cl a) := by
  match a, h with
  | .inl z, h => exact h
  | .inr (.inl z), h => exact trivial
  | .inr (.inr (some k)), h => exact h
  | .inr (.inr none), h => exact h
theorem ab_st_ok {n : Nat} {lo : List ab_V} {i : Nat} {v : ab_V} (h : ∀ w ∈ lo, ab_ok n w) (hv : ab_ok n v) : ∀ w ∈ ab_st lo i v, ab_ok n w := by
  induction lo generalizing i with
  | nil => intro w hw; simp [ab_st] at hw
  | cons a r ih =>
    cases i with
    | zero => exact al_cons.mpr ⟨hv, (al_cons.mp h).2⟩
    | succ i =>
      refine al_cons.mpr ⟨?_, ih (al_cons.mp h).2⟩
      cases i with
      | zero => exact ab_cl_ok (al_cons.mp h).1
      | succ i => exact (al_cons.mp h).1
theorem ab_stL_ok {n : Nat} {lo : List ab_V} {i : Nat} {v : ab_V} (h : ∀ w ∈ lo, ab_ok n w) (hv : ab_ok n v) : ∀ w ∈ ab_stL lo i v, ab_ok n w := by
  intro w hw
  unfold ab_stL at hw
  rcases List.mem_or_eq_of_mem_set hw with q | q
  · exact ab_st_ok h hv w q
  · subst q
    exact trivial
section Steps
variable {y n pc len : Nat} {ax : List Nat} {ct : ab_C} {K : Nat → ab_C} {lo st : List ab_V} {h : ab_H} {u : Nat × Nat} {Q : Option ab_V → ab_H → Prop}
theorem x_istore {k : Nat} (h : okX y (pc, .istore k, len, ax) = true) : len = 2 ∧ ax = [k] ∧ k < mL y := by
  rcases len with _ | _ | _ | len <;> rcases ax with _ | ⟨a, _ | ⟨b, ax⟩⟩
  all_goals first | exact absurd (show false = true from h) (by decide) | (have := of_decide_eq_true h; exact ⟨rfl, by rw [this.1], by rw [this.1]; exact this.2⟩)
theorem x_astore {k : Nat} (h : okX y (pc, .astore k, len, ax) = true) : len = 2 ∧ ax = [k] ∧ k < mL y := by
  rcases len with _ | _ | _ | len <;> rcases ax with _ | ⟨a, _ | ⟨b, ax⟩⟩
  all_goals first | exact absurd (show false = true from h) (by decide) | (have := of_decide_eq_true h; exact ⟨rfl, by rw [this.1], by rw [this.1]; exact this.2⟩)
theorem x_istore_n {k : Fin 4} (h : okX y (pc, .istore_n k, len, ax) = true) : len = 1 ∧ ax = [k.val] ∧ k.val < mL y := by
  rcases len with _ | _ | len <;> rcases ax with _ | ⟨a, _ | ⟨b, ax⟩⟩
  all_goals first | exact absurd (show false = true from h) (by decide) | (have := of_decide_eq_true h; exact ⟨rfl, by rw [this.1], by rw [this.1]; exact this.2⟩)
theorem x_astore_n {k : Fin 4} (h : okX y (pc, .astore_n k, len, ax) = true) : len = 1 ∧ ax = [k.val] ∧ k.val < mL y := by
  rcases len with _ | _ | len <;> rcases ax with _ | ⟨a, _ | ⟨b, ax⟩⟩
  all_goals first | exact absurd (show false = true from h) (by decide) | (have := of_decide_eq_true h; exact ⟨rfl, by rw [this.1], by rw [this.1]; exact this.2⟩)
theorem x_lstore {k : Nat} (h : okX y (pc, .lstore k, len, ax) = true) : len = 2 ∧ ax = [k] ∧ k + 1 < mL y := by
  rcases len with _ | _ | _ | len <;> rcases ax with _ | ⟨a, _ | ⟨b, ax⟩⟩
  all_goals first | exact absurd (show false = true from h) (by decide) | (have := of_decide_eq_true h; exact ⟨rfl, by rw [this.1], by rw [this.1]; exact this.2⟩)
theorem x_lstore_n {k : Fin 4} (h : okX y (pc, .lstore_n k, len, ax) = true) : len = 1 ∧ ax = [k.val] ∧ k.val + 1 < mL y := by
  rcases len with _ | _ | len <;> rcases ax with _ | ⟨a, _ | ⟨b, ax⟩⟩
  all_goals first | exact absurd (show false = true from h) (by decide) | (have := of_decide_eq_true h; exact ⟨rfl, by rw [this.1], by rw [this.1]; exact this.2⟩)
theorem x_iinc {k : Nat} {z : Int} (h : okX y (pc, .iinc k z, len, ax) = true) : len = 3 ∧ ax = [k] ∧ k < mL y := by
  rcases len with _ | _ | _ | _ | len <;> rcases ax with _ | ⟨a, _ | ⟨b, ax⟩⟩
  all_goals first | exact absurd (show false = true from h) (by decide) | (have := of_decide_eq_true h; exact ⟨rfl, by rw [this.1], by rw [this.1]; exact this.2⟩)
theorem s_istore {k : Nat} (F : Fq y n (pc, .istore k, len, ax)) (hc : ∀ lo st h u, ct lo st h u → Sem y (n + 1) lo st h u Q) (hw : wI y Q K (pc, .istore k, len, ax) ct lo st h u) : Sem y n lo st h u Q := by
  obtain ⟨rfl, rfl, hk⟩ := x_istore F.x
  match st, hw with
  | .inl z :: r, hw =>
    intro p l e s m args below meth c dC dI base Z hC hb ac H locs ls hRet hR hS hL hlo hst hu
    refine lv_istore hC.1 hC.2.1 F.dec (lop_has hL) hk rfl (fun ls' hl' => ?_)
    have := hc _ _ _ _ hw p l e s m args below meth c dC dI base Z hC hb ac H locs ls' hRet hR hS (sm_L_st (v := .inl z) hL rfl hl') (ab_st_ok hlo (al_cons.mp hst).1) (al_cons.mp hst).2 hu
    rw [F.nx] at this
    exact this
theorem s_istore_n {k : Fin 4} (F : Fq y n (pc, .istore_n k, len, ax)) (hc : ∀ lo st h u, ct lo st h u → Sem y (n + 1) lo st h u Q) (hw : wI y Q K (pc, .istore_n k, len, ax) ct lo st h u) : Sem y n lo st h u Q := by
  obtain ⟨rfl, rfl, hk⟩ := x_istore_n F.x
  match st, hw with
  | .inl z :: r, hw =>
    intro p l e s m args below meth c dC dI base Z hC hb ac H locs ls hRet hR hS hL hlo hst hu
    refine lv_istore_n hC.1 hC.2.1 F.dec rfl (lop_has hL) hk rfl (fun ls' hl' => ?_)
    have := hc _ _ _ _ hw p l e s m args below meth c dC dI base Z hC hb ac H locs ls' hRet hR hS (sm_L_st (v := .inl z) hL rfl hl') (ab_st_ok hlo (al_cons.mp hst).1) (al_cons.mp hst).2 hu
    rw [F.nx] at this
    exact this
theorem s_astore {k : Nat} (F : Fq y n (pc, .astore k, len, ax)) (hc : ∀ lo st h u, ct lo st h u → Sem y (n + 1) lo st h u Q) (hw : wI y Q K (pc, .astore k, len, ax) ct lo st h u) : Sem y n lo st h u Q := by
  obtain ⟨rfl, rfl, hk⟩ := x_astore F.x
  match st, hw with
  | .inr (.inr (some z)) :: r, hw =>
    intro p l e s m args below meth c dC dI base Z hC hb ac H locs ls hRet hR hS hL hlo hst hu
    refine lv_astore hC.1 hC.2.1 F.dec (lop_has hL) hk rfl (fun ls' hl' => ?_)
    have := hc _ _ _ _ hw p l e s m args below meth c dC dI base Z hC hb ac H locs ls' hRet hR hS (sm_L_st (v := .inr (.inr (some z))) hL rfl hl') (ab_st_ok hlo (al_cons.mp hst).1) (al_cons.mp hst).2 hu
    rw [F.nx] at this
    exact this
theorem s_astore_n {k : Fin 4} (F : Fq y n (pc, .astore_n k, len, ax)) (hc : ∀ lo st h u, ct lo st h u → Sem y (n + 1) lo st h u Q) (hw : wI y Q K (pc, .astore_n k, len, ax) ct lo st h u) : Sem y n lo st h u Q := by
  obtain ⟨rfl, rfl, hk⟩ := x_astore_n F.x
  match st, hw with
  | .inr (.inr (some z)) :: r, hw =>
    intro p l e s m args below meth c dC dI base Z hC hb ac H locs ls hRet hR hS hL hlo hst hu
    refine lv_astore_n hC.1 hC.2.1 F.dec rfl (lop_has hL) hk rfl (fun ls' hl' => ?_)
    have := hc _ _ _ _ hw p l e s m args below meth c dC dI base Z hC hb ac H locs ls' hRet hR hS (sm_L_st (v := .inr (.inr (some z))) hL rfl hl') (ab_st_ok hlo (al_cons.mp hst).1) (al_cons.mp hst).2 hu
    rw [F.nx] at this
    exact this
theorem s_lstore {k : Nat} (F : Fq y n (pc, .lstore k, len, ax)) (hc : ∀ lo st h u, ct lo st h u → Sem y (n + 1) lo st h u Q) (hw : wI y Q K (pc, .lstore k, len, ax) ct lo st h u) : Sem y n lo st h u Q := by
  obtain ⟨rfl, rfl, hk⟩ := x_lstore F.x
  match st, hw with
  | .inr (.inl z) :: r, hw =>
    intro p l e s m args below meth c dC dI base Z hC hb ac H locs ls hRet hR hS hL hlo hst hu
    refine lv_lstore hC.1 hC.2.1 F.dec (lop_has hL) hk rfl (fun ls' hl' => ?_)
    have := hc _ _ _ _ hw p l e s m args below meth c dC dI base Z hC hb ac H locs ls' hRet hR hS (sm_L_stL (v := .inr (.inl z)) hL rfl hl') (ab_stL_ok hlo (al_cons.mp hst).1) (al_cons.mp hst).2 hu
    rw [F.nx] at this
    exact this
theorem s_lstore_n {k : Fin 4} (F : Fq y n (pc, .lstore_n k, len, ax)) (hc : ∀ lo st h u, ct lo st h u → Sem y (n + 1) lo st h u Q) (hw : wI y Q K (pc, .lstore_n k, len, ax) ct lo st h u) : Sem y n lo st h u Q := by
  obtain ⟨rfl, rfl, hk⟩ := x_lstore_n F.x
  match st, hw with
  | .inr (.inl z) :: r, hw =>
    intro p l e s m args below meth c dC dI base Z hC hb ac H locs ls hRet hR hS hL hlo hst hu
    refine lv_lstore_n hC.1 hC.2.1 F.dec rfl (lop_has hL) hk rfl (fun ls' hl' => ?_)
    have := hc _ _ _ _ hw p l e s m args below meth c dC dI base Z hC hb ac H locs ls' hRet hR hS (sm_L_stL (v := .inr (.inl z)) hL rfl hl') (ab_stL_ok hlo (al_cons.mp hst).1) (al_cons.mp hst).2 hu
    rw [F.nx] at this
    exact this
theorem s_iinc {k : Nat} {z : Int} (F : Fq y n (pc, .iinc k z, len, ax)) (hc : ∀ lo st h u, ct lo st h u → Sem y (n + 1) lo st h u Q) (hw : wI y Q K (pc, .iinc k z, len, ax) ct lo st h u) : Sem y n lo st h u Q := by
  obtain ⟨rfl, rfl, hk⟩ := x_iinc F.x
  have hw : (match ab_ld lo k with
    | .inl a => i32 (a + z) ∧ ct (ab_st lo k (.inl (a + z))) st h u
    | _ => False) := hw
  split at hw
  · rename_i a ha
    have hg := ld_get ha (fun q => by cases q)
    intro p l e s m args below meth c dC dI base Z hC hb ac H locs ls hRet hR hS hL hlo hst hu
    obtain ⟨j, hj⟩ := List.getElem?_of_mem (lop_mem (ac := ac) hg (fun q => by cases q))
    refine lv_iinc (v := Int32.ofInt (a + z)) hC.1 hC.2.1 F.dec (lop_has hL) hj (Int32.ofInt_add a z).symm hk rfl (fun ls' hl' => ?_)
    have := hc _ _ _ _ hw.2 p l e s m args below meth c dC dI base Z hC hb ac H locs ls' hRet hR hS (sm_L_st (v := .inl (a + z)) hL rfl hl') (ab_st_ok hlo hw.1) hst hu
    rw [F.nx] at this
    exact this
  · exact hw.elim
/-! branches -/
theorem x_if {cn : Jvm.ClassFile.Cond} {off : Int} (h : okX y (pc, .ifCond cn off, len, ax) = true) : len = 3 ∧ ∃ t, ax = [t] ∧ (pc : Int) + off = (pcN y t : Int) := by
  rcases len with _ | _ | _ | _ | len <;> rcases ax with _ | ⟨a, _ | ⟨b, ax⟩⟩
  all_goals first | exact absurd (show false = true from h) (by decide) | exact ⟨rfl, a, rfl, of_decide_eq_true h⟩
theorem x_icmp {cn : Jvm.ClassFile.Cond} {off : Int} (h : okX y (pc, .if_icmp cn off, len, ax) = true) : len = 3 ∧ ∃ t, ax = [t] ∧ (pc : Int) + off = (pcN y t : Int) := by
  rcases len with _ | _ | _ | _ | len <;> rcases ax with _ | ⟨a, _ | ⟨b, ax⟩⟩
  all_goals first | exact absurd (show false = true from h) (by decide) | exact ⟨rfl, a, rfl, of_decide_eq_true h⟩
theorem x_goto {off : Int} (h : okX y (pc, .goto off, len, ax) = true) : len = 3 ∧ ∃ t, ax = [t] ∧ (pc : Int) + off = (pcN y t : Int) := by
  rcases len with _ | _ | _ | _ | len <;> rcases ax with _ | ⟨a, _ | ⟨b, ax⟩⟩
  all_goals first | exact absurd (show false = true from h) (by decide) | exact ⟨rfl, a, rfl, of_decide_eq_true h⟩
theorem s_goto {off : Int} (F : Fq y n (pc, .goto off, len, ax)) (hK : ∀ t lo st h u, K t lo st h u → Sem y t lo st h u Q) (hw : wI y Q K (pc, .goto off, len, ax) ct lo st h u) : Sem y n lo st h u Q := by
  obtain ⟨rfl, t, rfl, ht⟩ := x_goto F.x
  have hpc : pc = pcN y n := F.pc
  subst hpc
  intro p l e s m args below meth c dC dI base Z hC hb ac H locs ls hRet hR hS hL hlo hst hu
  exact lv_goto hC.1 hC.2.1 F.dec ht (hK t _ _ _ _ hw p l e s m args below meth c dC dI base Z hC hb ac H locs ls hRet hR hS hL hlo hst hu)
theorem s_icmp {cn : Jvm.ClassFile.Cond} {off : Int} (F : Fq y n (pc, .if_icmp cn off, len, ax)) (hc : ∀ lo st h u, ct lo st h u → Sem y (n + 1) lo st h u Q) (hK : ∀ t lo st h u, K t lo st h u → Sem y t lo st h u Q) (hw : wI y Q K (pc, .if_icmp cn off, len, ax) ct lo st h u) : Sem y n lo st h u Q := by
  obtain ⟨rfl, t, rfl, ht⟩ := x_icmp F.x
  have hpc : pc = pcN y n := F.pc
  subst hpc
  match st, hw with
  | .inl b :: .inl a :: r, hw =>
    intro p l e s m args below meth c dC dI base Z hC hb ac H locs ls hRet hR hS hL hlo hst hu
    have hib : i32 b := (al_cons.mp hst).1
    have hia : i32 a := (al_cons.mp (al_cons.mp hst).2).1
    have hr := (al_cons.mp (al_cons.mp hst).2).2
    have kt : ab_cond cn a b → W p l e (mRm y) s m args below meth c H locs u.1 u.2 Z (F0 m (pcN y t) ls (r.map (cv ac))) := fun q => hK t _ _ _ _ (hw.1 q) p l e s m args below meth c dC dI base Z hC hb ac H locs ls hRet hR hS hL hlo hr hu
    have kf : ¬ ab_cond cn a b → W p l e (mRm y) s m args below meth c H locs u.1 u.2 Z (F0 m (pcN y n + 3) ls (r.map (cv ac))) := fun q => by
      have := hc _ _ _ _ (hw.2 q) p l e s m args below meth c dC dI base Z hC hb ac H locs ls hRet hR hS hL hlo hr hu
      rw [F.nx] at this
      exact this
    cases cn with
    | eq => exact lv_icmp_eq hC.1 hC.2.1 F.dec ht (fun q => kt ((n_eq hia hib).mp q)) (fun q => kf (fun z => q ((n_eq hia hib).mpr z)))
    | ne => exact lv_icmp_ne hC.1 hC.2.1 F.dec ht (fun q => kt (fun z => q ((n_eq hia hib).mpr z))) (fun q => kf (fun z => z ((n_eq hia hib).mp q)))
    | lt => exact lv_icmp_lt hC.1 hC.2.1 F.dec ht (fun q => kt ((n_lt hia hib).mp q)) (fun q => kf (fun z => q ((n_lt hia hib).mpr z)))
    | ge => exact lv_icmp_ge hC.1 hC.2.1 F.dec ht (fun q => kt ((n_le hib hia).mp q)) (fun q => kf (fun z => q ((n_le hib hia).mpr z)))
    | gt => exact lv_icmp_gt hC.1 hC.2.1 F.dec ht (fun q => kt ((n_lt hib hia).mp q)) (fun q => kf (fun z => q ((n_lt hib hia).mpr z)))
    | le => exact lv_icmp_le hC.1 hC.2.1 F.dec ht (fun q => kt ((n_le hia hib).mp q)) (fun q => kf (fun z => q ((n_le hia hib).mpr z)))
theorem s_if {cn : Jvm.ClassFile.Cond} {off : Int} (F : Fq y n (pc, .ifCond cn off, len, ax)) (hc : ∀ lo st h u, ct lo st h u → Sem y (n + 1) lo st h u Q) (hK : ∀ t lo st h u, K t lo st h u → Sem y t lo st h u Q) (hw : wI y Q K (pc, .ifCond cn off, len, ax) ct lo st h u) : Sem y n lo st h u Q := by
  obtain ⟨rfl, t, rfl, ht⟩ := x_if F.x
  have hpc : pc = pcN y n := F.pc
  subst hpc
  match st, hw with
  | .inl a :: r, hw =>
    intro p l e s m args below meth c dC dI base Z hC hb ac H locs ls hRet hR hS hL hlo hst hu
    have hia : i32 a := (al_cons.mp hst).1
    have hib : i32 0 := n_i0
    have hr := (al_cons.mp hst).2
    have kt : ab_cond cn a 0 → W p l e (mRm y) s m args below meth c H locs u.1 u.2 Z (F0 m (pcN y t) ls (r.map (cv ac))) := fun q => hK t _ _ _ _ (hw.1 q) p l e s m args below meth c dC dI base Z hC hb ac H locs ls hRet hR hS hL hlo hr hu
    have kf : ¬ ab_cond cn a 0 → W p l e (mRm y) s m args below meth c H locs u.1 u.2 Z (F0 m (pcN y n + 3) ls (r.map (cv ac))) := fun q => by
      have := hc _ _ _ _ (hw.2 q) p l e s m args below meth c dC dI base Z hC hb ac H locs ls hRet hR hS hL hlo hr hu
      rw [F.nx] at this
      exact this
    cases cn with
    | eq => exact lv_if_eq hC.1 hC.2.1 F.dec ht (fun q => kt ((n_eq hia hib).mp q)) (fun q => kf (fun z => q ((n_eq hia hib).mpr z)))
    | ne => exact lv_if_ne hC.1 hC.2.1 F.dec ht (fun q => kt (fun z => q ((n_eq hia hib).mpr z))) (fun q => kf (fun z => z ((n_eq hia hib).mp q)))
    | lt => exact lv_if_lt hC.1 hC.2.1 F.dec ht (fun q => kt ((n_lt hia hib).mp q)) (fun q => kf (fun z => q ((n_lt hia hib).mpr z)))
    | ge => exact lv_if_ge hC.1 hC.2.1 F.dec ht (fun q => kt ((n_le hib hia).mp q)) (fun q => kf (fun z => q ((n_le hib hia).mpr z)))
    | gt => exact lv_if_gt hC.1 hC.2.1 F.dec ht (fun q => kt ((n_lt hib hia).mp q)) (fun q => kf (fun z => q ((n_lt hib hia).mpr z)))
    | le => exact lv_if_le hC.1 hC.2.1 F.dec ht (fun q => kt ((n_le hia hib).mp q)) (fun q => kf (fun z => q ((n_le hia hib).mpr z)))
/-! switches -/
theorem tgs_at {os : List Int} {ts : List Nat} (h : tgs y pc os ts = true) {j : Nat} {o : Int} {t : Nat} (ho : os[j]? = some o) (ht : ts[j]? = some t) : (pc : Int) + o = (pcN y t : Int) := by
  induction os generalizing ts j with
  | nil => simp at ho
  | cons a r ih =>
    cases ts with
    | nil => simp at ht
    | cons b ts =>
      simp only [tgs, Bool.and_eq_true] at h
      cases j with
      | zero =>
        simp at ho ht
        subst ho; subst ht
        exact of_decide_eq_true h.1
      | succ j => exact ih h.2 (by simpa using ho) (by simpa using ht)
theorem tgs_len {os : List Int} {ts : List Nat} (h : tgs y pc os ts = true) : os.length = ts.length := by
  induction os generalizing ts with
  | nil =>
    cases ts with
    | nil => rfl
    | cons b ts => simp [tgs] at h
  | cons a r ih =>
    cases ts with
    | nil => simp [tgs] at h
    | cons b ts =>
      simp only [tgs, Bool.and_eq_true] at h
      simp [ih h.2]
theorem x_tab {d a b : Int} {os : Array Int} (h : okX y (pc, .tableswitch d a b os, len, ax) = true) : ∃ td ts, ax = td :: ts ∧ (pc : Int) + d = (pcN y td : Int) ∧ tgs y pc os.toList ts = true ∧ b - a + 1 = (ts.length : Int) := by
  rcases ax with _ | ⟨td, ts⟩
  · exact absurd (show false = true from h) (by decide)
  · have h1 := Bool.and_eq_true_iff.mp h
    have h2 := Bool.and_eq_true_iff.mp h1.1
    exact ⟨td, ts, rfl, of_decide_eq_true h2.1, h2.2, of_decide_eq_true h1.2⟩
theorem x_lk {d : Int} {ps : Array (Int × Int)} (h : okX y (pc, .lookupswitch d ps, len, ax) = true) : ∃ td ts, ax = td :: ts ∧ (pc : Int) + d = (pcN y td : Int) ∧ tgs y pc (ps.toList.map (·.2)) ts = true ∧ (ps.toList.zip (ps.toList.drop 1)).all (fun (a, next) => a.1 < next.1) = true := by
  rcases ax with _ | ⟨td, ts⟩
  · exact absurd (show false = true from h) (by decide)
  · have h1 := Bool.and_eq_true_iff.mp h
    have h2 := Bool.and_eq_true_iff.mp h1.1
    exact ⟨td, ts, rfl, of_decide_eq_true h2.1, h2.2, of_decide_eq_true h1.2⟩
theorem wTab_at {z : Int} {b : Int} {ts : List Nat} (hh : wTab K z lo st h u b ts) {j : Nat} {t : Nat} (ht : ts[j]? = some t) (hz : z = b + j) : K t lo st h u := by
  induction ts generalizing b j with
  | nil => simp at ht
  | cons a r ih =>
    obtain ⟨h1, h2⟩ := hh
    cases j with
    | zero =>
      simp at ht
      subst ht
      exact h1 (by omega)
    | succ j => exact ih h2 (by simpa using ht) (by omega)
theorem s_tab {d a b : Int} {os : Array Int} (F : Fq y n (pc, .tableswitch d a b os, len, ax)) (hK : ∀ t lo st h u, K t lo st h u → Sem y t lo st h u Q) (hw : wI y Q K (pc, .tableswitch d a b os, len, ax) ct lo st h u) : Sem y n lo st h u Q := by
  obtain ⟨td, ts, rfl, hd, hts, hn⟩ := x_tab F.x
  have hpc : pc = pcN y n := F.pc
  subst hpc
  match st, hw with
  | .inl z :: r, hw =>
    intro p l e s m args below meth c dC dI base Z hC hb ac H locs ls hRet hR hS hL hlo hst hu
    have hz : i32 z := (al_cons.mp hst).1
    by_cases hin : z < a ∨ b < z
    · exact lv_tableOut hC.1 hC.2.1 F.dec (by rw [n_ti hz]; exact hin) hd (hK td _ _ _ _ (hw.1 hin) p l e s m args below meth c dC dI base Z hC hb ac H locs ls hRet hR hS hL hlo (al_cons.mp hst).2 hu)
    · have hlen := tgs_len hts
      have hj : (z - a).toNat < ts.length := by omega
      have hj2 : (z - a).toNat < os.toList.length := by omega
      have e1 : os[(z - a).toNat]? = some (os.toList[(z - a).toNat]) := by
        rw [← Array.getElem?_toList]
        exact List.getElem?_eq_getElem hj2
      have e2 : ts[(z - a).toNat]? = some ts[(z - a).toNat] := List.getElem?_eq_getElem hj
      exact lv_tableIn hC.1 hC.2.1 F.dec (by rw [n_ti hz]; omega) (by rw [n_ti hz]; omega) (by rw [n_ti hz]; exact e1) (tgs_at hts (List.getElem?_eq_getElem hj2) e2) (hK _ _ _ _ _ (wTab_at hw.2 e2 (by omega)) p l e s m args below meth c dC dI base Z hC hb ac H locs ls hRet hR hS hL hlo (al_cons.mp hst).2 hu)
theorem lk_go {z : Int} {td : Nat} {d : Int} (hd : (pc : Int) + d = (pcN y td : Int)) : ∀ (ps : List (Int × Int)) (ts : List Nat), tgs y pc (ps.map (·.2)) ts = true → wLk K z lo st h u td ps ts → ∃ t, K t lo st h u ∧ (pc : Int) + Op.lookupswitch.offset ps d z = (pcN y t : Int) := by
  intro ps
  induction ps with
  | nil =>
    intro ts _ hw
    exact ⟨td, by simpa [wLk] using hw, hd⟩
  | cons q ps ih =>
    intro ts ht hw
    obtain ⟨k, o⟩ := q
    cases ts with
    | nil => simp [tgs] at ht
    | cons t ts =>
      simp only [List.map_cons, tgs, Bool.and_eq_true] at ht
      obtain ⟨h1, h2⟩ := hw
      rw [Op.lookupswitch.offset_cons]
      by_cases hk : k = z
      · rw [if_pos hk]
        exact ⟨t, h1 hk.symm, of_decide_eq_true ht.1⟩
      · rw [if_neg hk]
        exact ih ts ht.2 (h2 (fun q => hk q.symm))
theorem s_lk {d : Int} {ps : Array (Int × Int)} (F : Fq y n (pc, .lookupswitch d ps, len, ax)) (hK : ∀ t lo st h u, K t lo st h u → Sem y t lo st h u Q) (hw : wI y Q K (pc, .lookupswitch d ps, len, ax) ct lo st h u) : Sem y n lo st h u Q := by
  obtain ⟨td, ts, rfl, hd, hts, hn⟩ := x_lk F.x
  have hpc : pc = pcN y n := F.pc
  subst hpc
  match st, hw with
  | .inl z :: r, hw =>
    intro p l e s m args below meth c dC dI base Z hC hb ac H locs ls hRet hR hS hL hlo hst hu
    have hz : i32 z := (al_cons.mp hst).1
    obtain ⟨t, h1, h2⟩ := lk_go hd ps.toList ts hts hw
    exact lv_lookup hC.1 hC.2.1 F.dec hn (by rw [n_ti hz]) h2 (hK t _ _ _ _ h1 p l e s m args below meth c dC dI base Z hC hb ac H locs ls hRet hR hS hL hlo (al_cons.mp hst).2 hu)
end Steps

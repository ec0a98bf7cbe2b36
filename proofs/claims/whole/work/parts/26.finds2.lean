/-! finds: the class -/
section Finds2
variable {L : Nat} {D : ab_D}
abbrev tch (a b : Int) : Prop := (-1 ≤ a / 10 - b / 10 ∧ a / 10 - b / 10 ≤ 1) ∧ (-1 ≤ a % 10 - b % 10 ∧ a % 10 - b % 10 ≤ 1)
abbrev kin (c y : Nat → Int) (i j : Nat) : Prop := tch (c i) (c j) ∧ (-1 ≤ y i - y j ∧ y i - y j ≤ 1)
theorem kin_symm {c y : Nat → Int} {i j : Nat} (h : kin c y i j) : kin c y j i := by
  obtain ⟨⟨h1, h2⟩, h3⟩ := h
  exact ⟨⟨by omega, by omega⟩, by omega⟩
theorem f_touch {E : ab_E} {a b : Int} (ha : 0 ≤ a ∧ a < 1000) (hb : 0 ≤ b ∧ b < 1000) : CB 11 [vI a, vI b] E D (tch a b) := by
  have e1 : ∀ x : Int, ((1 : Int) < if 0 ≤ x then x else -x) ↔ ¬ (-1 ≤ x ∧ x ≤ 1) := by
    intro x
    split <;> omega
  refine Sx.un (y := 11) (n := 0) (lo := [vI a, vI b]) (st := []) (u := (0, 0)) ?_
  refine go_11_0 ?_
  simp only [sg_11_0, cl_I, cl_L, cl_R, e_abs, e_bipush, e_goto, e_icmp_gt, e_iconst, e_idiv, e_iload_n, e_irem, e_isub, e_nil, l_ld0, l_ld1, lc_lt, lc_le, lc_gt, lc_ge, lc_eq, true_and, and_true, List.length_cons, List.length_nil, ab_ia, Nat.reduceAdd, Nat.reduceLeDiff, Nat.reduceEqDiff, Nat.reduceLT, Int.reduceLT, Int.reduceLE, Int.reduceEq, Int.reduceNeg, true_or, or_true, false_or, or_false, not_false_eq_true, not_true_eq_false, false_implies, true_implies, forall_const, implies_true, Nat.zero_le, Nat.le_refl]
  refine ⟨by omega, by omega, ⟨by omega, by omega⟩, ⟨by omega, by omega⟩, fun h1 => ?_, fun h1 => ⟨by omega, by omega, ⟨by omega, by omega⟩, ⟨by omega, by omega⟩, fun h2 => ?_, fun h2 => ?_⟩⟩
  · rw [e1] at h1
    refine go_11_22 ?_
    simp only [sg_11_22, cl_I, cl_L, cl_R, e_iconst, e_iret1, e_nil, lc_lt, lc_le, lc_gt, lc_ge, lc_eq, true_and, and_true, List.length_cons, List.length_nil, ab_ia, Nat.reduceAdd, Nat.reduceLeDiff, Nat.reduceEqDiff, Nat.reduceLT, Int.reduceLT, Int.reduceLE, Int.reduceEq, Int.reduceNeg, true_or, or_true, false_or, or_false, not_false_eq_true, not_true_eq_false, false_implies, true_implies, forall_const, implies_true, Nat.zero_le, Nat.le_refl]
    exact retB0 (fun q => h1 q.1)
  · rw [e1] at h2
    refine go_11_22 ?_
    simp only [sg_11_22, cl_I, cl_L, cl_R, e_iconst, e_iret1, e_nil, lc_lt, lc_le, lc_gt, lc_ge, lc_eq, true_and, and_true, List.length_cons, List.length_nil, ab_ia, Nat.reduceAdd, Nat.reduceLeDiff, Nat.reduceEqDiff, Nat.reduceLT, Int.reduceLT, Int.reduceLE, Int.reduceEq, Int.reduceNeg, true_or, or_true, false_or, or_false, not_false_eq_true, not_true_eq_false, false_implies, true_implies, forall_const, implies_true, Nat.zero_le, Nat.le_refl]
    exact retB0 (fun q => h2 q.2)
  · rw [e1, Classical.not_not] at h1 h2
    refine go_11_23 ?_
    simp only [sg_11_23, cl_I, cl_L, cl_R, e_iret1, e_nil, lc_lt, lc_le, lc_gt, lc_ge, lc_eq, true_and, and_true, List.length_cons, List.length_nil, ab_ia, Nat.reduceAdd, Nat.reduceLeDiff, Nat.reduceEqDiff, Nat.reduceLT, Int.reduceLT, Int.reduceLE, Int.reduceEq, Int.reduceNeg, true_or, or_true, false_or, or_false, not_false_eq_true, not_true_eq_false, false_implies, true_implies, forall_const, implies_true, Nat.zero_le, Nat.le_refl]
    exact retB1 ⟨h1, h2⟩
/-- what the finds' rows are -/
def fOK (N : Int) (c y : Nat → Int) : Prop := (0 ≤ N ∧ N ≤ 16) ∧ ∀ i : Nat, (i : Int) < N → (0 ≤ c i ∧ c i ≤ 55) ∧ (0 ≤ y i ∧ y i < 60)
theorem f_areKin {f g : Int} (hk : fOK (D 63 1) (D 64) (D 65)) (hf : 0 ≤ f ∧ f < D 63 1) (hg : 0 ≤ g ∧ g < D 63 1) : CB 10 [vR 63, vI f, vI g] (EE L) D (kin (D 64) (D 65) f.toNat g.toNat) := by
  have e1 : ∀ x : Int, ((1 : Int) < if 0 ≤ x then x else -x) ↔ ¬ (-1 ≤ x ∧ x ≤ 1) := by
    intro x
    split <;> omega
  have h1 := hk.2 f.toNat (by omega)
  have h2 := hk.2 g.toNat (by omega)
  have h3 := hk.1
  refine Sx.un (y := 10) (n := 0) (lo := [vR 63, vI f, vI g]) (st := []) (u := (0, 0)) ?_
  refine go_10_0 ?_
  simp only [sg_10_0, cl_I, cl_L, cl_R, e_abs, e_aload_n, e_cs2, e_get1, e_goto, e_iaload, e_icmp_gt, e_iconst, e_if_eq, e_iload_n, e_isub, e_nil, fl_0, fl_I, fl_L, fl_R, l_ld1, l_ld2, l_ldA0, rk_1, wRef_some, EE_n, EE_r63_2, EE_r63_3, EE_s63, EE_s64, EE_s65, lc_lt, lc_le, lc_gt, lc_ge, lc_eq, true_and, and_true, List.length_cons, List.length_nil, ab_ia, Nat.reduceAdd, Nat.reduceLeDiff, Nat.reduceEqDiff, Nat.reduceLT, Int.reduceLT, Int.reduceLE, Int.reduceEq, Int.reduceNeg, true_or, or_true, false_or, or_false, not_false_eq_true, not_true_eq_false, false_implies, true_implies, forall_const, implies_true, Nat.zero_le, Nat.le_refl]
  refine ⟨by omega, by omega, ?_⟩
  refine CB.use (f_touch (by omega) (by omega)) (fun h4 => ?_) (fun h4 => ?_)
  · try simp only [lc_lt, lc_le, lc_gt, lc_ge, lc_eq, true_and, and_true, List.length_cons, List.length_nil, ab_ia, Nat.reduceAdd, Nat.reduceLeDiff, Nat.reduceEqDiff, Nat.reduceLT, Int.reduceLT, Int.reduceLE, Int.reduceEq, Int.reduceNeg, true_or, or_true, false_or, or_false, not_false_eq_true, not_true_eq_false, false_implies, true_implies, forall_const, implies_true, Nat.zero_le, Nat.le_refl]
    refine ⟨by omega, by omega, ⟨by omega, by omega⟩, ⟨by omega, by omega⟩, fun h5 => ?_, fun h5 => ?_⟩
    · rw [e1] at h5
      refine go_10_24 ?_
      simp only [sg_10_24, cl_I, cl_L, cl_R, e_iconst, e_iret1, e_nil, lc_lt, lc_le, lc_gt, lc_ge, lc_eq, true_and, and_true, List.length_cons, List.length_nil, ab_ia, Nat.reduceAdd, Nat.reduceLeDiff, Nat.reduceEqDiff, Nat.reduceLT, Int.reduceLT, Int.reduceLE, Int.reduceEq, Int.reduceNeg, true_or, or_true, false_or, or_false, not_false_eq_true, not_true_eq_false, false_implies, true_implies, forall_const, implies_true, Nat.zero_le, Nat.le_refl]
      exact retB0 (fun q => h5 q.2)
    · rw [e1, Classical.not_not] at h5
      refine go_10_25 ?_
      simp only [sg_10_25, cl_I, cl_L, cl_R, e_iret1, e_nil, lc_lt, lc_le, lc_gt, lc_ge, lc_eq, true_and, and_true, List.length_cons, List.length_nil, ab_ia, Nat.reduceAdd, Nat.reduceLeDiff, Nat.reduceEqDiff, Nat.reduceLT, Int.reduceLT, Int.reduceLE, Int.reduceEq, Int.reduceNeg, true_or, or_true, false_or, or_false, not_false_eq_true, not_true_eq_false, false_implies, true_implies, forall_const, implies_true, Nat.zero_le, Nat.le_refl]
      exact retB1 ⟨h4, h5⟩
  · try simp only [lc_lt, lc_le, lc_gt, lc_ge, lc_eq, true_and, and_true, List.length_cons, List.length_nil, ab_ia, Nat.reduceAdd, Nat.reduceLeDiff, Nat.reduceEqDiff, Nat.reduceLT, Int.reduceLT, Int.reduceLE, Int.reduceEq, Int.reduceNeg, true_or, or_true, false_or, or_false, not_false_eq_true, not_true_eq_false, false_implies, true_implies, forall_const, implies_true, Nat.zero_le, Nat.le_refl]
    refine go_10_24 ?_
    simp only [sg_10_24, cl_I, cl_L, cl_R, e_iconst, e_iret1, e_nil, lc_lt, lc_le, lc_gt, lc_ge, lc_eq, true_and, and_true, List.length_cons, List.length_nil, ab_ia, Nat.reduceAdd, Nat.reduceLeDiff, Nat.reduceEqDiff, Nat.reduceLT, Int.reduceLT, Int.reduceLE, Int.reduceEq, Int.reduceNeg, true_or, or_true, false_or, or_false, not_false_eq_true, not_true_eq_false, false_implies, true_implies, forall_const, implies_true, Nat.zero_le, Nat.le_refl]
    exact retB0 (fun q => h4 q.1)
theorem f_join_loop {Q : Option ab_V → ab_H → Prop} {a b lst mst : Int} {l : Nat → Int} (hN : 0 ≤ D 63 1 ∧ D 63 1 ≤ 16) (hm : 0 ≤ mst) (hq : Q none (EE L, upr D 66 (fun j => if (mst ≤ j ∧ (j : Int) < D 63 1) ∧ l j = mst then lst else l j))) :
    ∀ (t : Nat) (k : Int), mst ≤ k → D 63 1 ≤ k + t → Sx 9 10 [vR 63, vI a, vI b, vI lst, vI mst, vI k] [] (EE L, upr D 66 (fun j => if (mst ≤ j ∧ (j : Int) < k ∧ (j : Int) < D 63 1) ∧ l j = mst then lst else l j)) (0, 0) Q := by
  intro t
  have e63 : ∀ g : Nat → Int, upr D 66 g 63 1 = D 63 1 := fun g => by rw [upr_ne (by decide)]
  have fin : ∀ k : Int, mst ≤ k → D 63 1 ≤ k → Sx 9 10 [vR 63, vI a, vI b, vI lst, vI mst, vI k] [] (EE L, upr D 66 (fun j => if (mst ≤ j ∧ (j : Int) < k ∧ (j : Int) < D 63 1) ∧ l j = mst then lst else l j)) (0, 0) Q := by
    intro k hk1 hk2
    refine go_9_10 ?_
    simp only [sg_9_10, cl_I, cl_L, cl_R, e_aload_n, e_get0, e_get1, e_goto, e_iaload, e_iastore, e_icmp_ge, e_icmp_ne, e_iinc, e_iload, e_iload_n, e_nil, l_inc5, l_ld3, l_ld4, l_ld5, l_ldA0, wRef_some, EE_n, EE_r63_4, EE_s63, EE_s66, e63, lc_lt, lc_le, lc_gt, lc_ge, lc_eq, true_and, and_true, List.length_cons, List.length_nil, ab_ia, Nat.reduceAdd, Nat.reduceLeDiff, Nat.reduceEqDiff, Nat.reduceLT, Int.reduceLT, Int.reduceLE, Int.reduceEq, Int.reduceNeg, true_or, or_true, false_or, or_false, not_false_eq_true, not_true_eq_false, false_implies, true_implies, forall_const, implies_true, Nat.zero_le, Nat.le_refl]
    refine ⟨fun _ => ?_, fun hc => absurd hc (by omega)⟩
    refine go_9_27 ?_
    simp only [sg_9_27, cl_I, cl_L, cl_R, e_nil, e_vret, lc_lt, lc_le, lc_gt, lc_ge, lc_eq, true_and, and_true, List.length_cons, List.length_nil, ab_ia, Nat.reduceAdd, Nat.reduceLeDiff, Nat.reduceEqDiff, Nat.reduceLT, Int.reduceLT, Int.reduceLE, Int.reduceEq, Int.reduceNeg, true_or, or_true, false_or, or_false, not_false_eq_true, not_true_eq_false, false_implies, true_implies, forall_const, implies_true, Nat.zero_le, Nat.le_refl]
    have e : (fun j : Nat => if (mst ≤ j ∧ (j : Int) < k ∧ (j : Int) < D 63 1) ∧ l j = mst then lst else l j) = (fun j : Nat => if (mst ≤ j ∧ (j : Int) < D 63 1) ∧ l j = mst then lst else l j) := by
      funext j
      by_cases q : (mst ≤ j ∧ (j : Int) < D 63 1) ∧ l j = mst
      · rw [if_pos q, if_pos ⟨⟨q.1.1, by omega, q.1.2⟩, q.2⟩]
      · rw [if_neg q, if_neg (fun z => q ⟨⟨z.1.1, z.1.2.2⟩, z.2⟩)]
    rw [e]
    exact hq
  induction t with
  | zero => intro k hk1 hk2; exact fin k hk1 (by omega)
  | succ t ih =>
    intro k hk1 hk2
    by_cases hk3 : D 63 1 ≤ k
    · exact fin k hk1 hk3
    · have hstep : ∀ g : Nat → Int, (∀ j : Nat, g j = if (mst ≤ j ∧ (j : Int) < k + 1 ∧ (j : Int) < D 63 1) ∧ l j = mst then lst else l j) → Sx 9 25 [vR 63, vI a, vI b, vI lst, vI mst, vI k] [] (EE L, upr D 66 g) (0, 0) Q := by
        intro g hg
        refine go_9_25 ?_
        simp only [sg_9_25, cl_I, cl_L, cl_R, e_goto, e_iinc, e_nil, l_inc5, lc_lt, lc_le, lc_gt, lc_ge, lc_eq, true_and, and_true, List.length_cons, List.length_nil, ab_ia, Nat.reduceAdd, Nat.reduceLeDiff, Nat.reduceEqDiff, Nat.reduceLT, Int.reduceLT, Int.reduceLE, Int.reduceEq, Int.reduceNeg, true_or, or_true, false_or, or_false, not_false_eq_true, not_true_eq_false, false_implies, true_implies, forall_const, implies_true, Nat.zero_le, Nat.le_refl]
        refine ⟨⟨by omega, by omega⟩, ?_⟩
        have e : g = (fun j : Nat => if (mst ≤ j ∧ (j : Int) < k + 1 ∧ (j : Int) < D 63 1) ∧ l j = mst then lst else l j) := funext hg
        rw [e]
        exact ih (k + 1) (by omega) (by omega)
      have ek : (if (mst ≤ (k.toNat : Int) ∧ (k.toNat : Int) < k ∧ (k.toNat : Int) < D 63 1) ∧ l k.toNat = mst then lst else l k.toNat) = l k.toNat := if_neg (by omega)
      refine go_9_10 ?_
      simp only [sg_9_10, cl_I, cl_L, cl_R, e_aload_n, e_get0, e_get1, e_goto, e_iaload, e_iastore, e_icmp_ge, e_icmp_ne, e_iinc, e_iload, e_iload_n, e_nil, l_inc5, l_ld3, l_ld4, l_ld5, l_ldA0, wRef_some, EE_n, EE_r63_4, EE_s63, EE_s66, e63, upr_self, lc_lt, lc_le, lc_gt, lc_ge, lc_eq, true_and, and_true, List.length_cons, List.length_nil, ab_ia, Nat.reduceAdd, Nat.reduceLeDiff, Nat.reduceEqDiff, Nat.reduceLT, Int.reduceLT, Int.reduceLE, Int.reduceEq, Int.reduceNeg, true_or, or_true, false_or, or_false, not_false_eq_true, not_true_eq_false, false_implies, true_implies, forall_const, implies_true, Nat.zero_le, Nat.le_refl]
      rw [ek]
      refine ⟨fun hc => absurd hc (by omega), fun _ => ⟨by omega, fun h1 => ?_, fun h1 => ⟨by omega, ⟨by omega, by omega⟩, ?_⟩⟩⟩
      · refine hstep _ (fun j => ?_)
        by_cases hj : j = k.toNat
        · subst hj
          rw [if_neg (by omega), if_neg (fun z => h1 z.2)]
        · have : ((j : Int) < k + 1) ↔ (j : Int) < k := by omega
          simp only [this]
      · rw [Classical.not_not] at h1
        rw [ups_upr (g := fun j : Nat => if (mst ≤ j ∧ (j : Int) < k + 1 ∧ (j : Int) < D 63 1) ∧ l j = mst then lst else l j)]
        · exact ih (k + 1) (by omega) (by omega)
        · intro j
          by_cases hj : j = k.toNat
          · subst hj
            rw [if_pos (by omega), if_pos rfl]
          · have : ((j : Int) < k + 1) ↔ (j : Int) < k := by omega
            rw [if_neg hj]
            simp only [this]
theorem f_join {a b : Int} {l : Nat → Int} (hN : 0 ≤ D 63 1 ∧ D 63 1 ≤ 16) (ha : 0 ≤ a) (hb : 0 ≤ b) : CV 9 [vR 63, vI a, vI b] (EE L, upr D 66 l) (fun D' => D' = upr D 66 (fun j => if ((if a < b then b else a) ≤ j ∧ (j : Int) < D 63 1) ∧ l j = (if a < b then b else a) then (if b < a then b else a) else l j)) := by
  refine Sx.un (y := 9) (n := 0) (lo := [vR 63, vI a, vI b, vU, vU, vU]) (st := []) (u := (0, 0)) ?_
  refine go_9_0 ?_
  simp only [sg_9_0, cl_I, cl_L, cl_R, e_iload, e_iload_n, e_istore, e_istore_n, e_max, e_min, e_nil, l_ld1, l_ld2, l_ld4, l_st3, l_st4, l_st5, lc_lt, lc_le, lc_gt, lc_ge, lc_eq, true_and, and_true, List.length_cons, List.length_nil, ab_ia, Nat.reduceAdd, Nat.reduceLeDiff, Nat.reduceEqDiff, Nat.reduceLT, Int.reduceLT, Int.reduceLE, Int.reduceEq, Int.reduceNeg, true_or, or_true, false_or, or_false, not_false_eq_true, not_true_eq_false, false_implies, true_implies, forall_const, implies_true, Nat.zero_le, Nat.le_refl]
  have hm : 0 ≤ (if a < b then b else a) := by split <;> omega
  have := f_join_loop (L := L) (D := D) (a := a) (b := b) (lst := if b < a then b else a) (mst := if a < b then b else a) (l := l) hN hm (Q := fun r h' => ∃ D', r = none ∧ h' = (EE L, D') ∧ D' = upr D 66 (fun j => if ((if a < b then b else a) ≤ j ∧ (j : Int) < D 63 1) ∧ l j = (if a < b then b else a) then (if b < a then b else a) else l j)) ⟨_, rfl, rfl, rfl⟩ (D 63 1).toNat (if a < b then b else a) (by omega) (by omega)
  have e : (fun j : Nat => if ((if a < b then b else a) ≤ (j : Int) ∧ (j : Int) < (if a < b then b else a) ∧ (j : Int) < D 63 1) ∧ l j = (if a < b then b else a) then (if b < a then b else a) else l j) = l := by
    funext j
    exact if_neg (by omega)
  rw [e] at this
  exact this
/-- the edges that have been looked at: all among the first f, and those of f with the first g -/
def seen (c y : Nat → Int) (f g : Nat) (i j : Nat) : Prop := kin c y i j ∧ ((j < i ∧ i < f) ∨ (i = f ∧ j < g))
theorem f_rg_in {Q : Option ab_V → ab_H → Prop} {f : Int} (hk : fOK (D 63 1) (D 64) (D 65)) (hf : 0 ≤ f ∧ f < D 63 1)
    (nx : ∀ (l : Nat → Int) (h : Nat → Nat), isLab (f.toNat + 1) (seen (D 64) (D 65) f.toNat f.toNat) h → (∀ i : Nat, (i : Int) ≤ f → l i = h i) → ∀ x2 : ab_V, Sx 8 33 [vR 63, vI f, x2] [] (EE L, upr D 66 l) (0, 0) Q) :
    ∀ (t : Nat) (g : Int) (l : Nat → Int) (h : Nat → Nat), 0 ≤ g → g + t = f → isLab (f.toNat + 1) (seen (D 64) (D 65) f.toNat g.toNat) h → (∀ i : Nat, (i : Int) ≤ f → l i = h i) → Sx 8 13 [vR 63, vI f, vI g] [] (EE L, upr D 66 l) (0, 0) Q := by
  have e63 : ∀ (w : Nat → Int), upr D 66 w 63 = D 63 := fun w => upr_ne (by decide)
  have e64 : ∀ (w : Nat → Int), upr D 66 w 64 = D 64 := fun w => upr_ne (by decide)
  have e65 : ∀ (w : Nat → Int), upr D 66 w 65 = D 65 := fun w => upr_ne (by decide)
  have h16 := hk.1
  intro t
  induction t with
  | zero =>
    intro g l h hg0 hg hl hlh
    refine go_8_13 ?_
    simp only [sg_8_13, cl_I, cl_L, cl_R, e_aload_n, e_cv3, e_get1, e_goto, e_iaload, e_icmp_ge, e_if_eq, e_iinc, e_iload_n, e_nil, fl_0, fl_I, fl_L, fl_R, l_inc2, l_ld1, l_ld2, l_ldA0, rk_0, rk_1, wRef_some, EE_n, EE_r63_4, EE_s63, EE_s66, lc_lt, lc_le, lc_gt, lc_ge, lc_eq, true_and, and_true, List.length_cons, List.length_nil, ab_ia, Nat.reduceAdd, Nat.reduceLeDiff, Nat.reduceEqDiff, Nat.reduceLT, Int.reduceLT, Int.reduceLE, Int.reduceEq, Int.reduceNeg, true_or, or_true, false_or, or_false, not_false_eq_true, not_true_eq_false, false_implies, true_implies, forall_const, implies_true, Nat.zero_le, Nat.le_refl]
    refine ⟨fun _ => ?_, fun hc => absurd hc (by omega)⟩
    have e : g = f := by omega
    subst e
    exact nx l h hl hlh _
  | succ t ih =>
    intro g l h hg0 hg hl hlh
    have step : ∀ (l : Nat → Int) (h : Nat → Nat), isLab (f.toNat + 1) (seen (D 64) (D 65) f.toNat (g + 1).toNat) h → (∀ i : Nat, (i : Int) ≤ f → l i = h i) → Sx 8 31 [vR 63, vI f, vI g] [] (EE L, upr D 66 l) (0, 0) Q := by
      intro l h hl hlh
      refine go_8_31 ?_
      simp only [sg_8_31, cl_I, cl_L, cl_R, e_goto, e_iinc, e_nil, l_inc2, lc_lt, lc_le, lc_gt, lc_ge, lc_eq, true_and, and_true, List.length_cons, List.length_nil, ab_ia, Nat.reduceAdd, Nat.reduceLeDiff, Nat.reduceEqDiff, Nat.reduceLT, Int.reduceLT, Int.reduceLE, Int.reduceEq, Int.reduceNeg, true_or, or_true, false_or, or_false, not_false_eq_true, not_true_eq_false, false_implies, true_implies, forall_const, implies_true, Nat.zero_le, Nat.le_refl]
      exact ⟨⟨by omega, by omega⟩, ih (g + 1) l h (by omega) (by omega) hl hlh⟩
    refine go_8_13 ?_
    simp only [sg_8_13, cl_I, cl_L, cl_R, e_aload_n, e_cv3, e_get1, e_goto, e_iaload, e_icmp_ge, e_if_eq, e_iinc, e_iload_n, e_nil, fl_0, fl_I, fl_L, fl_R, l_inc2, l_ld1, l_ld2, l_ldA0, rk_0, rk_1, wRef_some, EE_n, EE_r63_4, EE_s63, EE_s66, upr_self, lc_lt, lc_le, lc_gt, lc_ge, lc_eq, true_and, and_true, List.length_cons, List.length_nil, ab_ia, Nat.reduceAdd, Nat.reduceLeDiff, Nat.reduceEqDiff, Nat.reduceLT, Int.reduceLT, Int.reduceLE, Int.reduceEq, Int.reduceNeg, true_or, or_true, false_or, or_false, not_false_eq_true, not_true_eq_false, false_implies, true_implies, forall_const, implies_true, Nat.zero_le, Nat.le_refl]
    refine ⟨fun hc => absurd hc (by omega), fun _ => ?_⟩
    have hK : CB 10 [vR 63, vI f, vI g] (EE L) (upr D 66 l) (kin (D 64) (D 65) f.toNat g.toNat) := by
      have := f_areKin (L := L) (D := upr D 66 l) (f := f) (g := g) (by rw [e63, e64, e65]; exact hk) (by rw [e63]; omega) (by rw [e63]; omega)
      rw [e64, e65] at this
      exact this
    have eg : (g + 1).toNat = g.toNat + 1 := by omega
    refine CB.use hK (fun h1 => ?_) (fun h1 => ?_)
    · try simp only [lc_lt, lc_le, lc_gt, lc_ge, lc_eq, true_and, and_true, List.length_cons, List.length_nil, ab_ia, Nat.reduceAdd, Nat.reduceLeDiff, Nat.reduceEqDiff, Nat.reduceLT, Int.reduceLT, Int.reduceLE, Int.reduceEq, Int.reduceNeg, true_or, or_true, false_or, or_false, not_false_eq_true, not_true_eq_false, false_implies, true_implies, forall_const, implies_true, Nat.zero_le, Nat.le_refl]
      have hlf := hlh f.toNat (by omega)
      have hlg := hlh g.toNat (by omega)
      refine ⟨by omega, by omega, ?_⟩
      rw [upr_self, hlf, hlg]
      refine CV.use (f_join h16 (by omega) (by omega)) ?_
      refine ⟨⟨by omega, by omega⟩, ?_⟩
      have hj := isLab_join hl (a := f.toNat) (b := g.toNat) (by omega) (by omega)
      refine ih (g + 1) _ (fun i => if h i = max (h f.toNat) (h g.toNat) then min (h f.toNat) (h g.toNat) else h i) (by omega) (by omega) ?_ ?_
      · refine isLab_eqv hj (fun _ _ => rfl) ?_ ?_
        · intro i j hi hj2 r
          rcases r with ⟨r1, r2⟩
          rw [eg] at r2
          by_cases q : i = f.toNat ∧ j = g.toNat
          · exact hj.2.1 i j hi hj2 (Or.inr q)
          · exact hj.2.1 i j hi hj2 (Or.inl ⟨r1, by omega⟩)
        · intro i j hi hj2 r
          rcases r with ⟨r1, r2⟩ | ⟨rfl, rfl⟩
          · exact ⟨r1, by rw [eg]; omega⟩
          · exact ⟨h1, by omega⟩
      · intro i hi
        have hii := hlh i hi
        have hle := hl.1 i (by omega)
        have hle1 := hl.1 f.toNat (by omega)
        have hle2 := hl.1 g.toNat (by omega)
        have em : (if (h f.toNat : Int) < (h g.toNat : Int) then (h g.toNat : Int) else (h f.toNat : Int)) = ((max (h f.toNat) (h g.toNat) : Nat) : Int) := by
          split <;> omega
        have en : (if (h g.toNat : Int) < (h f.toNat : Int) then (h g.toNat : Int) else (h f.toNat : Int)) = ((min (h f.toNat) (h g.toNat) : Nat) : Int) := by
          split <;> omega
        try dsimp only
        rw [em, en]
        by_cases q : h i = max (h f.toNat) (h g.toNat)
        · rw [if_pos (by omega), if_pos q]
        · rw [if_neg (fun z => q (by have := z.2; omega)), if_neg q, hii]
    · try simp only [lc_lt, lc_le, lc_gt, lc_ge, lc_eq, true_and, and_true, List.length_cons, List.length_nil, ab_ia, Nat.reduceAdd, Nat.reduceLeDiff, Nat.reduceEqDiff, Nat.reduceLT, Int.reduceLT, Int.reduceLE, Int.reduceEq, Int.reduceNeg, true_or, or_true, false_or, or_false, not_false_eq_true, not_true_eq_false, false_implies, true_implies, forall_const, implies_true, Nat.zero_le, Nat.le_refl]
      refine step l h ?_ hlh
      refine isLab_eqv hl (fun _ _ => rfl) ?_ ?_
      · intro i j hi hj2 r
        rcases r with ⟨r1, r2⟩
        rw [eg] at r2
        by_cases q : i = f.toNat ∧ j = g.toNat
        · rw [q.1, q.2] at r1
          exact absurd r1 h1
        · exact hl.2.1 i j hi hj2 ⟨r1, by omega⟩
      · intro i j hi hj2 r
        exact ⟨r.1, by have := r.2; rw [eg]; omega⟩
end Finds2

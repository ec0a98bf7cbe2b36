/-! finds: the calls -/
def isG (E : ab_E) (g : Nat) : Prop := (g < E.1 ∧ E.2.1 g = (4, 0)) ∧ (E.2.2 g 0 = some (g + 1) ∧ E.2.2 g 1 = some (g + 2)) ∧ (g + 1 < E.1 ∧ E.2.1 (g + 1) = (0, 8)) ∧ (g + 2 < E.1 ∧ E.2.1 (g + 2) = (0, 56))
theorem isG6 {L : Nat} : isG (EE L) 6 := ⟨⟨by rw [EE_n]; decide, EE_s6⟩, ⟨EE_r6_0, EE_r6_1⟩, ⟨by rw [EE_n]; decide, EE_s7⟩, ⟨by rw [EE_n]; decide, EE_s8⟩⟩
theorem isG3 {L : Nat} : isG (EE L) 3 := ⟨⟨by rw [EE_n]; decide, EE_s3⟩, ⟨EE_r3_0, EE_r3_1⟩, ⟨by rw [EE_n]; decide, EE_s4⟩, ⟨by rw [EE_n]; decide, EE_s5⟩⟩
/-- a cell of a lake of n by n -/
abbrev isCl (n c : Int) : Prop := 0 ≤ c ∧ c / 10 < n ∧ c % 10 < n
section Finds5
variable {L : Nat} {D : ab_D}
theorem g_hasCell {E : ab_E} {g : Nat} {c : Int} (hg : isG E g) : CB 22 [vR g, vI c] E D (isCl (D (g + 1) 0) c) := by
  obtain ⟨⟨g1, g2⟩, ⟨g3, g4⟩, ⟨g5, g6⟩, g7, g8⟩ := hg
  refine Sx.un (y := 22) (n := 0) (lo := [vR g, vI c]) (st := []) (u := (0, 0)) ?_
  refine go_22_0 ?_
  simp only [sg_22_0, cl_I, cl_L, cl_R, e_aload_n, e_bipush, e_get1, e_goto, e_iaload, e_icmp_ge, e_iconst, e_idiv, e_if_lt, e_iload_n, e_irem, e_nil, l_ld1, l_ldA0, wRef_some, g1, g2, g3, g4, g5, g6, g7, g8, lc_lt, lc_le, lc_gt, lc_ge, lc_eq, true_and, and_true, List.length_cons, List.length_nil, ab_ia, Nat.reduceAdd, Nat.reduceLeDiff, Nat.reduceEqDiff, Nat.reduceLT, Int.reduceLT, Int.reduceLE, Int.reduceEq, Int.reduceNeg, true_or, or_true, false_or, or_false, not_false_eq_true, not_true_eq_false, false_implies, true_implies, forall_const, implies_true, Nat.zero_le, Nat.le_refl]
  have e0 : (0 : Int).toNat = 0 := rfl
  refine ⟨fun h1 => ?_, fun h1 => ⟨by omega, by omega, fun h2 => ?_, fun h2 => ⟨by omega, by omega, fun h3 => ?_, fun h3 => ?_⟩⟩⟩
  · refine go_22_20 ?_
    simp only [sg_22_20, cl_I, cl_L, cl_R, e_iconst, e_iret1, e_nil, lc_lt, lc_le, lc_gt, lc_ge, lc_eq, true_and, and_true, List.length_cons, List.length_nil, ab_ia, Nat.reduceAdd, Nat.reduceLeDiff, Nat.reduceEqDiff, Nat.reduceLT, Int.reduceLT, Int.reduceLE, Int.reduceEq, Int.reduceNeg, true_or, or_true, false_or, or_false, not_false_eq_true, not_true_eq_false, false_implies, true_implies, forall_const, implies_true, Nat.zero_le, Nat.le_refl]
    exact retB0 (by omega)
  · refine go_22_20 ?_
    simp only [sg_22_20, cl_I, cl_L, cl_R, e_iconst, e_iret1, e_nil, lc_lt, lc_le, lc_gt, lc_ge, lc_eq, true_and, and_true, List.length_cons, List.length_nil, ab_ia, Nat.reduceAdd, Nat.reduceLeDiff, Nat.reduceEqDiff, Nat.reduceLT, Int.reduceLT, Int.reduceLE, Int.reduceEq, Int.reduceNeg, true_or, or_true, false_or, or_false, not_false_eq_true, not_true_eq_false, false_implies, true_implies, forall_const, implies_true, Nat.zero_le, Nat.le_refl]
    rw [e0] at h2
    exact retB0 (by omega)
  · refine go_22_20 ?_
    simp only [sg_22_20, cl_I, cl_L, cl_R, e_iconst, e_iret1, e_nil, lc_lt, lc_le, lc_gt, lc_ge, lc_eq, true_and, and_true, List.length_cons, List.length_nil, ab_ia, Nat.reduceAdd, Nat.reduceLeDiff, Nat.reduceEqDiff, Nat.reduceLT, Int.reduceLT, Int.reduceLE, Int.reduceEq, Int.reduceNeg, true_or, or_true, false_or, or_false, not_false_eq_true, not_true_eq_false, false_implies, true_implies, forall_const, implies_true, Nat.zero_le, Nat.le_refl]
    rw [e0] at h3
    exact retB0 (by omega)
  · refine go_22_21 ?_
    simp only [sg_22_21, cl_I, cl_L, cl_R, e_iret1, e_nil, lc_lt, lc_le, lc_gt, lc_ge, lc_eq, true_and, and_true, List.length_cons, List.length_nil, ab_ia, Nat.reduceAdd, Nat.reduceLeDiff, Nat.reduceEqDiff, Nat.reduceLT, Int.reduceLT, Int.reduceLE, Int.reduceEq, Int.reduceNeg, true_or, or_true, false_or, or_false, not_false_eq_true, not_true_eq_false, false_implies, true_implies, forall_const, implies_true, Nat.zero_le, Nat.le_refl]
    rw [e0] at h2 h3
    exact retB1 (by omega)
theorem m_isCell {c : Int} : CB 129 [vR 69, vI c] (EE L) D (isCl (D 71 0) c) := by
  refine Sx.un (y := 129) (n := 0) (lo := [vR 69, vI c]) (st := []) (u := (0, 0)) ?_
  refine go_129_0 ?_
  simp only [sg_129_0, cl_I, cl_L, cl_R, e_aload_n, e_bipush, e_get1, e_goto, e_iaload, e_icmp_ge, e_iconst, e_idiv, e_if_lt, e_iload_n, e_irem, e_nil, l_ld1, l_ldA0, wRef_some, EE_n, EE_r69_1, EE_s69, EE_s71, lc_lt, lc_le, lc_gt, lc_ge, lc_eq, true_and, and_true, List.length_cons, List.length_nil, ab_ia, Nat.reduceAdd, Nat.reduceLeDiff, Nat.reduceEqDiff, Nat.reduceLT, Int.reduceLT, Int.reduceLE, Int.reduceEq, Int.reduceNeg, true_or, or_true, false_or, or_false, not_false_eq_true, not_true_eq_false, false_implies, true_implies, forall_const, implies_true, Nat.zero_le, Nat.le_refl]
  have e0 : (0 : Int).toNat = 0 := rfl
  refine ⟨fun h1 => ?_, fun h1 => ⟨by omega, by omega, fun h2 => ?_, fun h2 => ⟨by omega, by omega, fun h3 => ?_, fun h3 => ?_⟩⟩⟩
  · refine go_129_20 ?_
    simp only [sg_129_20, cl_I, cl_L, cl_R, e_iconst, e_iret1, e_nil, lc_lt, lc_le, lc_gt, lc_ge, lc_eq, true_and, and_true, List.length_cons, List.length_nil, ab_ia, Nat.reduceAdd, Nat.reduceLeDiff, Nat.reduceEqDiff, Nat.reduceLT, Int.reduceLT, Int.reduceLE, Int.reduceEq, Int.reduceNeg, true_or, or_true, false_or, or_false, not_false_eq_true, not_true_eq_false, false_implies, true_implies, forall_const, implies_true, Nat.zero_le, Nat.le_refl]
    exact retB0 (by omega)
  · refine go_129_20 ?_
    simp only [sg_129_20, cl_I, cl_L, cl_R, e_iconst, e_iret1, e_nil, lc_lt, lc_le, lc_gt, lc_ge, lc_eq, true_and, and_true, List.length_cons, List.length_nil, ab_ia, Nat.reduceAdd, Nat.reduceLeDiff, Nat.reduceEqDiff, Nat.reduceLT, Int.reduceLT, Int.reduceLE, Int.reduceEq, Int.reduceNeg, true_or, or_true, false_or, or_false, not_false_eq_true, not_true_eq_false, false_implies, true_implies, forall_const, implies_true, Nat.zero_le, Nat.le_refl]
    rw [e0] at h2
    exact retB0 (by omega)
  · refine go_129_20 ?_
    simp only [sg_129_20, cl_I, cl_L, cl_R, e_iconst, e_iret1, e_nil, lc_lt, lc_le, lc_gt, lc_ge, lc_eq, true_and, and_true, List.length_cons, List.length_nil, ab_ia, Nat.reduceAdd, Nat.reduceLeDiff, Nat.reduceEqDiff, Nat.reduceLT, Int.reduceLT, Int.reduceLE, Int.reduceEq, Int.reduceNeg, true_or, or_true, false_or, or_false, not_false_eq_true, not_true_eq_false, false_implies, true_implies, forall_const, implies_true, Nat.zero_le, Nat.le_refl]
    rw [e0] at h3
    exact retB0 (by omega)
  · refine go_129_21 ?_
    simp only [sg_129_21, cl_I, cl_L, cl_R, e_iret1, e_nil, lc_lt, lc_le, lc_gt, lc_ge, lc_eq, true_and, and_true, List.length_cons, List.length_nil, ab_ia, Nat.reduceAdd, Nat.reduceLeDiff, Nat.reduceEqDiff, Nat.reduceLT, Int.reduceLT, Int.reduceLE, Int.reduceEq, Int.reduceNeg, true_or, or_true, false_or, or_false, not_false_eq_true, not_true_eq_false, false_implies, true_implies, forall_const, implies_true, Nat.zero_le, Nat.le_refl]
    rw [e0] at h2 h3
    exact retB1 (by omega)
theorem p_isWood {E : ab_E} {w : Int} : CB 107 [vI w] E D (0 ≤ w ∧ w < 3) := by
  refine Sx.un (y := 107) (n := 0) (lo := [vI w]) (st := []) (u := (0, 0)) ?_
  refine go_107_0 ?_
  simp only [sg_107_0, cl_I, cl_L, cl_R, e_goto, e_icmp_ge, e_iconst, e_if_lt, e_iload_n, e_nil, l_ld0, lc_lt, lc_le, lc_gt, lc_ge, lc_eq, true_and, and_true, List.length_cons, List.length_nil, ab_ia, Nat.reduceAdd, Nat.reduceLeDiff, Nat.reduceEqDiff, Nat.reduceLT, Int.reduceLT, Int.reduceLE, Int.reduceEq, Int.reduceNeg, true_or, or_true, false_or, or_false, not_false_eq_true, not_true_eq_false, false_implies, true_implies, forall_const, implies_true, Nat.zero_le, Nat.le_refl]
  repeat' first | refine And.intro ?_ ?_ | intro _ | (refine go_107_7 ?_; simp only [sg_107_7, cl_I, cl_L, cl_R, e_iconst, e_iret1, e_nil, lc_lt, lc_le, lc_gt, lc_ge, lc_eq, true_and, and_true, List.length_cons, List.length_nil, ab_ia, Nat.reduceAdd, Nat.reduceLeDiff, Nat.reduceEqDiff, Nat.reduceLT, Int.reduceLT, Int.reduceLE, Int.reduceEq, Int.reduceNeg, true_or, or_true, false_or, or_false, not_false_eq_true, not_true_eq_false, false_implies, true_implies, forall_const, implies_true, Nat.zero_le, Nat.le_refl]) | (refine go_107_8 ?_; simp only [sg_107_8, cl_I, cl_L, cl_R, e_iret1, e_nil, lc_lt, lc_le, lc_gt, lc_ge, lc_eq, true_and, and_true, List.length_cons, List.length_nil, ab_ia, Nat.reduceAdd, Nat.reduceLeDiff, Nat.reduceEqDiff, Nat.reduceLT, Int.reduceLT, Int.reduceLE, Int.reduceEq, Int.reduceNeg, true_or, or_true, false_or, or_false, not_false_eq_true, not_true_eq_false, false_implies, true_implies, forall_const, implies_true, Nat.zero_le, Nat.le_refl])
  all_goals first | exact retB1 (by omega) | exact retB0 (by omega)
theorem m_isWood {E : ab_E} {w : Int} : CB 130 [vI w] E D (0 ≤ w ∧ w < 3) := by
  refine Sx.un (y := 130) (n := 0) (lo := [vI w]) (st := []) (u := (0, 0)) ?_
  refine go_130_0 ?_
  simp only [sg_130_0, cl_I, cl_L, cl_R, e_cs3, e_i2l, e_iload_n, e_iret1, e_lconst, e_ldc2, e_nil, fl_0, fl_I, fl_L, fl_R, l_ld0, rk_1, lc_lt, lc_le, lc_gt, lc_ge, lc_eq, true_and, and_true, List.length_cons, List.length_nil, ab_ia, Nat.reduceAdd, Nat.reduceLeDiff, Nat.reduceEqDiff, Nat.reduceLT, Int.reduceLT, Int.reduceLE, Int.reduceEq, Int.reduceNeg, true_or, or_true, false_or, or_false, not_false_eq_true, not_true_eq_false, false_implies, true_implies, forall_const, implies_true, Nat.zero_le, Nat.le_refl]
  refine CB.use m_in (fun h1 => ?_) (fun h1 => ?_)
  · try simp only [lc_lt, lc_le, lc_gt, lc_ge, lc_eq, true_and, and_true, List.length_cons, List.length_nil, ab_ia, Nat.reduceAdd, Nat.reduceLeDiff, Nat.reduceEqDiff, Nat.reduceLT, Int.reduceLT, Int.reduceLE, Int.reduceEq, Int.reduceNeg, true_or, or_true, false_or, or_false, not_false_eq_true, not_true_eq_false, false_implies, true_implies, forall_const, implies_true, Nat.zero_le, Nat.le_refl]
    exact retB1 (by omega)
  · try simp only [lc_lt, lc_le, lc_gt, lc_ge, lc_eq, true_and, and_true, List.length_cons, List.length_nil, ab_ia, Nat.reduceAdd, Nat.reduceLeDiff, Nat.reduceEqDiff, Nat.reduceLT, Int.reduceLT, Int.reduceLE, Int.reduceEq, Int.reduceNeg, true_or, or_true, false_or, or_false, not_false_eq_true, not_true_eq_false, false_implies, true_implies, forall_const, implies_true, Nat.zero_le, Nat.le_refl]
    exact retB0 (by omega)
theorem p_isFind {f : Int} : CB 106 [vR 0, vI f] (EE L) D (0 ≤ f ∧ f < D 63 1) := by
  refine Sx.un (y := 106) (n := 0) (lo := [vR 0, vI f]) (st := []) (u := (0, 0)) ?_
  refine go_106_0 ?_
  simp only [sg_106_0, cl_I, cl_L, cl_R, e_aload_n, e_get0, e_get1, e_goto, e_icmp_ge, e_iconst, e_if_lt, e_iload_n, e_nil, l_ld1, l_ldA0, wRef_some, EE_n, EE_r0_10, EE_s0, EE_s63, lc_lt, lc_le, lc_gt, lc_ge, lc_eq, true_and, and_true, List.length_cons, List.length_nil, ab_ia, Nat.reduceAdd, Nat.reduceLeDiff, Nat.reduceEqDiff, Nat.reduceLT, Int.reduceLT, Int.reduceLE, Int.reduceEq, Int.reduceNeg, true_or, or_true, false_or, or_false, not_false_eq_true, not_true_eq_false, false_implies, true_implies, forall_const, implies_true, Nat.zero_le, Nat.le_refl]
  repeat' first | refine And.intro ?_ ?_ | intro _ | (refine go_106_9 ?_; simp only [sg_106_9, cl_I, cl_L, cl_R, e_iconst, e_iret1, e_nil, lc_lt, lc_le, lc_gt, lc_ge, lc_eq, true_and, and_true, List.length_cons, List.length_nil, ab_ia, Nat.reduceAdd, Nat.reduceLeDiff, Nat.reduceEqDiff, Nat.reduceLT, Int.reduceLT, Int.reduceLE, Int.reduceEq, Int.reduceNeg, true_or, or_true, false_or, or_false, not_false_eq_true, not_true_eq_false, false_implies, true_implies, forall_const, implies_true, Nat.zero_le, Nat.le_refl]) | (refine go_106_10 ?_; simp only [sg_106_10, cl_I, cl_L, cl_R, e_iret1, e_nil, lc_lt, lc_le, lc_gt, lc_ge, lc_eq, true_and, and_true, List.length_cons, List.length_nil, ab_ia, Nat.reduceAdd, Nat.reduceLeDiff, Nat.reduceEqDiff, Nat.reduceLT, Int.reduceLT, Int.reduceLE, Int.reduceEq, Int.reduceNeg, true_or, or_true, false_or, or_false, not_false_eq_true, not_true_eq_false, false_implies, true_implies, forall_const, implies_true, Nat.zero_le, Nat.le_refl])
  all_goals first | exact retB1 (by omega) | exact retB0 (by omega)
/-- the groups of the class's rows -/
def fG (N : Int) (c y l mm bb : Nat → Int) : Prop := ∃ h, isLab N.toNat (kin c y) h ∧ grpOK N.toNat y h l mm bb
/-- what find answers and does: number of finds N, cell, year -/
theorem f_add {c y : Int} (hk : fOK (D 63 1) (D 64) (D 65)) (hc : 0 ≤ c ∧ c ≤ 55) (hy : 0 ≤ y ∧ y < 60) : CI 6 [vR 63, vI c, vI y] (EE L, D) (fun r D' => (D 63 1 = 16 ∧ r = -4 ∧ D' = D) ∨ (D 63 1 < 16 ∧ r = D 63 1 ∧ ∃ l mm bb : Nat → Int, D' = upr (upr (upr (ups (ups (ups D 64 (D 63 1).toNat c) 65 (D 63 1).toNat y) 63 1 (D 63 1 + 1)) 66 l) 67 mm) 68 bb ∧ fG (D 63 1 + 1) (D' 64) (D' 65) l mm bb)) := by
  have h16 := hk.1
  refine Sx.un (y := 6) (n := 0) (lo := [vR 63, vI c, vI y]) (st := []) (u := (0, 0)) ?_
  refine go_6_0 ?_
  simp only [sg_6_0, cl_I, cl_L, cl_R, e_aload_n, e_bipush, e_get0, e_icmp_lt, e_iret0, e_nil, l_ldA0, wRef_some, EE_n, EE_s63, lc_lt, lc_le, lc_gt, lc_ge, lc_eq, true_and, and_true, List.length_cons, List.length_nil, ab_ia, Nat.reduceAdd, Nat.reduceLeDiff, Nat.reduceEqDiff, Nat.reduceLT, Int.reduceLT, Int.reduceLE, Int.reduceEq, Int.reduceNeg, true_or, or_true, false_or, or_false, not_false_eq_true, not_true_eq_false, false_implies, true_implies, forall_const, implies_true, Nat.zero_le, Nat.le_refl]
  refine ⟨fun h1 => ?_, fun h1 => retI (Or.inl ⟨by omega, rfl, rfl⟩)⟩
  have e1 : ups D 64 (D 63 1).toNat c 63 1 = D 63 1 := ups_ne1 (by decide)
  have e2 : ups (ups D 64 (D 63 1).toNat c) 65 (D 63 1).toNat y 63 1 = D 63 1 := by rw [ups_ne1 (by decide), e1]
  refine go_6_6 ?_
  simp only [sg_6_6, cl_I, cl_L, cl_R, e_aload_n, e_cv1, e_dupI, e_dupR, e_get0, e_get1, e_iadd, e_iastore, e_iconst, e_iload_n, e_iret0, e_isub, e_nil, e_put0, fl_0, fl_I, fl_L, fl_R, l_ld1, l_ld2, l_ldA0, rk_0, wRef_some, EE_n, EE_r63_2, EE_r63_3, EE_s63, EE_s64, EE_s65, e1, e2, lc_lt, lc_le, lc_gt, lc_ge, lc_eq, true_and, and_true, List.length_cons, List.length_nil, ab_ia, Nat.reduceAdd, Nat.reduceLeDiff, Nat.reduceEqDiff, Nat.reduceLT, Int.reduceLT, Int.reduceLE, Int.reduceEq, Int.reduceNeg, true_or, or_true, false_or, or_false, not_false_eq_true, not_true_eq_false, false_implies, true_implies, forall_const, implies_true, Nat.zero_le, Nat.le_refl]
  refine ⟨by omega, by omega, ⟨by omega, by omega⟩, ?_⟩
  have f1 : ups (ups (ups D 64 (D 63 1).toNat c) 65 (D 63 1).toNat y) 63 1 (D 63 1 + 1) 63 1 = D 63 1 + 1 := ups_self
  have f2 : ∀ i : Nat, ups (ups (ups D 64 (D 63 1).toNat c) 65 (D 63 1).toNat y) 63 1 (D 63 1 + 1) 64 i = if i = (D 63 1).toNat then c else D 64 i := by
    intro i
    rw [ups_ne1 (by decide), ups_ne1 (by decide)]
    simp [ups]
  have f3 : ∀ i : Nat, ups (ups (ups D 64 (D 63 1).toNat c) 65 (D 63 1).toNat y) 63 1 (D 63 1 + 1) 65 i = if i = (D 63 1).toNat then y else D 65 i := by
    intro i
    rw [ups_ne1 (by decide)]
    by_cases q : i = (D 63 1).toNat
    · simp [ups, q]
    · simp [ups, q]
  have hk' : fOK (ups (ups (ups D 64 (D 63 1).toNat c) 65 (D 63 1).toNat y) 63 1 (D 63 1 + 1) 63 1) (ups (ups (ups D 64 (D 63 1).toNat c) 65 (D 63 1).toNat y) 63 1 (D 63 1 + 1) 64) (ups (ups (ups D 64 (D 63 1).toNat c) 65 (D 63 1).toNat y) 63 1 (D 63 1 + 1) 65) := by
    rw [f1]
    refine ⟨by omega, fun i hi => ?_⟩
    rw [f2, f3]
    by_cases q : i = (D 63 1).toNat
    · rw [if_pos q, if_pos q]; omega
    · rw [if_neg q, if_neg q]; exact hk.2 i (by omega)
  refine (f_regroup hk').mono ?_
  rintro D' ⟨l, mm, bb, h, rfl, hl, hg⟩
  have g1 : ∀ (D : ab_D) (p : Nat), p ≠ 66 → p ≠ 67 → p ≠ 68 → upr (upr (upr D 66 l) 67 mm) 68 bb p = D p := fun D p a b c => by rw [upr_ne c, upr_ne b, upr_ne a]
  rw [g1 _ 63 (by decide) (by decide) (by decide), f1]
  refine ⟨⟨by omega, by omega⟩, retI (Or.inr ⟨h1, by omega, l, mm, bb, rfl, h, ?_, ?_⟩)⟩
  · rw [g1 _ 64 (by decide) (by decide) (by decide), g1 _ 65 (by decide) (by decide) (by decide)]
    rw [f1] at hl
    exact hl
  · rw [g1 _ 65 (by decide) (by decide) (by decide)]
    rw [f1] at hg
    exact hg
theorem f_takeBack (hk : fOK (D 63 1) (D 64) (D 65)) (h1 : 1 ≤ D 63 1) : CI 7 [vR 63] (EE L, D) (fun r D' => r = D 63 1 - 1 ∧ ∃ l mm bb : Nat → Int, D' = upr (upr (upr (ups D 63 1 (D 63 1 - 1)) 66 l) 67 mm) 68 bb ∧ fG (D 63 1 - 1) (D 64) (D 65) l mm bb) := by
  have h16 := hk.1
  refine Sx.un (y := 7) (n := 0) (lo := [vR 63]) (st := []) (u := (0, 0)) ?_
  refine go_7_0 ?_
  simp only [sg_7_0, cl_I, cl_L, cl_R, e_aload_n, e_cv1, e_get0, e_iconst, e_iret0, e_isub, e_max, e_nil, e_put0, fl_0, fl_I, fl_L, fl_R, l_ldA0, rk_0, wRef_some, EE_n, EE_s63, lc_lt, lc_le, lc_gt, lc_ge, lc_eq, true_and, and_true, List.length_cons, List.length_nil, ab_ia, Nat.reduceAdd, Nat.reduceLeDiff, Nat.reduceEqDiff, Nat.reduceLT, Int.reduceLT, Int.reduceLE, Int.reduceEq, Int.reduceNeg, true_or, or_true, false_or, or_false, not_false_eq_true, not_true_eq_false, false_implies, true_implies, forall_const, implies_true, Nat.zero_le, Nat.le_refl]
  have em : (if 0 < D 63 1 - 1 then D 63 1 - 1 else 0) = D 63 1 - 1 := by split <;> omega
  rw [em]
  refine ⟨⟨by omega, by omega⟩, ?_⟩
  have f1 : ups D 63 1 (D 63 1 - 1) 63 1 = D 63 1 - 1 := ups_self
  have f2 : ups D 63 1 (D 63 1 - 1) 64 = D 64 := ups_row (by decide)
  have f3 : ups D 63 1 (D 63 1 - 1) 65 = D 65 := ups_row (by decide)
  refine (f_regroup (by rw [f1, f2, f3]; exact ⟨by omega, fun i hi => hk.2 i (by omega)⟩)).mono ?_
  rintro D' ⟨l, mm, bb, h, rfl, hl, hg⟩
  rw [upr_ne (by decide), upr_ne (by decide), upr_ne (by decide), f1]
  rw [f1, f2, f3] at hl
  rw [f1, f3] at hg
  exact retI ⟨rfl, l, mm, bb, rfl, h, hl, hg⟩
theorem p_find {c w y : Int} (hk : fOK (D 63 1) (D 64) (D 65)) (hn : D 7 0 ≤ 6) : CI 95 [vR 0, vI c, vI w, vI y] (EE L, D) (fun r D' => (¬ (isCl (D 7 0) c ∧ (0 ≤ w ∧ w < 3) ∧ (0 ≤ y ∧ y < 60)) ∧ r = -1 ∧ D' = D) ∨ ((isCl (D 7 0) c ∧ (0 ≤ w ∧ w < 3) ∧ (0 ≤ y ∧ y < 60)) ∧ D 63 1 = 16 ∧ r = -4 ∧ D' = D) ∨ ((isCl (D 7 0) c ∧ (0 ≤ w ∧ w < 3) ∧ (0 ≤ y ∧ y < 60)) ∧ D 63 1 < 16 ∧ r = D 63 1 ∧ ∃ l mm bb : Nat → Int, D' = upr (upr (upr (ups (ups (ups D 64 (D 63 1).toNat c) 65 (D 63 1).toNat y) 63 1 (D 63 1 + 1)) 66 l) 67 mm) 68 bb ∧ fG (D 63 1 + 1) (D' 64) (D' 65) l mm bb)) := by
  refine Sx.un (y := 95) (n := 0) (lo := [vR 0, vI c, vI w, vI y]) (st := []) (u := (0, 0)) ?_
  refine go_95_0 ?_
  simp only [sg_95_0, cl_I, cl_L, cl_R, e_aload_n, e_cs1, e_cv2, e_get1, e_iconst, e_if_eq, e_if_ne, e_iload_n, e_iret0, e_nil, fl_0, fl_I, fl_L, fl_R, l_ld1, l_ld2, l_ld3, l_ldA0, rk_1, wRef_some, EE_n, EE_r0_3, EE_s0, EE_s6, lc_lt, lc_le, lc_gt, lc_ge, lc_eq, true_and, and_true, List.length_cons, List.length_nil, ab_ia, Nat.reduceAdd, Nat.reduceLeDiff, Nat.reduceEqDiff, Nat.reduceLT, Int.reduceLT, Int.reduceLE, Int.reduceEq, Int.reduceNeg, true_or, or_true, false_or, or_false, not_false_eq_true, not_true_eq_false, false_implies, true_implies, forall_const, implies_true, Nat.zero_le, Nat.le_refl]
  have bad : ¬ (isCl (D 7 0) c ∧ (0 ≤ w ∧ w < 3) ∧ (0 ≤ y ∧ y < 60)) → Sx 95 11 [vR 0, vI c, vI w, vI y] [] (EE L, D) (0, 0) (fun r h' => ∃ x D', r = some (Sum.inl x) ∧ h' = (EE L, D') ∧ ((¬ (isCl (D 7 0) c ∧ (0 ≤ w ∧ w < 3) ∧ (0 ≤ y ∧ y < 60)) ∧ x = -1 ∧ D' = D) ∨ ((isCl (D 7 0) c ∧ (0 ≤ w ∧ w < 3) ∧ (0 ≤ y ∧ y < 60)) ∧ D 63 1 = 16 ∧ x = -4 ∧ D' = D) ∨ ((isCl (D 7 0) c ∧ (0 ≤ w ∧ w < 3) ∧ (0 ≤ y ∧ y < 60)) ∧ D 63 1 < 16 ∧ x = D 63 1 ∧ ∃ l mm bb : Nat → Int, D' = upr (upr (upr (ups (ups (ups D 64 (D 63 1).toNat c) 65 (D 63 1).toNat y) 63 1 (D 63 1 + 1)) 66 l) 67 mm) 68 bb ∧ fG (D 63 1 + 1) (D' 64) (D' 65) l mm bb))) := by
    intro hb
    refine go_95_11 ?_
    simp only [sg_95_11, cl_I, cl_L, cl_R, e_iconst, e_iret0, e_nil, lc_lt, lc_le, lc_gt, lc_ge, lc_eq, true_and, and_true, List.length_cons, List.length_nil, ab_ia, Nat.reduceAdd, Nat.reduceLeDiff, Nat.reduceEqDiff, Nat.reduceLT, Int.reduceLT, Int.reduceLE, Int.reduceEq, Int.reduceNeg, true_or, or_true, false_or, or_false, not_false_eq_true, not_true_eq_false, false_implies, true_implies, forall_const, implies_true, Nat.zero_le, Nat.le_refl]
    exact ⟨_, _, rfl, rfl, Or.inl ⟨hb, rfl, rfl⟩⟩
  refine CB.use (g_hasCell isG6) (fun h1 => ?_) (fun h1 => ?_)
  · try simp only [lc_lt, lc_le, lc_gt, lc_ge, lc_eq, true_and, and_true, List.length_cons, List.length_nil, ab_ia, Nat.reduceAdd, Nat.reduceLeDiff, Nat.reduceEqDiff, Nat.reduceLT, Int.reduceLT, Int.reduceLE, Int.reduceEq, Int.reduceNeg, true_or, or_true, false_or, or_false, not_false_eq_true, not_true_eq_false, false_implies, true_implies, forall_const, implies_true, Nat.zero_le, Nat.le_refl]
    refine CB.use p_isWood (fun h2 => ?_) (fun h2 => ?_)
    · try simp only [lc_lt, lc_le, lc_gt, lc_ge, lc_eq, true_and, and_true, List.length_cons, List.length_nil, ab_ia, Nat.reduceAdd, Nat.reduceLeDiff, Nat.reduceEqDiff, Nat.reduceLT, Int.reduceLT, Int.reduceLE, Int.reduceEq, Int.reduceNeg, true_or, or_true, false_or, or_false, not_false_eq_true, not_true_eq_false, false_implies, true_implies, forall_const, implies_true, Nat.zero_le, Nat.le_refl]
      refine CB.use p_isRingYear (fun h3 => ?_) (fun h3 => ?_)
      · try simp only [lc_lt, lc_le, lc_gt, lc_ge, lc_eq, true_and, and_true, List.length_cons, List.length_nil, ab_ia, Nat.reduceAdd, Nat.reduceLeDiff, Nat.reduceEqDiff, Nat.reduceLT, Int.reduceLT, Int.reduceLE, Int.reduceEq, Int.reduceNeg, true_or, or_true, false_or, or_false, not_false_eq_true, not_true_eq_false, false_implies, true_implies, forall_const, implies_true, Nat.zero_le, Nat.le_refl]
        refine go_95_13 ?_
        simp only [sg_95_13, cl_I, cl_L, cl_R, e_aload_n, e_cv3, e_get1, e_iload_n, e_iret0, e_nil, fl_0, fl_I, fl_L, fl_R, l_ld1, l_ld3, l_ldA0, rk_1, wRef_some, EE_n, EE_r0_10, EE_s0, EE_s63, lc_lt, lc_le, lc_gt, lc_ge, lc_eq, true_and, and_true, List.length_cons, List.length_nil, ab_ia, Nat.reduceAdd, Nat.reduceLeDiff, Nat.reduceEqDiff, Nat.reduceLT, Int.reduceLT, Int.reduceLE, Int.reduceEq, Int.reduceNeg, true_or, or_true, false_or, or_false, not_false_eq_true, not_true_eq_false, false_implies, true_implies, forall_const, implies_true, Nat.zero_le, Nat.le_refl]
        have h1 : isCl (D 7 0) c := h1
        refine (f_add hk (by omega) (by omega)).mono ?_
        rintro r D' (⟨q1, q2, q3⟩ | ⟨q1, q2, q3⟩)
        · exact retI (Or.inr (Or.inl ⟨⟨h1, h2, h3⟩, q1, q2, q3⟩))
        · exact retI (Or.inr (Or.inr ⟨⟨h1, h2, h3⟩, q1, q2, q3⟩))
      · try simp only [lc_lt, lc_le, lc_gt, lc_ge, lc_eq, true_and, and_true, List.length_cons, List.length_nil, ab_ia, Nat.reduceAdd, Nat.reduceLeDiff, Nat.reduceEqDiff, Nat.reduceLT, Int.reduceLT, Int.reduceLE, Int.reduceEq, Int.reduceNeg, true_or, or_true, false_or, or_false, not_false_eq_true, not_true_eq_false, false_implies, true_implies, forall_const, implies_true, Nat.zero_le, Nat.le_refl]
        exact retI (Or.inl ⟨fun q => h3 q.2.2, rfl, rfl⟩)
    · try simp only [lc_lt, lc_le, lc_gt, lc_ge, lc_eq, true_and, and_true, List.length_cons, List.length_nil, ab_ia, Nat.reduceAdd, Nat.reduceLeDiff, Nat.reduceEqDiff, Nat.reduceLT, Int.reduceLT, Int.reduceLE, Int.reduceEq, Int.reduceNeg, true_or, or_true, false_or, or_false, not_false_eq_true, not_true_eq_false, false_implies, true_implies, forall_const, implies_true, Nat.zero_le, Nat.le_refl]
      exact bad (fun q => h2 q.2.1)
  · try simp only [lc_lt, lc_le, lc_gt, lc_ge, lc_eq, true_and, and_true, List.length_cons, List.length_nil, ab_ia, Nat.reduceAdd, Nat.reduceLeDiff, Nat.reduceEqDiff, Nat.reduceLT, Int.reduceLT, Int.reduceLE, Int.reduceEq, Int.reduceNeg, true_or, or_true, false_or, or_false, not_false_eq_true, not_true_eq_false, false_implies, true_implies, forall_const, implies_true, Nat.zero_le, Nat.le_refl]
    exact bad (fun q => h1 q.1)
theorem m_find {c w y : Int} (hN : 0 ≤ D 69 22 ∧ D 69 22 ≤ 16) : CI 176 [vR 69, vI c, vI w, vI y] (EE L, D) (fun r D' => (¬ (isCl (D 71 0) c ∧ (0 ≤ w ∧ w < 3) ∧ (0 ≤ y ∧ y < 60)) ∧ r = -1 ∧ D' = D) ∨ ((isCl (D 71 0) c ∧ (0 ≤ w ∧ w < 3) ∧ (0 ≤ y ∧ y < 60)) ∧ D 69 22 = 16 ∧ r = -4 ∧ D' = D) ∨ ((isCl (D 71 0) c ∧ (0 ≤ w ∧ w < 3) ∧ (0 ≤ y ∧ y < 60)) ∧ D 69 22 < 16 ∧ r = D 69 22 ∧ D' = ups (ups (ups D 83 (D 69 22).toNat c) 84 (D 69 22).toNat y) 69 22 (D 69 22 + 1))) := by
  refine Sx.un (y := 176) (n := 0) (lo := [vR 69, vI c, vI w, vI y]) (st := []) (u := (0, 0)) ?_
  refine go_176_0 ?_
  simp only [sg_176_0, cl_I, cl_L, cl_R, e_aload_n, e_cs1, e_cs3, e_cv2, e_i2l, e_iconst, e_if_eq, e_if_ne, e_iload_n, e_iret0, e_lconst, e_ldc2, e_nil, fl_0, fl_I, fl_L, fl_R, l_ld1, l_ld2, l_ld3, l_ldA0, rk_1, EE_n, EE_s69, lc_lt, lc_le, lc_gt, lc_ge, lc_eq, true_and, and_true, List.length_cons, List.length_nil, ab_ia, Nat.reduceAdd, Nat.reduceLeDiff, Nat.reduceEqDiff, Nat.reduceLT, Int.reduceLT, Int.reduceLE, Int.reduceEq, Int.reduceNeg, true_or, or_true, false_or, or_false, not_false_eq_true, not_true_eq_false, false_implies, true_implies, forall_const, implies_true, Nat.zero_le, Nat.le_refl]
  refine CB.use m_isCell (fun h1 => ?_) (fun h1 => ?_)
  · try simp only [lc_lt, lc_le, lc_gt, lc_ge, lc_eq, true_and, and_true, List.length_cons, List.length_nil, ab_ia, Nat.reduceAdd, Nat.reduceLeDiff, Nat.reduceEqDiff, Nat.reduceLT, Int.reduceLT, Int.reduceLE, Int.reduceEq, Int.reduceNeg, true_or, or_true, false_or, or_false, not_false_eq_true, not_true_eq_false, false_implies, true_implies, forall_const, implies_true, Nat.zero_le, Nat.le_refl]
    refine CB.use m_isWood (fun h2 => ?_) (fun h2 => ?_)
    · try simp only [lc_lt, lc_le, lc_gt, lc_ge, lc_eq, true_and, and_true, List.length_cons, List.length_nil, ab_ia, Nat.reduceAdd, Nat.reduceLeDiff, Nat.reduceEqDiff, Nat.reduceLT, Int.reduceLT, Int.reduceLE, Int.reduceEq, Int.reduceNeg, true_or, or_true, false_or, or_false, not_false_eq_true, not_true_eq_false, false_implies, true_implies, forall_const, implies_true, Nat.zero_le, Nat.le_refl]
      refine CB.use m_in (fun h3 => ?_) (fun h3 => ?_)
      · try simp only [lc_lt, lc_le, lc_gt, lc_ge, lc_eq, true_and, and_true, List.length_cons, List.length_nil, ab_ia, Nat.reduceAdd, Nat.reduceLeDiff, Nat.reduceEqDiff, Nat.reduceLT, Int.reduceLT, Int.reduceLE, Int.reduceEq, Int.reduceNeg, true_or, or_true, false_or, or_false, not_false_eq_true, not_true_eq_false, false_implies, true_implies, forall_const, implies_true, Nat.zero_le, Nat.le_refl]
        refine go_176_15 ?_
        simp only [sg_176_15, cl_I, cl_L, cl_R, e_aload_n, e_bipush, e_get0, e_icmp_ne, e_iret0, e_nil, l_ldA0, wRef_some, EE_n, EE_s69, lc_lt, lc_le, lc_gt, lc_ge, lc_eq, true_and, and_true, List.length_cons, List.length_nil, ab_ia, Nat.reduceAdd, Nat.reduceLeDiff, Nat.reduceEqDiff, Nat.reduceLT, Int.reduceLT, Int.reduceLE, Int.reduceEq, Int.reduceNeg, true_or, or_true, false_or, or_false, not_false_eq_true, not_true_eq_false, false_implies, true_implies, forall_const, implies_true, Nat.zero_le, Nat.le_refl]
        refine ⟨fun h4 => ?_, fun h4 => retI (Or.inr (Or.inl ⟨⟨h1, h2, by omega⟩, by omega, rfl, rfl⟩))⟩
        have e1 : ups D 83 (D 69 22).toNat c 69 22 = D 69 22 := ups_ne1 (by decide)
        have e2 : ups (ups D 83 (D 69 22).toNat c) 84 (D 69 22).toNat y 69 22 = D 69 22 := by rw [ups_ne1 (by decide), e1]
        refine go_176_21 ?_
        simp only [sg_176_21, cl_I, cl_L, cl_R, e_aload_n, e_dupI, e_dupR, e_get0, e_get1, e_iadd, e_iastore, e_iconst, e_iload_n, e_iret0, e_isub, e_nil, e_put0, l_ld1, l_ld3, l_ldA0, wRef_some, EE_n, EE_r69_23, EE_r69_24, EE_s69, EE_s83, EE_s84, e1, e2, ups_self, lc_lt, lc_le, lc_gt, lc_ge, lc_eq, true_and, and_true, List.length_cons, List.length_nil, ab_ia, Nat.reduceAdd, Nat.reduceLeDiff, Nat.reduceEqDiff, Nat.reduceLT, Int.reduceLT, Int.reduceLE, Int.reduceEq, Int.reduceNeg, true_or, or_true, false_or, or_false, not_false_eq_true, not_true_eq_false, false_implies, true_implies, forall_const, implies_true, Nat.zero_le, Nat.le_refl]
        exact ⟨by omega, by omega, ⟨by omega, by omega⟩, ⟨by omega, by omega⟩, retI (Or.inr (Or.inr ⟨⟨h1, h2, by omega⟩, by omega, by omega, rfl⟩))⟩
      · try simp only [lc_lt, lc_le, lc_gt, lc_ge, lc_eq, true_and, and_true, List.length_cons, List.length_nil, ab_ia, Nat.reduceAdd, Nat.reduceLeDiff, Nat.reduceEqDiff, Nat.reduceLT, Int.reduceLT, Int.reduceLE, Int.reduceEq, Int.reduceNeg, true_or, or_true, false_or, or_false, not_false_eq_true, not_true_eq_false, false_implies, true_implies, forall_const, implies_true, Nat.zero_le, Nat.le_refl]
        exact retI (Or.inl ⟨fun q => h3 (by have := q.2.2; omega), rfl, rfl⟩)
    · try simp only [lc_lt, lc_le, lc_gt, lc_ge, lc_eq, true_and, and_true, List.length_cons, List.length_nil, ab_ia, Nat.reduceAdd, Nat.reduceLeDiff, Nat.reduceEqDiff, Nat.reduceLT, Int.reduceLT, Int.reduceLE, Int.reduceEq, Int.reduceNeg, true_or, or_true, false_or, or_false, not_false_eq_true, not_true_eq_false, false_implies, true_implies, forall_const, implies_true, Nat.zero_le, Nat.le_refl]
      refine go_176_13 ?_
      simp only [sg_176_13, cl_I, cl_L, cl_R, e_iconst, e_iret0, e_nil, lc_lt, lc_le, lc_gt, lc_ge, lc_eq, true_and, and_true, List.length_cons, List.length_nil, ab_ia, Nat.reduceAdd, Nat.reduceLeDiff, Nat.reduceEqDiff, Nat.reduceLT, Int.reduceLT, Int.reduceLE, Int.reduceEq, Int.reduceNeg, true_or, or_true, false_or, or_false, not_false_eq_true, not_true_eq_false, false_implies, true_implies, forall_const, implies_true, Nat.zero_le, Nat.le_refl]
      exact retI (Or.inl ⟨fun q => h2 q.2.1, rfl, rfl⟩)
  · try simp only [lc_lt, lc_le, lc_gt, lc_ge, lc_eq, true_and, and_true, List.length_cons, List.length_nil, ab_ia, Nat.reduceAdd, Nat.reduceLeDiff, Nat.reduceEqDiff, Nat.reduceLT, Int.reduceLT, Int.reduceLE, Int.reduceEq, Int.reduceNeg, true_or, or_true, false_or, or_false, not_false_eq_true, not_true_eq_false, false_implies, true_implies, forall_const, implies_true, Nat.zero_le, Nat.le_refl]
    refine go_176_13 ?_
    simp only [sg_176_13, cl_I, cl_L, cl_R, e_iconst, e_iret0, e_nil, lc_lt, lc_le, lc_gt, lc_ge, lc_eq, true_and, and_true, List.length_cons, List.length_nil, ab_ia, Nat.reduceAdd, Nat.reduceLeDiff, Nat.reduceEqDiff, Nat.reduceLT, Int.reduceLT, Int.reduceLE, Int.reduceEq, Int.reduceNeg, true_or, or_true, false_or, or_false, not_false_eq_true, not_true_eq_false, false_implies, true_implies, forall_const, implies_true, Nat.zero_le, Nat.le_refl]
    exact retI (Or.inl ⟨fun q => h1 q.1, rfl, rfl⟩)
theorem p_unfind (hk : fOK (D 63 1) (D 64) (D 65)) : CI 96 [vR 0] (EE L, D) (fun r D' => (D 63 1 = 0 ∧ r = -3 ∧ D' = D) ∨ (1 ≤ D 63 1 ∧ r = D 63 1 - 1 ∧ ∃ l mm bb : Nat → Int, D' = upr (upr (upr (ups D 63 1 (D 63 1 - 1)) 66 l) 67 mm) 68 bb ∧ fG (D 63 1 - 1) (D 64) (D 65) l mm bb)) := by
  have h16 := hk.1
  refine Sx.un (y := 96) (n := 0) (lo := [vR 0]) (st := []) (u := (0, 0)) ?_
  refine go_96_0 ?_
  simp only [sg_96_0, cl_I, cl_L, cl_R, e_aload_n, e_bipush, e_get0, e_get1, e_if_ne, e_iret0, e_nil, l_ldA0, wRef_some, EE_n, EE_r0_10, EE_s0, EE_s63, lc_lt, lc_le, lc_gt, lc_ge, lc_eq, true_and, and_true, List.length_cons, List.length_nil, ab_ia, Nat.reduceAdd, Nat.reduceLeDiff, Nat.reduceEqDiff, Nat.reduceLT, Int.reduceLT, Int.reduceLE, Int.reduceEq, Int.reduceNeg, true_or, or_true, false_or, or_false, not_false_eq_true, not_true_eq_false, false_implies, true_implies, forall_const, implies_true, Nat.zero_le, Nat.le_refl]
  refine ⟨fun h1 => ?_, fun h1 => retI (Or.inl ⟨by omega, rfl, rfl⟩)⟩
  refine go_96_6 ?_
  simp only [sg_96_6, cl_I, cl_L, cl_R, e_aload_n, e_cv1, e_get1, e_iret0, e_nil, fl_0, fl_I, fl_L, fl_R, l_ldA0, rk_1, wRef_some, EE_n, EE_r0_10, EE_s0, EE_s63, lc_lt, lc_le, lc_gt, lc_ge, lc_eq, true_and, and_true, List.length_cons, List.length_nil, ab_ia, Nat.reduceAdd, Nat.reduceLeDiff, Nat.reduceEqDiff, Nat.reduceLT, Int.reduceLT, Int.reduceLE, Int.reduceEq, Int.reduceNeg, true_or, or_true, false_or, or_false, not_false_eq_true, not_true_eq_false, false_implies, true_implies, forall_const, implies_true, Nat.zero_le, Nat.le_refl]
  refine (f_takeBack hk (by omega)).mono ?_
  rintro r D' ⟨q1, q2⟩
  exact retI (Or.inr ⟨by omega, q1, q2⟩)
theorem m_unfind (hN : 0 ≤ D 69 22 ∧ D 69 22 ≤ 16) : CI 177 [vR 69] (EE L, D) (fun r D' => (D 69 22 = 0 ∧ r = -3 ∧ D' = D) ∨ (1 ≤ D 69 22 ∧ r = D 69 22 - 1 ∧ D' = ups D 69 22 (D 69 22 - 1))) := by
  refine Sx.un (y := 177) (n := 0) (lo := [vR 69]) (st := []) (u := (0, 0)) ?_
  refine go_177_0 ?_
  simp only [sg_177_0, cl_I, cl_L, cl_R, e_aload_n, e_bipush, e_get0, e_if_ne, e_iret0, e_nil, l_ldA0, wRef_some, EE_n, EE_s69, lc_lt, lc_le, lc_gt, lc_ge, lc_eq, true_and, and_true, List.length_cons, List.length_nil, ab_ia, Nat.reduceAdd, Nat.reduceLeDiff, Nat.reduceEqDiff, Nat.reduceLT, Int.reduceLT, Int.reduceLE, Int.reduceEq, Int.reduceNeg, true_or, or_true, false_or, or_false, not_false_eq_true, not_true_eq_false, false_implies, true_implies, forall_const, implies_true, Nat.zero_le, Nat.le_refl]
  refine ⟨fun h1 => ?_, fun h1 => retI (Or.inl ⟨by omega, rfl, rfl⟩)⟩
  refine go_177_5 ?_
  simp only [sg_177_5, cl_I, cl_L, cl_R, e_aload_n, e_dupI, e_dupR, e_get0, e_iconst, e_iret0, e_isub, e_nil, e_put0, l_ldA0, wRef_some, EE_n, EE_s69, ups_self, lc_lt, lc_le, lc_gt, lc_ge, lc_eq, true_and, and_true, List.length_cons, List.length_nil, ab_ia, Nat.reduceAdd, Nat.reduceLeDiff, Nat.reduceEqDiff, Nat.reduceLT, Int.reduceLT, Int.reduceLE, Int.reduceEq, Int.reduceNeg, true_or, or_true, false_or, or_false, not_false_eq_true, not_true_eq_false, false_implies, true_implies, forall_const, implies_true, Nat.zero_le, Nat.le_refl]
  exact ⟨⟨by omega, by omega⟩, retI (Or.inr ⟨by omega, rfl, rfl⟩)⟩
end Finds5

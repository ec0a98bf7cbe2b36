/-! rings: dated, sure, ring -/
section Rings3
variable {L : Nat} {D : ab_D}
theorem p_dated {n v : Int} (hT : ∀ j, j < 10 → D 1002 j = ipw 10 j) (hw : rgW (D 62)) : CI 93 [vR 0, vI n, vI v] (EE L, D) (fun r D' => ((¬ isSmp n v ∧ r = -2) ∨ (isSmp n v ∧ isArg (fun y => uS (D 62) n.toNat v y) (n - 1) 60 (-9) r)) ∧ D' = D) := by
  refine Sx.un (y := 93) (n := 0) (lo := [vR 0, vI n, vI v]) (st := []) (u := (0, 0)) ?_
  refine go_93_0 ?_
  simp only [sg_93_0, cl_I, cl_L, cl_R, e_bipush, e_cs2, e_if_ne, e_iload_n, e_iret0, e_nil, fl_0, fl_I, fl_L, fl_R, l_ld1, l_ld2, rk_1, lc_lt, lc_le, lc_gt, lc_ge, lc_eq, true_and, and_true, List.length_cons, List.length_nil, ab_ia, Nat.reduceAdd, Nat.reduceLeDiff, Nat.reduceEqDiff, Nat.reduceLT, Int.reduceLT, Int.reduceLE, Int.reduceEq, Int.reduceNeg, true_or, or_true, false_or, or_false, not_false_eq_true, not_true_eq_false, false_implies, true_implies, forall_const, implies_true, Nat.zero_le, Nat.le_refl]
  refine CB.use (p_isSample hT) (fun h1 => ?_) (fun h1 => ?_)
  · obtain ⟨b1, b2⟩ := smp_bd h1
    try simp only [lc_lt, lc_le, lc_gt, lc_ge, lc_eq, true_and, and_true, List.length_cons, List.length_nil, ab_ia, Nat.reduceAdd, Nat.reduceLeDiff, Nat.reduceEqDiff, Nat.reduceLT, Int.reduceLT, Int.reduceLE, Int.reduceEq, Int.reduceNeg, true_or, or_true, false_or, or_false, not_false_eq_true, not_true_eq_false, false_implies, true_implies, forall_const, implies_true, Nat.zero_le, Nat.le_refl]
    refine go_93_6 ?_
    simp only [sg_93_6, cl_I, cl_L, cl_R, e_aload_n, e_bipush, e_cv4, e_get1, e_iload_n, e_iret0, e_nil, fl_0, fl_I, fl_L, fl_R, l_ld1, l_ld2, l_ldA0, rk_1, wRef_some, EE_n, EE_r0_9, EE_s0, EE_s61, lc_lt, lc_le, lc_gt, lc_ge, lc_eq, true_and, and_true, List.length_cons, List.length_nil, ab_ia, Nat.reduceAdd, Nat.reduceLeDiff, Nat.reduceEqDiff, Nat.reduceLT, Int.reduceLT, Int.reduceLE, Int.reduceEq, Int.reduceNeg, true_or, or_true, false_or, or_false, not_false_eq_true, not_true_eq_false, false_implies, true_implies, forall_const, implies_true, Nat.zero_le, Nat.le_refl]
    refine (lr_best hw b1 b2).mono ?_
    rintro r D' ⟨h2, rfl⟩
    exact retI ⟨Or.inr ⟨h1, h2⟩, rfl⟩
  · try simp only [lc_lt, lc_le, lc_gt, lc_ge, lc_eq, true_and, and_true, List.length_cons, List.length_nil, ab_ia, Nat.reduceAdd, Nat.reduceLeDiff, Nat.reduceEqDiff, Nat.reduceLT, Int.reduceLT, Int.reduceLE, Int.reduceEq, Int.reduceNeg, true_or, or_true, false_or, or_false, not_false_eq_true, not_true_eq_false, false_implies, true_implies, forall_const, implies_true, Nat.zero_le, Nat.le_refl]
    exact retI ⟨Or.inl ⟨h1, rfl⟩, rfl⟩
theorem m_dated {n v : Int} (hw : rgW (D 82)) : CI 174 [vR 69, vI n, vI v] (EE L, D) (fun r D' => ((¬ isSmp n v ∧ r = -2) ∨ (isSmp n v ∧ isArg (fun y => uS (D 82) n.toNat v y) (n - 1) 60 (-9) r)) ∧ D' = D) := by
  refine Sx.un (y := 174) (n := 0) (lo := [vR 69, vI n, vI v]) (st := []) (u := (0, 0)) ?_
  refine go_174_0 ?_
  simp only [sg_174_0, cl_I, cl_L, cl_R, e_aload_n, e_cs2, e_cv3, e_goto, e_if_eq, e_iload_n, e_nil, fl_0, fl_I, fl_L, fl_R, l_ld1, l_ld2, l_ldA0, rk_1, EE_n, EE_s69, lc_lt, lc_le, lc_gt, lc_ge, lc_eq, true_and, and_true, List.length_cons, List.length_nil, ab_ia, Nat.reduceAdd, Nat.reduceLeDiff, Nat.reduceEqDiff, Nat.reduceLT, Int.reduceLT, Int.reduceLE, Int.reduceEq, Int.reduceNeg, true_or, or_true, false_or, or_false, not_false_eq_true, not_true_eq_false, false_implies, true_implies, forall_const, implies_true, Nat.zero_le, Nat.le_refl]
  refine CB.use m_isSample (fun h1 => ?_) (fun h1 => ?_)
  · obtain ⟨b1, b2⟩ := smp_bd h1
    try simp only [lc_lt, lc_le, lc_gt, lc_ge, lc_eq, true_and, and_true, List.length_cons, List.length_nil, ab_ia, Nat.reduceAdd, Nat.reduceLeDiff, Nat.reduceEqDiff, Nat.reduceLT, Int.reduceLT, Int.reduceLE, Int.reduceEq, Int.reduceNeg, true_or, or_true, false_or, or_false, not_false_eq_true, not_true_eq_false, false_implies, true_implies, forall_const, implies_true, Nat.zero_le, Nat.le_refl]
    refine (m_datedOf hw b1 b2).mono ?_
    rintro r D' ⟨h2, rfl⟩
    refine go_174_10 ?_
    simp only [sg_174_10, cl_I, cl_L, cl_R, e_iret0, e_nil, lc_lt, lc_le, lc_gt, lc_ge, lc_eq, true_and, and_true, List.length_cons, List.length_nil, ab_ia, Nat.reduceAdd, Nat.reduceLeDiff, Nat.reduceEqDiff, Nat.reduceLT, Int.reduceLT, Int.reduceLE, Int.reduceEq, Int.reduceNeg, true_or, or_true, false_or, or_false, not_false_eq_true, not_true_eq_false, false_implies, true_implies, forall_const, implies_true, Nat.zero_le, Nat.le_refl]
    exact retI ⟨Or.inr ⟨h1, h2⟩, rfl⟩
  · try simp only [lc_lt, lc_le, lc_gt, lc_ge, lc_eq, true_and, and_true, List.length_cons, List.length_nil, ab_ia, Nat.reduceAdd, Nat.reduceLeDiff, Nat.reduceEqDiff, Nat.reduceLT, Int.reduceLT, Int.reduceLE, Int.reduceEq, Int.reduceNeg, true_or, or_true, false_or, or_false, not_false_eq_true, not_true_eq_false, false_implies, true_implies, forall_const, implies_true, Nat.zero_le, Nat.le_refl]
    refine go_174_9 ?_
    simp only [sg_174_9, cl_I, cl_L, cl_R, e_bipush, e_iret0, e_nil, lc_lt, lc_le, lc_gt, lc_ge, lc_eq, true_and, and_true, List.length_cons, List.length_nil, ab_ia, Nat.reduceAdd, Nat.reduceLeDiff, Nat.reduceEqDiff, Nat.reduceLT, Int.reduceLT, Int.reduceLE, Int.reduceEq, Int.reduceNeg, true_or, or_true, false_or, or_false, not_false_eq_true, not_true_eq_false, false_implies, true_implies, forall_const, implies_true, Nat.zero_le, Nat.le_refl]
    exact retI ⟨Or.inl ⟨h1, rfl⟩, rfl⟩
/-- how sure: the least of the others, less the least -/
def isSure (f : Int → Int) (n r : Int) : Prop := ∃ b c, isArg f (n - 1) 60 (-9) b ∧ isArg f (n - 1) 60 b c ∧ r = f c - f b
theorem p_sure {n v : Int} (hT : ∀ j, j < 10 → D 1002 j = ipw 10 j) (hw : rgW (D 62)) : CI 94 [vR 0, vI n, vI v] (EE L, D) (fun r D' => ((¬ isSmp n v ∧ r = -2) ∨ (isSmp n v ∧ isSure (fun y => uS (D 62) n.toNat v y) n r)) ∧ D' = D) := by
  refine Sx.un (y := 94) (n := 0) (lo := [vR 0, vI n, vI v, vU, vU]) (st := []) (u := (0, 0)) ?_
  refine go_94_0 ?_
  simp only [sg_94_0, cl_I, cl_L, cl_R, e_bipush, e_cs2, e_if_ne, e_iload_n, e_iret0, e_nil, fl_0, fl_I, fl_L, fl_R, l_ld1, l_ld2, rk_1, lc_lt, lc_le, lc_gt, lc_ge, lc_eq, true_and, and_true, List.length_cons, List.length_nil, ab_ia, Nat.reduceAdd, Nat.reduceLeDiff, Nat.reduceEqDiff, Nat.reduceLT, Int.reduceLT, Int.reduceLE, Int.reduceEq, Int.reduceNeg, true_or, or_true, false_or, or_false, not_false_eq_true, not_true_eq_false, false_implies, true_implies, forall_const, implies_true, Nat.zero_le, Nat.le_refl]
  refine CB.use (p_isSample hT) (fun h1 => ?_) (fun h1 => ?_)
  · obtain ⟨b1, b2⟩ := smp_bd h1
    try simp only [lc_lt, lc_le, lc_gt, lc_ge, lc_eq, true_and, and_true, List.length_cons, List.length_nil, ab_ia, Nat.reduceAdd, Nat.reduceLeDiff, Nat.reduceEqDiff, Nat.reduceLT, Int.reduceLT, Int.reduceLE, Int.reduceEq, Int.reduceNeg, true_or, or_true, false_or, or_false, not_false_eq_true, not_true_eq_false, false_implies, true_implies, forall_const, implies_true, Nat.zero_le, Nat.le_refl]
    refine go_94_6 ?_
    simp only [sg_94_6, cl_I, cl_L, cl_R, e_aload_n, e_bipush, e_cv4, e_get1, e_icmp_eq, e_icmp_ne, e_iload, e_iload_n, e_iret0, e_istore, e_istore_n, e_nil, fl_0, fl_I, fl_L, fl_R, l_ld1, l_ld2, l_ld3, l_ld4, l_ldA0, l_st3, l_st4, rk_1, wRef_some, EE_n, EE_r0_9, EE_s0, EE_s61, lc_lt, lc_le, lc_gt, lc_ge, lc_eq, true_and, and_true, List.length_cons, List.length_nil, ab_ia, Nat.reduceAdd, Nat.reduceLeDiff, Nat.reduceEqDiff, Nat.reduceLT, Int.reduceLT, Int.reduceLE, Int.reduceEq, Int.reduceNeg, true_or, or_true, false_or, or_false, not_false_eq_true, not_true_eq_false, false_implies, true_implies, forall_const, implies_true, Nat.zero_le, Nat.le_refl]
    refine (lr_best hw b1 b2).mono ?_
    rintro b D' ⟨h2, rfl⟩
    refine (lr_best hw b1 b2).mono ?_
    rintro c D' ⟨h3, rfl⟩
    have h2' := h2.1
    have h3' := h3.1
    refine ⟨fun q => absurd q (by omega), fun _ => ⟨fun _ => ?_, fun q => absurd q (by omega)⟩⟩
    refine go_94_28 ?_
    simp only [sg_94_28, cl_I, cl_L, cl_R, e_aload_n, e_cv4, e_get1, e_iload, e_iload_n, e_iret0, e_isub, e_nil, fl_0, fl_I, fl_L, fl_R, l_ld1, l_ld2, l_ld3, l_ld4, l_ldA0, rk_1, wRef_some, EE_n, EE_r0_9, EE_s0, EE_s61, lc_lt, lc_le, lc_gt, lc_ge, lc_eq, true_and, and_true, List.length_cons, List.length_nil, ab_ia, Nat.reduceAdd, Nat.reduceLeDiff, Nat.reduceEqDiff, Nat.reduceLT, Int.reduceLT, Int.reduceLE, Int.reduceEq, Int.reduceNeg, true_or, or_true, false_or, or_false, not_false_eq_true, not_true_eq_false, false_implies, true_implies, forall_const, implies_true, Nat.zero_le, Nat.le_refl]
    refine CI.use (lr_unlike hw b1 ⟨by omega, by omega⟩ b2) ?_
    refine CI.use (lr_unlike hw b1 ⟨by omega, by omega⟩ b2) ?_
    have e1 := uS_bd hw n.toNat v c (by omega) (by omega) (by omega)
    have e2 := uS_bd hw n.toNat v b (by omega) (by omega) (by omega)
    refine ⟨⟨by omega, by omega⟩, ?_⟩
    exact retI ⟨Or.inr ⟨h1, b, c, h2, h3, rfl⟩, rfl⟩
  · try simp only [lc_lt, lc_le, lc_gt, lc_ge, lc_eq, true_and, and_true, List.length_cons, List.length_nil, ab_ia, Nat.reduceAdd, Nat.reduceLeDiff, Nat.reduceEqDiff, Nat.reduceLT, Int.reduceLT, Int.reduceLE, Int.reduceEq, Int.reduceNeg, true_or, or_true, false_or, or_false, not_false_eq_true, not_true_eq_false, false_implies, true_implies, forall_const, implies_true, Nat.zero_le, Nat.le_refl]
    exact retI ⟨Or.inl ⟨h1, rfl⟩, rfl⟩
theorem m_sure_loop {Q : Option ab_V → ab_H → Prop} {n v b : Int} (hw : rgW (D 82)) (hn : 1 ≤ n ∧ n ≤ 9) (hr : 0 ≤ v ∧ v < 2147483648) (hb : isArg (fun y => uS (D 82) n.toNat v y) (n - 1) 60 (-9) b)
    (hq : ∀ c, isArg (fun y => uS (D 82) n.toNat v y) (n - 1) 60 b c → Q (some (.inl (uS (D 82) n.toNat v c - uS (D 82) n.toNat v b))) (EE L, D)) :
    ∀ (j : Nat) (next y : Int) (x6 : ab_V), y + j = 60 → n - 1 ≤ y → ((next = -9 ∧ ∀ z, n - 1 ≤ z → z < y → z = b) ∨ ∃ c, isArg (fun y => uS (D 82) n.toNat v y) (n - 1) y b c ∧ next = uS (D 82) n.toNat v c) → Sx 175 17 [vR 69, vI n, vI v, vI b, vI next, vI y, x6] [] (EE L, D) (0, 0) Q := by
  intro j
  have hb' := hb.1
  induction j with
  | zero =>
    intro next y x6 hy hl hi
    refine go_175_17 ?_
    simp only [sg_175_17, cl_I, cl_L, cl_R, e_aload_n, e_bipush, e_cv4, e_goto, e_icmp_eq, e_icmp_ge, e_iload, e_iload_n, e_istore, e_nil, fl_0, fl_I, fl_L, fl_R, l_ld1, l_ld2, l_ld3, l_ld4, l_ld5, l_ld6, l_ldA0, l_st6, rk_1, EE_n, EE_s69, lc_lt, lc_le, lc_gt, lc_ge, lc_eq, true_and, and_true, List.length_cons, List.length_nil, ab_ia, Nat.reduceAdd, Nat.reduceLeDiff, Nat.reduceEqDiff, Nat.reduceLT, Int.reduceLT, Int.reduceLE, Int.reduceEq, Int.reduceNeg, true_or, or_true, false_or, or_false, not_false_eq_true, not_true_eq_false, false_implies, true_implies, forall_const, implies_true, Nat.zero_le, Nat.le_refl]
    refine ⟨fun _ => ?_, fun hc => absurd hc (by omega)⟩
    have hy : y = 60 := by omega
    subst hy
    rcases hi with ⟨h1, h2⟩ | ⟨c, h1, h2⟩
    · have e1 := h2 57 (by omega) (by omega)
      have e2 := h2 58 (by omega) (by omega)
      omega
    · have h1' := h1.1
      have e1 := uS_bd hw n.toNat v c (by omega) (by omega) (by omega)
      have e2 := uS_bd hw n.toNat v b (by omega) (by omega) (by omega)
      refine go_175_41 ?_
      simp only [sg_175_41, cl_I, cl_L, cl_R, e_bipush, e_goto, e_icmp_ne, e_iload, e_nil, l_ld4, lc_lt, lc_le, lc_gt, lc_ge, lc_eq, true_and, and_true, List.length_cons, List.length_nil, ab_ia, Nat.reduceAdd, Nat.reduceLeDiff, Nat.reduceEqDiff, Nat.reduceLT, Int.reduceLT, Int.reduceLE, Int.reduceEq, Int.reduceNeg, true_or, or_true, false_or, or_false, not_false_eq_true, not_true_eq_false, false_implies, true_implies, forall_const, implies_true, Nat.zero_le, Nat.le_refl]
      refine ⟨fun _ => ?_, fun q => absurd q (by omega)⟩
      refine go_175_46 ?_
      simp only [sg_175_46, cl_I, cl_L, cl_R, e_aload_n, e_cv4, e_iload, e_iload_n, e_iret0, e_isub, e_nil, fl_0, fl_I, fl_L, fl_R, l_ld1, l_ld2, l_ld3, l_ld4, l_ldA0, rk_1, EE_n, EE_s69, lc_lt, lc_le, lc_gt, lc_ge, lc_eq, true_and, and_true, List.length_cons, List.length_nil, ab_ia, Nat.reduceAdd, Nat.reduceLeDiff, Nat.reduceEqDiff, Nat.reduceLT, Int.reduceLT, Int.reduceLE, Int.reduceEq, Int.reduceNeg, true_or, or_true, false_or, or_false, not_false_eq_true, not_true_eq_false, false_implies, true_implies, forall_const, implies_true, Nat.zero_le, Nat.le_refl]
      refine CI.use (m_matchOf hw hn ⟨by omega, by omega⟩ hr) ?_
      refine ⟨⟨by omega, by omega⟩, ?_⟩
      rw [h2]
      exact hq c h1
  | succ j ih =>
    intro next y x6 hy hl hi
    have keep : ∀ x6 : ab_V, (y = b ∨ ∃ c, isArg (fun y => uS (D 82) n.toNat v y) (n - 1) y b c ∧ next = uS (D 82) n.toNat v c ∧ uS (D 82) n.toNat v c ≤ uS (D 82) n.toNat v y) → Sx 175 37 [vR 69, vI n, vI v, vI b, vI next, vI y, x6] [] (EE L, D) (0, 0) Q := by
      intro x6 hk
      refine go_175_37 ?_
      simp only [sg_175_37, cl_I, cl_L, cl_R, e_goto, e_iinc, e_iload, e_istore, e_nil, l_inc5, l_ld4, l_st4, lc_lt, lc_le, lc_gt, lc_ge, lc_eq, true_and, and_true, List.length_cons, List.length_nil, ab_ia, Nat.reduceAdd, Nat.reduceLeDiff, Nat.reduceEqDiff, Nat.reduceLT, Int.reduceLT, Int.reduceLE, Int.reduceEq, Int.reduceNeg, true_or, or_true, false_or, or_false, not_false_eq_true, not_true_eq_false, false_implies, true_implies, forall_const, implies_true, Nat.zero_le, Nat.le_refl]
      refine ⟨⟨by omega, by omega⟩, ih _ _ _ (by omega) (by omega) ?_⟩
      rcases hk with hk | ⟨c, ⟨⟨g1, g2, g3⟩, g4⟩, h2, h3⟩
      · rcases hi with ⟨h1, h2⟩ | ⟨c, ⟨⟨g1, g2, g3⟩, g4⟩, h2⟩
        · exact Or.inl ⟨h1, fun z q1 q2 => by
            by_cases hz : z = y
            · omega
            · exact h2 z q1 (by omega)⟩
        · exact Or.inr ⟨c, ⟨⟨g1, by omega, g3⟩, fun z q1 q2 q3 => g4 z q1 (by omega) q3⟩, h2⟩
      · refine Or.inr ⟨c, ⟨⟨g1, by omega, g3⟩, fun z q1 q2 q3 => ?_⟩, h2⟩
        by_cases hz : z = y
        · subst hz
          exact ⟨h3, fun q => absurd q (by omega)⟩
        · exact g4 z q1 (by omega) q3
    have take : ∀ x6 : ab_V, y ≠ b → (next = -9 ∨ uS (D 82) n.toNat v y < next) → Sx 175 38 [vR 69, vI n, vI v, vI b, vI next, vI y, x6] [vI (uS (D 82) n.toNat v y)] (EE L, D) (0, 0) Q := by
      intro x6 hne hk
      refine go_175_38 ?_
      simp only [sg_175_38, cl_I, cl_L, cl_R, e_goto, e_iinc, e_istore, e_nil, l_inc5, l_st4, lc_lt, lc_le, lc_gt, lc_ge, lc_eq, true_and, and_true, List.length_cons, List.length_nil, ab_ia, Nat.reduceAdd, Nat.reduceLeDiff, Nat.reduceEqDiff, Nat.reduceLT, Int.reduceLT, Int.reduceLE, Int.reduceEq, Int.reduceNeg, true_or, or_true, false_or, or_false, not_false_eq_true, not_true_eq_false, false_implies, true_implies, forall_const, implies_true, Nat.zero_le, Nat.le_refl]
      refine ⟨⟨by omega, by omega⟩, ih _ _ _ (by omega) (by omega) (Or.inr ⟨y, ⟨⟨hl, by omega, hne⟩, fun z q1 q2 q3 => ?_⟩, rfl⟩)⟩
      by_cases hz : z = y
      · subst hz
        exact ⟨by omega, fun q => absurd q (by omega)⟩
      · rcases hi with ⟨h1, h2⟩ | ⟨c, ⟨⟨g1, g2, g3⟩, g4⟩, h2⟩
        · exact absurd (h2 z q1 (by omega)) q3
        · have := (g4 z q1 (by omega) q3).1
          have hc := uS_bd hw n.toNat v c (by omega) (by omega) (by omega)
          simp only at this ⊢
          exact ⟨by omega, fun _ => by omega⟩
    refine go_175_17 ?_
    simp only [sg_175_17, cl_I, cl_L, cl_R, e_aload_n, e_bipush, e_cv4, e_goto, e_icmp_eq, e_icmp_ge, e_iload, e_iload_n, e_istore, e_nil, fl_0, fl_I, fl_L, fl_R, l_ld1, l_ld2, l_ld3, l_ld4, l_ld5, l_ld6, l_ldA0, l_st6, rk_1, EE_n, EE_s69, lc_lt, lc_le, lc_gt, lc_ge, lc_eq, true_and, and_true, List.length_cons, List.length_nil, ab_ia, Nat.reduceAdd, Nat.reduceLeDiff, Nat.reduceEqDiff, Nat.reduceLT, Int.reduceLT, Int.reduceLE, Int.reduceEq, Int.reduceNeg, true_or, or_true, false_or, or_false, not_false_eq_true, not_true_eq_false, false_implies, true_implies, forall_const, implies_true, Nat.zero_le, Nat.le_refl]
    refine ⟨fun hc => absurd hc (by omega), fun _ => ?_⟩
    refine CI.use (m_matchOf hw hn ⟨by omega, by omega⟩ hr) ?_
    refine ⟨fun q => keep _ (Or.inl q), fun q => ⟨fun q2 => ?_, fun q2 => ⟨fun q3 => ?_, fun q3 => take _ q (Or.inr (by omega))⟩⟩⟩
    · refine go_175_35 ?_
      simp only [sg_175_35, cl_I, cl_L, cl_R, e_goto, e_iload, e_nil, l_ld6, lc_lt, lc_le, lc_gt, lc_ge, lc_eq, true_and, and_true, List.length_cons, List.length_nil, ab_ia, Nat.reduceAdd, Nat.reduceLeDiff, Nat.reduceEqDiff, Nat.reduceLT, Int.reduceLT, Int.reduceLE, Int.reduceEq, Int.reduceNeg, true_or, or_true, false_or, or_false, not_false_eq_true, not_true_eq_false, false_implies, true_implies, forall_const, implies_true, Nat.zero_le, Nat.le_refl]
      exact take _ q (Or.inl q2)
    · refine keep _ (Or.inr ?_)
      rcases hi with ⟨h1, h2⟩ | ⟨c, h1, h2⟩
      · exact absurd h1 q2
      · exact ⟨c, h1, h2, by omega⟩
theorem m_sure {n v : Int} (hw : rgW (D 82)) : CI 175 [vR 69, vI n, vI v] (EE L, D) (fun r D' => ((¬ isSmp n v ∧ r = -2) ∨ (isSmp n v ∧ isSure (fun y => uS (D 82) n.toNat v y) n r)) ∧ D' = D) := by
  refine Sx.un (y := 175) (n := 0) (lo := [vR 69, vI n, vI v, vU, vU, vU, vU]) (st := []) (u := (0, 0)) ?_
  refine go_175_0 ?_
  simp only [sg_175_0, cl_I, cl_L, cl_R, e_bipush, e_cs2, e_if_ne, e_iload_n, e_iret0, e_nil, fl_0, fl_I, fl_L, fl_R, l_ld1, l_ld2, rk_1, lc_lt, lc_le, lc_gt, lc_ge, lc_eq, true_and, and_true, List.length_cons, List.length_nil, ab_ia, Nat.reduceAdd, Nat.reduceLeDiff, Nat.reduceEqDiff, Nat.reduceLT, Int.reduceLT, Int.reduceLE, Int.reduceEq, Int.reduceNeg, true_or, or_true, false_or, or_false, not_false_eq_true, not_true_eq_false, false_implies, true_implies, forall_const, implies_true, Nat.zero_le, Nat.le_refl]
  refine CB.use m_isSample (fun h1 => ?_) (fun h1 => ?_)
  · obtain ⟨b1, b2⟩ := smp_bd h1
    try simp only [lc_lt, lc_le, lc_gt, lc_ge, lc_eq, true_and, and_true, List.length_cons, List.length_nil, ab_ia, Nat.reduceAdd, Nat.reduceLeDiff, Nat.reduceEqDiff, Nat.reduceLT, Int.reduceLT, Int.reduceLE, Int.reduceEq, Int.reduceNeg, true_or, or_true, false_or, or_false, not_false_eq_true, not_true_eq_false, false_implies, true_implies, forall_const, implies_true, Nat.zero_le, Nat.le_refl]
    refine go_175_6 ?_
    simp only [sg_175_6, cl_I, cl_L, cl_R, e_aload_n, e_bipush, e_cv3, e_iconst, e_iload_n, e_istore, e_istore_n, e_isub, e_nil, fl_0, fl_I, fl_L, fl_R, l_ld1, l_ld2, l_ldA0, l_st3, l_st4, l_st5, rk_1, EE_n, EE_s69, lc_lt, lc_le, lc_gt, lc_ge, lc_eq, true_and, and_true, List.length_cons, List.length_nil, ab_ia, Nat.reduceAdd, Nat.reduceLeDiff, Nat.reduceEqDiff, Nat.reduceLT, Int.reduceLT, Int.reduceLE, Int.reduceEq, Int.reduceNeg, true_or, or_true, false_or, or_false, not_false_eq_true, not_true_eq_false, false_implies, true_implies, forall_const, implies_true, Nat.zero_le, Nat.le_refl]
    refine (m_datedOf hw b1 b2).mono ?_
    rintro b D' ⟨h2, rfl⟩
    refine ⟨⟨by omega, by omega⟩, m_sure_loop hw b1 b2 h2 (fun c hc => retI ⟨Or.inr ⟨h1, b, c, h2, hc, rfl⟩, rfl⟩) (61 - n).toNat _ _ _ (by omega) (by omega) (Or.inl ⟨rfl, fun z q1 q2 => by omega⟩)⟩
  · try simp only [lc_lt, lc_le, lc_gt, lc_ge, lc_eq, true_and, and_true, List.length_cons, List.length_nil, ab_ia, Nat.reduceAdd, Nat.reduceLeDiff, Nat.reduceEqDiff, Nat.reduceLT, Int.reduceLT, Int.reduceLE, Int.reduceEq, Int.reduceNeg, true_or, or_true, false_or, or_false, not_false_eq_true, not_true_eq_false, false_implies, true_implies, forall_const, implies_true, Nat.zero_le, Nat.le_refl]
    exact retI ⟨Or.inl ⟨h1, rfl⟩, rfl⟩
theorem p_ring {y x : Int} : CI 91 [vR 0, vI y, vI x] (EE L, D) (fun r D' => (¬ (0 ≤ y ∧ y < 60) ∧ r = -1 ∧ D' = D) ∨ ((0 ≤ y ∧ y < 60) ∧ ¬ (0 ≤ x ∧ x ≤ 9) ∧ r = -2 ∧ D' = D) ∨ ((0 ≤ y ∧ y < 60) ∧ (0 ≤ x ∧ x ≤ 9) ∧ r = D 62 y.toNat ∧ D' = ups D 62 y.toNat x)) := by
  refine Sx.un (y := 91) (n := 0) (lo := [vR 0, vI y, vI x, vU]) (st := []) (u := (0, 0)) ?_
  refine go_91_0 ?_
  simp only [sg_91_0, cl_I, cl_L, cl_R, e_cs1, e_iconst, e_if_ne, e_iload_n, e_iret0, e_nil, fl_0, fl_I, fl_L, fl_R, l_ld1, rk_1, lc_lt, lc_le, lc_gt, lc_ge, lc_eq, true_and, and_true, List.length_cons, List.length_nil, ab_ia, Nat.reduceAdd, Nat.reduceLeDiff, Nat.reduceEqDiff, Nat.reduceLT, Int.reduceLT, Int.reduceLE, Int.reduceEq, Int.reduceNeg, true_or, or_true, false_or, or_false, not_false_eq_true, not_true_eq_false, false_implies, true_implies, forall_const, implies_true, Nat.zero_le, Nat.le_refl]
  refine CB.use p_isRingYear (fun h1 => ?_) (fun h1 => ?_)
  · try simp only [lc_lt, lc_le, lc_gt, lc_ge, lc_eq, true_and, and_true, List.length_cons, List.length_nil, ab_ia, Nat.reduceAdd, Nat.reduceLeDiff, Nat.reduceEqDiff, Nat.reduceLT, Int.reduceLT, Int.reduceLE, Int.reduceEq, Int.reduceNeg, true_or, or_true, false_or, or_false, not_false_eq_true, not_true_eq_false, false_implies, true_implies, forall_const, implies_true, Nat.zero_le, Nat.le_refl]
    refine go_91_5 ?_
    simp only [sg_91_5, cl_I, cl_L, cl_R, e_bipush, e_icmp_le, e_if_lt, e_iload_n, e_iret0, e_nil, l_ld2, lc_lt, lc_le, lc_gt, lc_ge, lc_eq, true_and, and_true, List.length_cons, List.length_nil, ab_ia, Nat.reduceAdd, Nat.reduceLeDiff, Nat.reduceEqDiff, Nat.reduceLT, Int.reduceLT, Int.reduceLE, Int.reduceEq, Int.reduceNeg, true_or, or_true, false_or, or_false, not_false_eq_true, not_true_eq_false, false_implies, true_implies, forall_const, implies_true, Nat.zero_le, Nat.le_refl]
    refine ⟨fun h2 => ?_, fun h2 => ⟨fun h3 => ?_, fun h3 => ?_⟩⟩
    · refine go_91_10 ?_
      simp only [sg_91_10, cl_I, cl_L, cl_R, e_bipush, e_iret0, e_nil, lc_lt, lc_le, lc_gt, lc_ge, lc_eq, true_and, and_true, List.length_cons, List.length_nil, ab_ia, Nat.reduceAdd, Nat.reduceLeDiff, Nat.reduceEqDiff, Nat.reduceLT, Int.reduceLT, Int.reduceLE, Int.reduceEq, Int.reduceNeg, true_or, or_true, false_or, or_false, not_false_eq_true, not_true_eq_false, false_implies, true_implies, forall_const, implies_true, Nat.zero_le, Nat.le_refl]
      exact retI (Or.inr (Or.inl ⟨h1, by omega, rfl, rfl⟩))
    · refine go_91_12 ?_
      simp only [sg_91_12, cl_I, cl_L, cl_R, e_aload_n, e_get1, e_iaload, e_iastore, e_iload_n, e_iret0, e_istore_n, e_nil, l_ld1, l_ld2, l_ld3, l_ldA0, l_st3, wRef_some, EE_n, EE_r0_9, EE_r61_0, EE_s0, EE_s61, EE_s62, lc_lt, lc_le, lc_gt, lc_ge, lc_eq, true_and, and_true, List.length_cons, List.length_nil, ab_ia, Nat.reduceAdd, Nat.reduceLeDiff, Nat.reduceEqDiff, Nat.reduceLT, Int.reduceLT, Int.reduceLE, Int.reduceEq, Int.reduceNeg, true_or, or_true, false_or, or_false, not_false_eq_true, not_true_eq_false, false_implies, true_implies, forall_const, implies_true, Nat.zero_le, Nat.le_refl]
      exact ⟨by omega, by omega, retI (Or.inr (Or.inr ⟨h1, by omega, rfl, rfl⟩))⟩
    · exact retI (Or.inr (Or.inl ⟨h1, by omega, rfl, rfl⟩))
  · try simp only [lc_lt, lc_le, lc_gt, lc_ge, lc_eq, true_and, and_true, List.length_cons, List.length_nil, ab_ia, Nat.reduceAdd, Nat.reduceLeDiff, Nat.reduceEqDiff, Nat.reduceLT, Int.reduceLT, Int.reduceLE, Int.reduceEq, Int.reduceNeg, true_or, or_true, false_or, or_false, not_false_eq_true, not_true_eq_false, false_implies, true_implies, forall_const, implies_true, Nat.zero_le, Nat.le_refl]
    exact retI (Or.inl ⟨h1, rfl, rfl⟩)
theorem m_ring {y x : Int} : CI 169 [vR 69, vI y, vI x] (EE L, D) (fun r D' => (¬ (0 ≤ y ∧ y < 60) ∧ r = -1 ∧ D' = D) ∨ ((0 ≤ y ∧ y < 60) ∧ ¬ (0 ≤ x ∧ x ≤ 9) ∧ r = -2 ∧ D' = D) ∨ ((0 ≤ y ∧ y < 60) ∧ (0 ≤ x ∧ x ≤ 9) ∧ r = D 82 y.toNat ∧ D' = ups D 82 y.toNat x)) := by
  refine Sx.un (y := 169) (n := 0) (lo := [vR 69, vI y, vI x, vU]) (st := []) (u := (0, 0)) ?_
  refine go_169_0 ?_
  simp only [sg_169_0, cl_I, cl_L, cl_R, e_cs3, e_i2l, e_iconst, e_if_ne, e_iload_n, e_iret0, e_lconst, e_ldc2, e_nil, fl_0, fl_I, fl_L, fl_R, l_ld1, rk_1, lc_lt, lc_le, lc_gt, lc_ge, lc_eq, true_and, and_true, List.length_cons, List.length_nil, ab_ia, Nat.reduceAdd, Nat.reduceLeDiff, Nat.reduceEqDiff, Nat.reduceLT, Int.reduceLT, Int.reduceLE, Int.reduceEq, Int.reduceNeg, true_or, or_true, false_or, or_false, not_false_eq_true, not_true_eq_false, false_implies, true_implies, forall_const, implies_true, Nat.zero_le, Nat.le_refl]
  refine CB.use m_in (fun h1 => ?_) (fun h1 => ?_)
  · try simp only [lc_lt, lc_le, lc_gt, lc_ge, lc_eq, true_and, and_true, List.length_cons, List.length_nil, ab_ia, Nat.reduceAdd, Nat.reduceLeDiff, Nat.reduceEqDiff, Nat.reduceLT, Int.reduceLT, Int.reduceLE, Int.reduceEq, Int.reduceNeg, true_or, or_true, false_or, or_false, not_false_eq_true, not_true_eq_false, false_implies, true_implies, forall_const, implies_true, Nat.zero_le, Nat.le_refl]
    refine go_169_8 ?_
    simp only [sg_169_8, cl_I, cl_L, cl_R, e_bipush, e_cs3, e_i2l, e_if_ne, e_iload_n, e_iret0, e_lconst, e_ldc2, e_nil, fl_0, fl_I, fl_L, fl_R, l_ld2, rk_1, lc_lt, lc_le, lc_gt, lc_ge, lc_eq, true_and, and_true, List.length_cons, List.length_nil, ab_ia, Nat.reduceAdd, Nat.reduceLeDiff, Nat.reduceEqDiff, Nat.reduceLT, Int.reduceLT, Int.reduceLE, Int.reduceEq, Int.reduceNeg, true_or, or_true, false_or, or_false, not_false_eq_true, not_true_eq_false, false_implies, true_implies, forall_const, implies_true, Nat.zero_le, Nat.le_refl]
    refine CB.use m_in (fun h2 => ?_) (fun h2 => ?_)
    · try simp only [lc_lt, lc_le, lc_gt, lc_ge, lc_eq, true_and, and_true, List.length_cons, List.length_nil, ab_ia, Nat.reduceAdd, Nat.reduceLeDiff, Nat.reduceEqDiff, Nat.reduceLT, Int.reduceLT, Int.reduceLE, Int.reduceEq, Int.reduceNeg, true_or, or_true, false_or, or_false, not_false_eq_true, not_true_eq_false, false_implies, true_implies, forall_const, implies_true, Nat.zero_le, Nat.le_refl]
      refine go_169_16 ?_
      simp only [sg_169_16, cl_I, cl_L, cl_R, e_aload_n, e_get1, e_iaload, e_iastore, e_iload_n, e_iret0, e_istore_n, e_nil, l_ld1, l_ld2, l_ld3, l_ldA0, l_st3, wRef_some, EE_n, EE_r69_21, EE_s69, EE_s82, lc_lt, lc_le, lc_gt, lc_ge, lc_eq, true_and, and_true, List.length_cons, List.length_nil, ab_ia, Nat.reduceAdd, Nat.reduceLeDiff, Nat.reduceEqDiff, Nat.reduceLT, Int.reduceLT, Int.reduceLE, Int.reduceEq, Int.reduceNeg, true_or, or_true, false_or, or_false, not_false_eq_true, not_true_eq_false, false_implies, true_implies, forall_const, implies_true, Nat.zero_le, Nat.le_refl]
      exact ⟨by omega, by omega, retI (Or.inr (Or.inr ⟨by omega, by omega, rfl, rfl⟩))⟩
    · try simp only [lc_lt, lc_le, lc_gt, lc_ge, lc_eq, true_and, and_true, List.length_cons, List.length_nil, ab_ia, Nat.reduceAdd, Nat.reduceLeDiff, Nat.reduceEqDiff, Nat.reduceLT, Int.reduceLT, Int.reduceLE, Int.reduceEq, Int.reduceNeg, true_or, or_true, false_or, or_false, not_false_eq_true, not_true_eq_false, false_implies, true_implies, forall_const, implies_true, Nat.zero_le, Nat.le_refl]
      exact retI (Or.inr (Or.inl ⟨by omega, by omega, rfl, rfl⟩))
  · try simp only [lc_lt, lc_le, lc_gt, lc_ge, lc_eq, true_and, and_true, List.length_cons, List.length_nil, ab_ia, Nat.reduceAdd, Nat.reduceLeDiff, Nat.reduceEqDiff, Nat.reduceLT, Int.reduceLT, Int.reduceLE, Int.reduceEq, Int.reduceNeg, true_or, or_true, false_or, or_false, not_false_eq_true, not_true_eq_false, false_implies, true_implies, forall_const, implies_true, Nat.zero_le, Nat.le_refl]
    exact retI (Or.inl ⟨by omega, rfl, rfl⟩)
end Rings3

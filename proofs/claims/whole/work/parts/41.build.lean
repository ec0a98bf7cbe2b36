/-! about, clay, build -/
section Build
variable {L : Nat} {D : ab_D} {G : Gr}
theorem p_areYears {E : ab_E} {n : Int} : CB 109 [vI n] E D (1 ≤ n ∧ n ≤ 60) := by
  refine Sx.un (y := 109) (n := 0) (lo := [vI n]) (st := []) (u := (0, 0)) ?_
  refine go_109_0 ?_
  simp only [sg_109_0, cl_I, cl_L, cl_R, e_bipush, e_goto, e_icmp_gt, e_icmp_lt, e_iconst, e_iload_n, e_nil, l_ld0, lc_lt, lc_le, lc_gt, lc_ge, lc_eq, true_and, and_true, List.length_cons, List.length_nil, ab_ia, Nat.reduceAdd, Nat.reduceLeDiff, Nat.reduceEqDiff, Nat.reduceLT, Int.reduceLT, Int.reduceLE, Int.reduceEq, Int.reduceNeg, true_or, or_true, false_or, or_false, not_false_eq_true, not_true_eq_false, false_implies, true_implies, forall_const, implies_true, Nat.zero_le, Nat.le_refl]
  repeat' first | refine And.intro ?_ ?_ | intro _ | (refine go_109_8 ?_; simp only [sg_109_8, cl_I, cl_L, cl_R, e_iconst, e_iret1, e_nil, lc_lt, lc_le, lc_gt, lc_ge, lc_eq, true_and, and_true, List.length_cons, List.length_nil, ab_ia, Nat.reduceAdd, Nat.reduceLeDiff, Nat.reduceEqDiff, Nat.reduceLT, Int.reduceLT, Int.reduceLE, Int.reduceEq, Int.reduceNeg, true_or, or_true, false_or, or_false, not_false_eq_true, not_true_eq_false, false_implies, true_implies, forall_const, implies_true, Nat.zero_le, Nat.le_refl]) | (refine go_109_9 ?_; simp only [sg_109_9, cl_I, cl_L, cl_R, e_iret1, e_nil, lc_lt, lc_le, lc_gt, lc_ge, lc_eq, true_and, and_true, List.length_cons, List.length_nil, ab_ia, Nat.reduceAdd, Nat.reduceLeDiff, Nat.reduceEqDiff, Nat.reduceLT, Int.reduceLT, Int.reduceLE, Int.reduceEq, Int.reduceNeg, true_or, or_true, false_or, or_false, not_false_eq_true, not_true_eq_false, false_implies, true_implies, forall_const, implies_true, Nat.zero_le, Nat.le_refl])
  all_goals first | exact retB1 (by omega) | exact retB0 (by omega)
theorem m_isYears {E : ab_E} {n : Int} : CB 155 [vI n] E D (1 ≤ n ∧ n ≤ 60) := by
  refine Sx.un (y := 155) (n := 0) (lo := [vI n]) (st := []) (u := (0, 0)) ?_
  refine go_155_0 ?_
  simp only [sg_155_0, cl_I, cl_L, cl_R, e_cs3, e_i2l, e_iload_n, e_iret1, e_lconst, e_ldc2, e_nil, fl_0, fl_I, fl_L, fl_R, l_ld0, rk_1, lc_lt, lc_le, lc_gt, lc_ge, lc_eq, true_and, and_true, List.length_cons, List.length_nil, ab_ia, Nat.reduceAdd, Nat.reduceLeDiff, Nat.reduceEqDiff, Nat.reduceLT, Int.reduceLT, Int.reduceLE, Int.reduceEq, Int.reduceNeg, true_or, or_true, false_or, or_false, not_false_eq_true, not_true_eq_false, false_implies, true_implies, forall_const, implies_true, Nat.zero_le, Nat.le_refl]
  refine CB.use m_in (fun h1 => ?_) (fun h1 => ?_)
  · try simp only [lc_lt, lc_le, lc_gt, lc_ge, lc_eq, true_and, and_true, List.length_cons, List.length_nil, ab_ia, Nat.reduceAdd, Nat.reduceLeDiff, Nat.reduceEqDiff, Nat.reduceLT, Int.reduceLT, Int.reduceLE, Int.reduceEq, Int.reduceNeg, true_or, or_true, false_or, or_false, not_false_eq_true, not_true_eq_false, false_implies, true_implies, forall_const, implies_true, Nat.zero_le, Nat.le_refl]
    exact retB1 (by omega)
  · try simp only [lc_lt, lc_le, lc_gt, lc_ge, lc_eq, true_and, and_true, List.length_cons, List.length_nil, ab_ia, Nat.reduceAdd, Nat.reduceLeDiff, Nat.reduceEqDiff, Nat.reduceLT, Int.reduceLT, Int.reduceLE, Int.reduceEq, Int.reduceNeg, true_or, or_true, false_or, or_false, not_false_eq_true, not_true_eq_false, false_implies, true_implies, forall_const, implies_true, Nat.zero_le, Nat.le_refl]
    exact retB0 (by omega)
theorem p_about {a : Int} : CI 74 [vR 0, vI a] (EE L, D) (fun r D' => ((¬ (0 ≤ a ∧ a < 8) ∧ r = -2) ∨ ((0 ≤ a ∧ a < 8) ∧ r = D 7 a.toNat)) ∧ D' = D) := by
  refine Sx.un (y := 74) (n := 0) (lo := [vR 0, vI a]) (st := []) (u := (0, 0)) ?_
  refine go_74_0 ?_
  simp only [sg_74_0, cl_I, cl_L, cl_R, e_bipush, e_icmp_lt, e_if_lt, e_iload_n, e_iret0, e_nil, l_ld1, lc_lt, lc_le, lc_gt, lc_ge, lc_eq, true_and, and_true, List.length_cons, List.length_nil, ab_ia, Nat.reduceAdd, Nat.reduceLeDiff, Nat.reduceEqDiff, Nat.reduceLT, Int.reduceLT, Int.reduceLE, Int.reduceEq, Int.reduceNeg, true_or, or_true, false_or, or_false, not_false_eq_true, not_true_eq_false, false_implies, true_implies, forall_const, implies_true, Nat.zero_le, Nat.le_refl]
  refine ⟨fun h1 => ?_, fun h1 => ⟨fun h2 => ?_, fun h2 => ?_⟩⟩
  · refine go_74_5 ?_
    simp only [sg_74_5, cl_I, cl_L, cl_R, e_bipush, e_iret0, e_nil, lc_lt, lc_le, lc_gt, lc_ge, lc_eq, true_and, and_true, List.length_cons, List.length_nil, ab_ia, Nat.reduceAdd, Nat.reduceLeDiff, Nat.reduceEqDiff, Nat.reduceLT, Int.reduceLT, Int.reduceLE, Int.reduceEq, Int.reduceNeg, true_or, or_true, false_or, or_false, not_false_eq_true, not_true_eq_false, false_implies, true_implies, forall_const, implies_true, Nat.zero_le, Nat.le_refl]
    exact retI ⟨Or.inl ⟨by omega, rfl⟩, rfl⟩
  · refine go_74_7 ?_
    simp only [sg_74_7, cl_I, cl_L, cl_R, e_aload_n, e_get1, e_iaload, e_iload_n, e_iret0, e_nil, l_ld1, l_ldA0, wRef_some, EE_n, EE_r0_3, EE_r6_0, EE_s0, EE_s6, EE_s7, EE_r6_0, EE_s6, EE_s7, lc_lt, lc_le, lc_gt, lc_ge, lc_eq, true_and, and_true, List.length_cons, List.length_nil, ab_ia, Nat.reduceAdd, Nat.reduceLeDiff, Nat.reduceEqDiff, Nat.reduceLT, Int.reduceLT, Int.reduceLE, Int.reduceEq, Int.reduceNeg, true_or, or_true, false_or, or_false, not_false_eq_true, not_true_eq_false, false_implies, true_implies, forall_const, implies_true, Nat.zero_le, Nat.le_refl]
    exact ⟨by omega, retI ⟨Or.inr ⟨by omega, rfl⟩, rfl⟩⟩
  · exact retI ⟨Or.inl ⟨by omega, rfl⟩, rfl⟩
theorem m_about {a : Int} : CI 128 [vR 69, vI a] (EE L, D) (fun r D' => ((¬ (0 ≤ a ∧ a < 8) ∧ r = -2) ∨ ((0 ≤ a ∧ a < 8) ∧ r = D 71 a.toNat)) ∧ D' = D) := by
  refine Sx.un (y := 128) (n := 0) (lo := [vR 69, vI a]) (st := []) (u := (0, 0)) ?_
  refine go_128_0 ?_
  simp only [sg_128_0, cl_I, cl_L, cl_R, e_aload_n, e_cs3, e_get1, e_goto, e_i2l, e_iaload, e_if_eq, e_iload_n, e_lconst, e_ldc2, e_nil, fl_0, fl_I, fl_L, fl_R, l_ld1, l_ldA0, rk_1, wRef_some, EE_n, EE_r69_1, EE_s69, EE_s71, lc_lt, lc_le, lc_gt, lc_ge, lc_eq, true_and, and_true, List.length_cons, List.length_nil, ab_ia, Nat.reduceAdd, Nat.reduceLeDiff, Nat.reduceEqDiff, Nat.reduceLT, Int.reduceLT, Int.reduceLE, Int.reduceEq, Int.reduceNeg, true_or, or_true, false_or, or_false, not_false_eq_true, not_true_eq_false, false_implies, true_implies, forall_const, implies_true, Nat.zero_le, Nat.le_refl]
  refine CB.use m_in (fun h1 => ?_) (fun h1 => ?_)
  · try simp only [lc_lt, lc_le, lc_gt, lc_ge, lc_eq, true_and, and_true, List.length_cons, List.length_nil, ab_ia, Nat.reduceAdd, Nat.reduceLeDiff, Nat.reduceEqDiff, Nat.reduceLT, Int.reduceLT, Int.reduceLE, Int.reduceEq, Int.reduceNeg, true_or, or_true, false_or, or_false, not_false_eq_true, not_true_eq_false, false_implies, true_implies, forall_const, implies_true, Nat.zero_le, Nat.le_refl]
    refine ⟨by omega, ?_⟩
    refine go_128_12 ?_
    simp only [sg_128_12, cl_I, cl_L, cl_R, e_iret0, e_nil, lc_lt, lc_le, lc_gt, lc_ge, lc_eq, true_and, and_true, List.length_cons, List.length_nil, ab_ia, Nat.reduceAdd, Nat.reduceLeDiff, Nat.reduceEqDiff, Nat.reduceLT, Int.reduceLT, Int.reduceLE, Int.reduceEq, Int.reduceNeg, true_or, or_true, false_or, or_false, not_false_eq_true, not_true_eq_false, false_implies, true_implies, forall_const, implies_true, Nat.zero_le, Nat.le_refl]
    exact retI ⟨Or.inr ⟨by omega, rfl⟩, rfl⟩
  · try simp only [lc_lt, lc_le, lc_gt, lc_ge, lc_eq, true_and, and_true, List.length_cons, List.length_nil, ab_ia, Nat.reduceAdd, Nat.reduceLeDiff, Nat.reduceEqDiff, Nat.reduceLT, Int.reduceLT, Int.reduceLE, Int.reduceEq, Int.reduceNeg, true_or, or_true, false_or, or_false, not_false_eq_true, not_true_eq_false, false_implies, true_implies, forall_const, implies_true, Nat.zero_le, Nat.le_refl]
    refine go_128_11 ?_
    simp only [sg_128_11, cl_I, cl_L, cl_R, e_bipush, e_iret0, e_nil, lc_lt, lc_le, lc_gt, lc_ge, lc_eq, true_and, and_true, List.length_cons, List.length_nil, ab_ia, Nat.reduceAdd, Nat.reduceLeDiff, Nat.reduceEqDiff, Nat.reduceLT, Int.reduceLT, Int.reduceLE, Int.reduceEq, Int.reduceNeg, true_or, or_true, false_or, or_false, not_false_eq_true, not_true_eq_false, false_implies, true_implies, forall_const, implies_true, Nat.zero_le, Nat.le_refl]
    exact retI ⟨Or.inl ⟨by omega, rfl⟩, rfl⟩
theorem p_clay {a : Int} (g : gOK G) (hg : gP D G) : CI 75 [vR 0, vI a] (EE L, D) (fun r D' => ((¬ isCl G.n a ∧ r = -1) ∨ (isCl G.n a ∧ r = G.cf a)) ∧ D' = D) := by
  have hn : D 7 0 = G.n := hg.1.1
  have g1 := g.1
  refine Sx.un (y := 75) (n := 0) (lo := [vR 0, vI a]) (st := []) (u := (0, 0)) ?_
  refine go_75_0 ?_
  simp only [sg_75_0, cl_I, cl_L, cl_R, e_aload_n, e_cv2, e_get1, e_iconst, e_if_ne, e_iload_n, e_iret0, e_nil, fl_0, fl_I, fl_L, fl_R, l_ld1, l_ldA0, rk_1, wRef_some, EE_n, EE_r0_3, EE_s0, EE_s6, lc_lt, lc_le, lc_gt, lc_ge, lc_eq, true_and, and_true, List.length_cons, List.length_nil, ab_ia, Nat.reduceAdd, Nat.reduceLeDiff, Nat.reduceEqDiff, Nat.reduceLT, Int.reduceLT, Int.reduceLE, Int.reduceEq, Int.reduceNeg, true_or, or_true, false_or, or_false, not_false_eq_true, not_true_eq_false, false_implies, true_implies, forall_const, implies_true, Nat.zero_le, Nat.le_refl]
  refine CB.use (g_hasCell isG6) (fun h1 => ?_) (fun h1 => ?_)
  · try simp only [lc_lt, lc_le, lc_gt, lc_ge, lc_eq, true_and, and_true, List.length_cons, List.length_nil, ab_ia, Nat.reduceAdd, Nat.reduceLeDiff, Nat.reduceEqDiff, Nat.reduceLT, Int.reduceLT, Int.reduceLE, Int.reduceEq, Int.reduceNeg, true_or, or_true, false_or, or_false, not_false_eq_true, not_true_eq_false, false_implies, true_implies, forall_const, implies_true, Nat.zero_le, Nat.le_refl]
    have h1 : isCl (D 7 0) a := h1
    rw [hn] at h1
    have h6 := isCl_mono g1.2 h1
    refine go_75_7 ?_
    simp only [sg_75_7, cl_I, cl_L, cl_R, e_aload_n, e_get1, e_iaload, e_iload_n, e_iret0, e_nil, l_ld1, l_ldA0, wRef_some, EE_n, EE_r0_3, EE_r6_1, EE_s0, EE_s6, EE_s8, EE_r6_1, EE_s6, EE_s8, lc_lt, lc_le, lc_gt, lc_ge, lc_eq, true_and, and_true, List.length_cons, List.length_nil, ab_ia, Nat.reduceAdd, Nat.reduceLeDiff, Nat.reduceEqDiff, Nat.reduceLT, Int.reduceLT, Int.reduceLE, Int.reduceEq, Int.reduceNeg, true_or, or_true, false_or, or_false, not_false_eq_true, not_true_eq_false, false_implies, true_implies, forall_const, implies_true, Nat.zero_le, Nat.le_refl]
    unfold isCl at h6
    exact ⟨by omega, retI ⟨Or.inr ⟨h1, hg.2.2 a h6⟩, rfl⟩⟩
  · try simp only [lc_lt, lc_le, lc_gt, lc_ge, lc_eq, true_and, and_true, List.length_cons, List.length_nil, ab_ia, Nat.reduceAdd, Nat.reduceLeDiff, Nat.reduceEqDiff, Nat.reduceLT, Int.reduceLT, Int.reduceLE, Int.reduceEq, Int.reduceNeg, true_or, or_true, false_or, or_false, not_false_eq_true, not_true_eq_false, false_implies, true_implies, forall_const, implies_true, Nat.zero_le, Nat.le_refl]
    have h1 : ¬ isCl (D 7 0) a := h1
    rw [hn] at h1
    exact retI ⟨Or.inl ⟨h1, rfl⟩, rfl⟩
theorem m_clay {a : Int} (g : gOK G) (hg : gM D G) : CI 132 [vR 69, vI a] (EE L, D) (fun r D' => ((¬ isCl G.n a ∧ r = -1) ∨ (isCl G.n a ∧ r = G.cf a)) ∧ D' = D) := by
  have hn : D 71 0 = G.n := hg.1.1
  have g1 := g.1
  refine Sx.un (y := 132) (n := 0) (lo := [vR 69, vI a]) (st := []) (u := (0, 0)) ?_
  refine go_132_0 ?_
  simp only [sg_132_0, cl_I, cl_L, cl_R, e_aload_n, e_cv2, e_goto, e_if_eq, e_iload_n, e_nil, fl_0, fl_I, fl_L, fl_R, l_ld1, l_ldA0, rk_1, EE_n, EE_s69, lc_lt, lc_le, lc_gt, lc_ge, lc_eq, true_and, and_true, List.length_cons, List.length_nil, ab_ia, Nat.reduceAdd, Nat.reduceLeDiff, Nat.reduceEqDiff, Nat.reduceLT, Int.reduceLT, Int.reduceLE, Int.reduceEq, Int.reduceNeg, true_or, or_true, false_or, or_false, not_false_eq_true, not_true_eq_false, false_implies, true_implies, forall_const, implies_true, Nat.zero_le, Nat.le_refl]
  refine CB.use m_isCell (fun h1 => ?_) (fun h1 => ?_)
  · try simp only [lc_lt, lc_le, lc_gt, lc_ge, lc_eq, true_and, and_true, List.length_cons, List.length_nil, ab_ia, Nat.reduceAdd, Nat.reduceLeDiff, Nat.reduceEqDiff, Nat.reduceLT, Int.reduceLT, Int.reduceLE, Int.reduceEq, Int.reduceNeg, true_or, or_true, false_or, or_false, not_false_eq_true, not_true_eq_false, false_implies, true_implies, forall_const, implies_true, Nat.zero_le, Nat.le_refl]
    rw [hn] at h1
    have h6 := isCl_mono g1.2 h1
    refine CI.use (m_clayOf hg h6) ?_
    try simp only [lc_lt, lc_le, lc_gt, lc_ge, lc_eq, true_and, and_true, List.length_cons, List.length_nil, ab_ia, Nat.reduceAdd, Nat.reduceLeDiff, Nat.reduceEqDiff, Nat.reduceLT, Int.reduceLT, Int.reduceLE, Int.reduceEq, Int.reduceNeg, true_or, or_true, false_or, or_false, not_false_eq_true, not_true_eq_false, false_implies, true_implies, forall_const, implies_true, Nat.zero_le, Nat.le_refl]
    refine go_132_9 ?_
    simp only [sg_132_9, cl_I, cl_L, cl_R, e_iret0, e_nil, lc_lt, lc_le, lc_gt, lc_ge, lc_eq, true_and, and_true, List.length_cons, List.length_nil, ab_ia, Nat.reduceAdd, Nat.reduceLeDiff, Nat.reduceEqDiff, Nat.reduceLT, Int.reduceLT, Int.reduceLE, Int.reduceEq, Int.reduceNeg, true_or, or_true, false_or, or_false, not_false_eq_true, not_true_eq_false, false_implies, true_implies, forall_const, implies_true, Nat.zero_le, Nat.le_refl]
    exact retI ⟨Or.inr ⟨h1, rfl⟩, rfl⟩
  · try simp only [lc_lt, lc_le, lc_gt, lc_ge, lc_eq, true_and, and_true, List.length_cons, List.length_nil, ab_ia, Nat.reduceAdd, Nat.reduceLeDiff, Nat.reduceEqDiff, Nat.reduceLT, Int.reduceLT, Int.reduceLE, Int.reduceEq, Int.reduceNeg, true_or, or_true, false_or, or_false, not_false_eq_true, not_true_eq_false, false_implies, true_implies, forall_const, implies_true, Nat.zero_le, Nat.le_refl]
    rw [hn] at h1
    refine go_132_8 ?_
    simp only [sg_132_8, cl_I, cl_L, cl_R, e_iconst, e_iret0, e_nil, lc_lt, lc_le, lc_gt, lc_ge, lc_eq, true_and, and_true, List.length_cons, List.length_nil, ab_ia, Nat.reduceAdd, Nat.reduceLeDiff, Nat.reduceEqDiff, Nat.reduceLT, Int.reduceLT, Int.reduceLE, Int.reduceEq, Int.reduceNeg, true_or, or_true, false_or, or_false, not_false_eq_true, not_true_eq_false, false_implies, true_implies, forall_const, implies_true, Nat.zero_le, Nat.le_refl]
    exact retI ⟨Or.inl ⟨h1, rfl⟩, rfl⟩
/-- a build that stands -/
def bok (G : Gr) (a w n : Int) (wd d k : Int) : Prop := ((0 ≤ wd ∧ wd < 3) ∧ (1 ≤ d ∧ d ≤ 15) ∧ (k = 0 ∨ k = 1)) ∧ n < G.la wd ∧ stb G a k w n.toNat d
def bvl (wd d k : Int) : Int := 1000 * (d + 3 * k + 2 * wd) + 100 * wd + 2 * d + k
/-- the least of those that C allows -/
def bbs (ok C : Int → Int → Int → Prop) (r : Int) : Prop := (r = -9 ∧ ∀ w d k, C w d k → ¬ ok w d k) ∨ ∃ w d k, (0 < r ∧ C w d k) ∧ ok w d k ∧ r = bvl w d k ∧ ∀ w' d' k', C w' d' k' → ok w' d' k' → r ≤ bvl w' d' k'
theorem bbs_uniq {ok C C' : Int → Int → Int → Prop} {r r' : Int} (hC : ∀ w d k, ok w d k → (C w d k ∧ C' w d k)) (h : bbs ok C r) (h' : bbs ok C' r') : r = r' := by
  rcases h with ⟨h1, h2⟩ | ⟨w, d, k, h1, h2, h3, h4⟩ <;> rcases h' with ⟨j1, j2⟩ | ⟨w', d', k', j1, j2, j3, j4⟩
  · omega
  · exact absurd j2 (h2 _ _ _ (hC _ _ _ j2).1)
  · exact absurd h2 (j2 _ _ _ (hC _ _ _ h2).2)
  · have a1 := h4 _ _ _ (hC _ _ _ j2).1 j2
    have a2 := j4 _ _ _ (hC _ _ _ h2).2 h2
    omega
theorem bbs_skip {ok C C' : Int → Int → Int → Prop} {r w d k : Int} (h : bbs ok C r) (hC : ∀ w' d' k', C w' d' k' → C' w' d' k') (hC' : ∀ w' d' k', C' w' d' k' → ok w' d' k' → C w' d' k' ∨ (w' = w ∧ d' = d ∧ k' = k)) (hno : ok w d k → r ≠ -9 ∧ r ≤ bvl w d k) : bbs ok C' r := by
  rcases h with ⟨h1, h2⟩ | ⟨w1, d1, k1, h1, h2, h3, h4⟩
  · refine Or.inl ⟨h1, fun w' d' k' hc ho => ?_⟩
    rcases hC' _ _ _ hc ho with q | ⟨rfl, rfl, rfl⟩
    · exact h2 _ _ _ q ho
    · exact (hno ho).1 h1
  · refine Or.inr ⟨w1, d1, k1, ⟨h1.1, hC _ _ _ h1.2⟩, h2, h3, fun w' d' k' hc ho => ?_⟩
    rcases hC' _ _ _ hc ho with q | ⟨rfl, rfl, rfl⟩
    · exact h4 _ _ _ q ho
    · exact (hno ho).2
theorem bbs_take {ok C C' : Int → Int → Int → Prop} {r w d k : Int} (h : bbs ok C r) (hC : C' w d k) (hC' : ∀ w' d' k', C' w' d' k' → ok w' d' k' → C w' d' k' ∨ (w' = w ∧ d' = d ∧ k' = k)) (ho : ok w d k) (h0 : 0 < bvl w d k) (hlt : r = -9 ∨ bvl w d k ≤ r) : bbs ok C' (bvl w d k) := by
  refine Or.inr ⟨w, d, k, ⟨h0, hC⟩, ho, rfl, fun w' d' k' hc ho' => ?_⟩
  rcases hC' _ _ _ hc ho' with q | ⟨rfl, rfl, rfl⟩
  · rcases h with ⟨h1, h2⟩ | ⟨w1, d1, k1, h1, h2, h3, h4⟩
    · exact absurd ho' (h2 _ _ _ q)
    · have := h4 _ _ _ q ho'
      have := h1.1
      omega
  · exact Int.le_refl _
theorem bbs_same {ok C C' : Int → Int → Int → Prop} {r : Int} (h : bbs ok C r) (hC : ∀ w' d' k', ok w' d' k' → (C w' d' k' ↔ C' w' d' k')) : bbs ok C' r := by
  rcases h with ⟨h1, h2⟩ | ⟨w1, d1, k1, h1, h2, h3, h4⟩
  · exact Or.inl ⟨h1, fun w' d' k' hc ho => h2 _ _ _ ((hC _ _ _ ho).mpr hc) ho⟩
  · exact Or.inr ⟨w1, d1, k1, ⟨h1.1, (hC _ _ _ h2).mp h1.2⟩, h2, h3, fun w' d' k' hc ho => h4 _ _ _ ((hC _ _ _ ho).mpr hc) ho⟩
/-- the builds of wood wd ahead of depth d, collar k -/
def cW (wd d k : Int) (w' d' k' : Int) : Prop := w' = wd ∧ (d' < d ∨ (d' = d ∧ k' < k))
def cA (wd d k : Int) (w' d' k' : Int) : Prop := w' < wd ∨ (w' = wd ∧ (d' < d ∨ (d' = d ∧ k' < k)))
theorem p_lb_in {Q : Option ab_V → ab_H → Prop} {a w n wd d : Int} (g : gOK G) (hg : gP D G) (ha : isCl 6 a) (hn : 1 ≤ n ∧ n ≤ 60) (hwd : 0 ≤ wd ∧ wd < 3) (hla : n < G.la wd) (hd : 1 ≤ d ∧ d ≤ 15)
    (hq : ∀ (b lw : Int) (x8 x9 x10 : ab_V), bbs (bok G a w n) (cW wd (d + 1) 0) b → (b ≠ -9 → 1000 * lw ≤ b ∧ b < 1000 * lw + 1000) → Sx 114 6 [vR 0, vI wd, vI a, vI w, vI n, vI b, vI lw, vI (d + 1), x8, x9, x10] [] (EE L, D) (0, 0) Q) :
    ∀ (t : Nat) (k b lw : Int) (x9 x10 : ab_V), 0 ≤ k → k + t = 2 → bbs (bok G a w n) (cW wd d k) b → (b ≠ -9 → 1000 * lw ≤ b ∧ b < 1000 * lw + 1000) → Sx 114 11 [vR 0, vI wd, vI a, vI w, vI n, vI b, vI lw, vI d, vI k, x9, x10] [] (EE L, D) (0, 0) Q := by
  intro t
  induction t with
  | zero =>
    intro k b lw x9 x10 h0 ht hi hlw
    refine go_114_11 ?_
    simp only [sg_114_11, cl_I, cl_L, cl_R, e_bipush, e_goto, e_iadd, e_icmp_eq, e_icmp_ge, e_icmp_gt, e_iconst, e_iload, e_iload_n, e_imul, e_istore, e_nil, l_ld1, l_ld5, l_ld6, l_ld7, l_ld8, l_ld9, l_st9, lc_lt, lc_le, lc_gt, lc_ge, lc_eq, true_and, and_true, List.length_cons, List.length_nil, ab_ia, Nat.reduceAdd, Nat.reduceLeDiff, Nat.reduceEqDiff, Nat.reduceLT, Int.reduceLT, Int.reduceLE, Int.reduceEq, Int.reduceNeg, true_or, or_true, false_or, or_false, not_false_eq_true, not_true_eq_false, false_implies, true_implies, forall_const, implies_true, Nat.zero_le, Nat.le_refl]
    refine ⟨fun _ => ?_, fun hc => absurd hc (by omega)⟩
    refine go_114_68 ?_
    simp only [sg_114_68, cl_I, cl_L, cl_R, e_goto, e_iinc, e_nil, l_inc7, lc_lt, lc_le, lc_gt, lc_ge, lc_eq, true_and, and_true, List.length_cons, List.length_nil, ab_ia, Nat.reduceAdd, Nat.reduceLeDiff, Nat.reduceEqDiff, Nat.reduceLT, Int.reduceLT, Int.reduceLE, Int.reduceEq, Int.reduceNeg, true_or, or_true, false_or, or_false, not_false_eq_true, not_true_eq_false, false_implies, true_implies, forall_const, implies_true, Nat.zero_le, Nat.le_refl]
    refine ⟨⟨by omega, by omega⟩, hq _ _ _ _ _ (bbs_same hi (fun w' d' k' ho => ?_)) hlw⟩
    have := ho.1
    unfold cW
    omega
  | succ t ih =>
    intro k b lw x9 x10 h0 ht hi hlw
    have stepC : ∀ w' d' k', cW wd d (k + 1) w' d' k' → bok G a w n w' d' k' → cW wd d k w' d' k' ∨ (w' = wd ∧ d' = d ∧ k' = k) := by
      intro w' d' k' hc _
      unfold cW at *
      omega
    have hbig : bok G a w n wd d k → b ≠ -9 → lw ≤ d + 3 * k + 2 * wd → b ≤ bvl wd d k := by
      intro ho hb hw
      rcases hi with ⟨h1, h2⟩ | ⟨w1, d1, k1, ⟨h1, h1'⟩, h2, h3, h4⟩
      · exact absurd h1 hb
      · have := hlw hb
        have := h2.1
        unfold bvl at *
        unfold cW at h1'
        have e1 : 0 ≤ 100 * w1 + 2 * d1 + k1 ∧ 100 * w1 + 2 * d1 + k1 < 1000 := by omega
        have e2 : lw = d1 + 3 * k1 + 2 * w1 := by omega
        have e3 : lw + 1 ≤ d + 3 * k + 2 * wd ∨ lw = d + 3 * k + 2 * wd := by omega
        rcases e3 with e3 | e3
        · omega
        · have e4 : 2 * d1 + k1 ≤ 2 * d + k := by omega
          omega
    have skip : (bok G a w n wd d k → b ≠ -9 ∧ lw ≤ d + 3 * k + 2 * wd) → ∀ x9 x10 : ab_V, Sx 114 66 [vR 0, vI wd, vI a, vI w, vI n, vI b, vI lw, vI d, vI k, x9, x10] [] (EE L, D) (0, 0) Q := by
      intro hs x9 x10
      refine go_114_66 ?_
      simp only [sg_114_66, cl_I, cl_L, cl_R, e_goto, e_iinc, e_nil, l_inc8, lc_lt, lc_le, lc_gt, lc_ge, lc_eq, true_and, and_true, List.length_cons, List.length_nil, ab_ia, Nat.reduceAdd, Nat.reduceLeDiff, Nat.reduceEqDiff, Nat.reduceLT, Int.reduceLT, Int.reduceLE, Int.reduceEq, Int.reduceNeg, true_or, or_true, false_or, or_false, not_false_eq_true, not_true_eq_false, false_implies, true_implies, forall_const, implies_true, Nat.zero_le, Nat.le_refl]
      refine ⟨⟨by omega, by omega⟩, ih (k + 1) _ _ _ _ (by omega) (by omega) (bbs_skip hi (fun w' d' k' q => ?_) stepC (fun ho => ⟨(hs ho).1, hbig ho (hs ho).1 (hs ho).2⟩)) hlw⟩
      unfold cW at *
      omega
    have tak : ∀ x10 : ab_V, bok G a w n wd d k → (b = -9 ∨ d + 3 * k + 2 * wd < lw) → Sx 114 11 [vR 0, vI wd, vI a, vI w, vI n, vI (1000 * (d + 3 * k + 2 * wd) + 100 * wd + 2 * d + k), vI (d + 3 * k + 2 * wd), vI d, vI (k + 1), vI (d + 3 * k + 2 * wd), x10] [] (EE L, D) (0, 0) Q := by
      intro x10 ho hb
      refine ih (k + 1) _ _ _ _ (by omega) (by omega) (bbs_take (w := wd) (d := d) (k := k) hi (by unfold cW; omega) stepC ho (by unfold bvl; omega) ?_) (fun _ => by omega)
      rcases hb with q | q
      · exact Or.inl q
      · by_cases q2 : b = -9
        · exact Or.inl q2
        · have := hlw q2
          right
          unfold bvl
          omega
    have hkk : k = 0 ∨ k = 1 := by omega
    have go : ∀ x10 : ab_V, (b = -9 ∨ d + 3 * k + 2 * wd < lw) → Sx 114 46 [vR 0, vI wd, vI a, vI w, vI n, vI b, vI lw, vI d, vI k, vI (d + 3 * k + 2 * wd), x10] [vI k, vI d, vI a, vR 6] (EE L, D) (0, 0) Q := by
      intro x10 hb
      refine go_114_46 ?_
      simp only [sg_114_46, cl_I, cl_L, cl_R, e_bipush, e_cv6, e_goto, e_iadd, e_iconst, e_if_eq, e_iinc, e_iload, e_iload_n, e_imul, e_istore, e_nil, e_sipush, fl_0, fl_I, fl_L, fl_R, l_inc8, l_ld1, l_ld3, l_ld4, l_ld7, l_ld8, l_ld9, l_st5, l_st6, rk_1, EE_n, EE_s6, EE_s6, lc_lt, lc_le, lc_gt, lc_ge, lc_eq, true_and, and_true, List.length_cons, List.length_nil, ab_ia, Nat.reduceAdd, Nat.reduceLeDiff, Nat.reduceEqDiff, Nat.reduceLT, Int.reduceLT, Int.reduceLE, Int.reduceEq, Int.reduceNeg, true_or, or_true, false_or, or_false, not_false_eq_true, not_true_eq_false, false_implies, true_implies, forall_const, implies_true, Nat.zero_le, Nat.le_refl]
      refine CB.use (g_bears g hg ha hd hkk (by omega)) (fun h1 => ?_) (fun h1 => ?_)
      · try simp only [lc_lt, lc_le, lc_gt, lc_ge, lc_eq, true_and, and_true, List.length_cons, List.length_nil, ab_ia, Nat.reduceAdd, Nat.reduceLeDiff, Nat.reduceEqDiff, Nat.reduceLT, Int.reduceLT, Int.reduceLE, Int.reduceEq, Int.reduceNeg, true_or, or_true, false_or, or_false, not_false_eq_true, not_true_eq_false, false_implies, true_implies, forall_const, implies_true, Nat.zero_le, Nat.le_refl]
        refine ⟨⟨by omega, by omega⟩, ⟨by omega, by omega⟩, ⟨by omega, by omega⟩, ⟨by omega, by omega⟩, ⟨by omega, by omega⟩, ⟨by omega, by omega⟩, ⟨by omega, by omega⟩, ?_⟩
        exact tak _ ⟨⟨hwd, hd, hkk⟩, hla, h1⟩ hb
      · try simp only [lc_lt, lc_le, lc_gt, lc_ge, lc_eq, true_and, and_true, List.length_cons, List.length_nil, ab_ia, Nat.reduceAdd, Nat.reduceLeDiff, Nat.reduceEqDiff, Nat.reduceLT, Int.reduceLT, Int.reduceLE, Int.reduceEq, Int.reduceNeg, true_or, or_true, false_or, or_false, not_false_eq_true, not_true_eq_false, false_implies, true_implies, forall_const, implies_true, Nat.zero_le, Nat.le_refl]
        exact skip (fun ho => absurd ho.2.2 h1) _ _
    have go33 : ∀ x10 : ab_V, (b = -9 ∨ d + 3 * k + 2 * wd < lw) → Sx 114 33 [vR 0, vI wd, vI a, vI w, vI n, vI b, vI lw, vI d, vI k, vI (d + 3 * k + 2 * wd), x10] [vI 1] (EE L, D) (0, 0) Q := by
      intro x10 hb
      refine go_114_33 ?_
      simp only [sg_114_33, cl_I, cl_L, cl_R, e_aload_n, e_get1, e_goto, e_icmp_ne, e_iconst, e_if_eq, e_iload, e_iload_n, e_istore, e_nil, l_ld10, l_ld2, l_ld7, l_ld8, l_ldA0, l_st10, wRef_some, EE_n, EE_r0_3, EE_s0, EE_s6, lc_lt, lc_le, lc_gt, lc_ge, lc_eq, true_and, and_true, List.length_cons, List.length_nil, ab_ia, Nat.reduceAdd, Nat.reduceLeDiff, Nat.reduceEqDiff, Nat.reduceLT, Int.reduceLT, Int.reduceLE, Int.reduceEq, Int.reduceNeg, true_or, or_true, false_or, or_false, not_false_eq_true, not_true_eq_false, false_implies, true_implies, forall_const, implies_true, Nat.zero_le, Nat.le_refl]
      refine ⟨fun q => ?_, fun q => ?_⟩
      · have e : k = 0 := by omega
        subst e
        have := go (vI 1) hb
        refine go_114_45 ?_
        simp only [sg_114_45, cl_I, cl_L, cl_R, e_bipush, e_cv6, e_goto, e_iadd, e_iconst, e_if_eq, e_iinc, e_iload, e_iload_n, e_imul, e_istore, e_nil, e_sipush, fl_0, fl_I, fl_L, fl_R, l_inc8, l_ld1, l_ld3, l_ld4, l_ld7, l_ld8, l_ld9, l_st5, l_st6, rk_1, EE_n, EE_s6, EE_n, EE_s6, lc_lt, lc_le, lc_gt, lc_ge, lc_eq, true_and, and_true, List.length_cons, List.length_nil, ab_ia, Nat.reduceAdd, Nat.reduceLeDiff, Nat.reduceEqDiff, Nat.reduceLT, Int.reduceLT, Int.reduceLE, Int.reduceEq, Int.reduceNeg, true_or, or_true, false_or, or_false, not_false_eq_true, not_true_eq_false, false_implies, true_implies, forall_const, implies_true, Nat.zero_le, Nat.le_refl]
        refine CB.use (g_bears g hg ha hd hkk (by omega)) (fun h1 => ?_) (fun h1 => ?_)
        · try simp only [lc_lt, lc_le, lc_gt, lc_ge, lc_eq, true_and, and_true, List.length_cons, List.length_nil, ab_ia, Nat.reduceAdd, Nat.reduceLeDiff, Nat.reduceEqDiff, Nat.reduceLT, Int.reduceLT, Int.reduceLE, Int.reduceEq, Int.reduceNeg, true_or, or_true, false_or, or_false, not_false_eq_true, not_true_eq_false, false_implies, true_implies, forall_const, implies_true, Nat.zero_le, Nat.le_refl]
          refine ⟨⟨by omega, by omega⟩, ⟨by omega, by omega⟩, ⟨by omega, by omega⟩, ⟨by omega, by omega⟩, ⟨by omega, by omega⟩, ⟨by omega, by omega⟩, ⟨by omega, by omega⟩, ?_⟩
          exact tak _ ⟨⟨hwd, hd, hkk⟩, hla, h1⟩ hb
        · try simp only [lc_lt, lc_le, lc_gt, lc_ge, lc_eq, true_and, and_true, List.length_cons, List.length_nil, ab_ia, Nat.reduceAdd, Nat.reduceLeDiff, Nat.reduceEqDiff, Nat.reduceLT, Int.reduceLT, Int.reduceLE, Int.reduceEq, Int.reduceNeg, true_or, or_true, false_or, or_false, not_false_eq_true, not_true_eq_false, false_implies, true_implies, forall_const, implies_true, Nat.zero_le, Nat.le_refl]
          exact skip (fun ho => absurd ho.2.2 h1) _ _
      · have e : k = 1 := by omega
        subst e
        exact go _ hb
    refine go_114_11 ?_
    simp only [sg_114_11, cl_I, cl_L, cl_R, e_bipush, e_goto, e_iadd, e_icmp_eq, e_icmp_ge, e_icmp_gt, e_iconst, e_iload, e_iload_n, e_imul, e_istore, e_nil, l_ld1, l_ld5, l_ld6, l_ld7, l_ld8, l_ld9, l_st9, lc_lt, lc_le, lc_gt, lc_ge, lc_eq, true_and, and_true, List.length_cons, List.length_nil, ab_ia, Nat.reduceAdd, Nat.reduceLeDiff, Nat.reduceEqDiff, Nat.reduceLT, Int.reduceLT, Int.reduceLE, Int.reduceEq, Int.reduceNeg, true_or, or_true, false_or, or_false, not_false_eq_true, not_true_eq_false, false_implies, true_implies, forall_const, implies_true, Nat.zero_le, Nat.le_refl]
    refine ⟨fun hc => absurd hc (by omega), fun _ => ⟨⟨by omega, by omega⟩, ⟨by omega, by omega⟩, ⟨by omega, by omega⟩, ⟨by omega, by omega⟩, fun h1 => ?_, fun h1 => ⟨fun h2 => ?_, fun h2 => ?_⟩⟩⟩
    · have := go33 x10 (Or.inl h1)
      refine go_114_30 ?_
      simp only [sg_114_30, cl_I, cl_L, cl_R, e_goto, e_iconst, e_nil, lc_lt, lc_le, lc_gt, lc_ge, lc_eq, true_and, and_true, List.length_cons, List.length_nil, ab_ia, Nat.reduceAdd, Nat.reduceLeDiff, Nat.reduceEqDiff, Nat.reduceLT, Int.reduceLT, Int.reduceLE, Int.reduceEq, Int.reduceNeg, true_or, or_true, false_or, or_false, not_false_eq_true, not_true_eq_false, false_implies, true_implies, forall_const, implies_true, Nat.zero_le, Nat.le_refl]
      exact this
    · refine go_114_32 ?_
      simp only [sg_114_32, cl_I, cl_L, cl_R, e_aload_n, e_get1, e_goto, e_icmp_ne, e_iconst, e_if_eq, e_iload, e_iload_n, e_istore, e_nil, l_ld10, l_ld2, l_ld7, l_ld8, l_ldA0, l_st10, wRef_some, EE_n, EE_r0_3, EE_s0, EE_s6, lc_lt, lc_le, lc_gt, lc_ge, lc_eq, true_and, and_true, List.length_cons, List.length_nil, ab_ia, Nat.reduceAdd, Nat.reduceLeDiff, Nat.reduceEqDiff, Nat.reduceLT, Int.reduceLT, Int.reduceLE, Int.reduceEq, Int.reduceNeg, true_or, or_true, false_or, or_false, not_false_eq_true, not_true_eq_false, false_implies, true_implies, forall_const, implies_true, Nat.zero_le, Nat.le_refl]
      exact skip (fun ho => ⟨h1, h2⟩) _ _
    · exact go33 x10 (Or.inr (by omega))
theorem p_lb_out {Q : Option ab_V → ab_H → Prop} {a w n wd : Int} (g : gOK G) (hg : gP D G) (ha : isCl 6 a) (hn : 1 ≤ n ∧ n ≤ 60) (hwd : 0 ≤ wd ∧ wd < 3) (hla : n < G.la wd)
    (hq : ∀ b : Int, bbs (bok G a w n) (fun w' _ _ => w' = wd) b → Q (some (.inl b)) (EE L, D)) :
    ∀ (t : Nat) (d b lw : Int) (x8 x9 x10 : ab_V), 1 ≤ d → d + t = 16 → bbs (bok G a w n) (cW wd d 0) b → (b ≠ -9 → 1000 * lw ≤ b ∧ b < 1000 * lw + 1000) → Sx 114 6 [vR 0, vI wd, vI a, vI w, vI n, vI b, vI lw, vI d, x8, x9, x10] [] (EE L, D) (0, 0) Q := by
  intro t
  induction t with
  | zero =>
    intro d b lw x8 x9 x10 h0 ht hi hlw
    refine go_114_6 ?_
    simp only [sg_114_6, cl_I, cl_L, cl_R, e_bipush, e_icmp_gt, e_iconst, e_iload, e_istore, e_nil, l_ld7, l_st8, lc_lt, lc_le, lc_gt, lc_ge, lc_eq, true_and, and_true, List.length_cons, List.length_nil, ab_ia, Nat.reduceAdd, Nat.reduceLeDiff, Nat.reduceEqDiff, Nat.reduceLT, Int.reduceLT, Int.reduceLE, Int.reduceEq, Int.reduceNeg, true_or, or_true, false_or, or_false, not_false_eq_true, not_true_eq_false, false_implies, true_implies, forall_const, implies_true, Nat.zero_le, Nat.le_refl]
    refine ⟨fun _ => ?_, fun hc => absurd hc (by omega)⟩
    refine go_114_70 ?_
    simp only [sg_114_70, cl_I, cl_L, cl_R, e_iload, e_iret0, e_nil, l_ld5, lc_lt, lc_le, lc_gt, lc_ge, lc_eq, true_and, and_true, List.length_cons, List.length_nil, ab_ia, Nat.reduceAdd, Nat.reduceLeDiff, Nat.reduceEqDiff, Nat.reduceLT, Int.reduceLT, Int.reduceLE, Int.reduceEq, Int.reduceNeg, true_or, or_true, false_or, or_false, not_false_eq_true, not_true_eq_false, false_implies, true_implies, forall_const, implies_true, Nat.zero_le, Nat.le_refl]
    refine hq _ (bbs_same hi (fun w' d' k' ho => ?_))
    have := ho.1
    unfold cW
    omega
  | succ t ih =>
    intro d b lw x8 x9 x10 h0 ht hi hlw
    refine go_114_6 ?_
    simp only [sg_114_6, cl_I, cl_L, cl_R, e_bipush, e_icmp_gt, e_iconst, e_iload, e_istore, e_nil, l_ld7, l_st8, lc_lt, lc_le, lc_gt, lc_ge, lc_eq, true_and, and_true, List.length_cons, List.length_nil, ab_ia, Nat.reduceAdd, Nat.reduceLeDiff, Nat.reduceEqDiff, Nat.reduceLT, Int.reduceLT, Int.reduceLE, Int.reduceEq, Int.reduceNeg, true_or, or_true, false_or, or_false, not_false_eq_true, not_true_eq_false, false_implies, true_implies, forall_const, implies_true, Nat.zero_le, Nat.le_refl]
    refine ⟨fun hc => absurd hc (by omega), fun _ => ?_⟩
    exact p_lb_in g hg ha hn hwd hla (by omega) (fun b lw x8 x9 x10 q1 q2 => ih (d + 1) _ _ _ _ _ (by omega) (by omega) q1 q2) 2 0 b lw x9 x10 (by omega) (by omega) hi hlw
theorem p_lb {a w n wd : Int} (g : gOK G) (hg : gP D G) (ha : isCl 6 a) (hn : 1 ≤ n ∧ n ≤ 60) (hwd : 0 ≤ wd ∧ wd < 3) (hla : n < G.la wd) : CI 114 [vR 0, vI wd, vI a, vI w, vI n] (EE L, D) (fun r D' => bbs (bok G a w n) (fun w' _ _ => w' = wd) r ∧ D' = D) := by
  refine Sx.un (y := 114) (n := 0) (lo := [vR 0, vI wd, vI a, vI w, vI n, vU, vU, vU, vU, vU, vU]) (st := []) (u := (0, 0)) ?_
  refine go_114_0 ?_
  simp only [sg_114_0, cl_I, cl_L, cl_R, e_bipush, e_iconst, e_istore, e_nil, l_st5, l_st6, l_st7, lc_lt, lc_le, lc_gt, lc_ge, lc_eq, true_and, and_true, List.length_cons, List.length_nil, ab_ia, Nat.reduceAdd, Nat.reduceLeDiff, Nat.reduceEqDiff, Nat.reduceLT, Int.reduceLT, Int.reduceLE, Int.reduceEq, Int.reduceNeg, true_or, or_true, false_or, or_false, not_false_eq_true, not_true_eq_false, false_implies, true_implies, forall_const, implies_true, Nat.zero_le, Nat.le_refl]
  exact p_lb_out g hg ha hn hwd hla (fun b hb => retI ⟨hb, rfl⟩) 15 1 (-9) 0 vU vU vU (by omega) (by omega) (Or.inl ⟨rfl, fun w' d' k' hc ho => by have := ho.1; unfold cW at hc; omega⟩) (fun q => absurd rfl q)
theorem bbs_wood {a w n wd r : Int} (hwd : 0 ≤ wd ∧ wd < 3) (hla : n < G.la wd) (hless : ∀ v, 0 ≤ v → v < wd → ¬ n < G.la v) (h : bbs (bok G a w n) (fun w' _ _ => w' = wd) r) : bbs (bok G a w n) (fun _ _ _ => True) r := by
  have key : ∀ w' d' k', bok G a w n w' d' k' → bok G a w n wd d' k' ∧ bvl wd d' k' ≤ bvl w' d' k' := by
    intro w' d' k' ho
    obtain ⟨⟨o1, o2, o3⟩, o4, o5⟩ := ho
    have : ¬ w' < wd := fun q => hless w' o1.1 q o4
    refine ⟨⟨⟨hwd, o2, o3⟩, hla, o5⟩, ?_⟩
    unfold bvl
    omega
  rcases h with ⟨h1, h2⟩ | ⟨w1, d1, k1, h1, h2, h3, h4⟩
  · exact Or.inl ⟨h1, fun w' d' k' _ ho => h2 _ _ _ rfl (key _ _ _ ho).1⟩
  · refine Or.inr ⟨w1, d1, k1, ⟨h1.1, trivial⟩, h2, h3, fun w' d' k' _ ho => ?_⟩
    have := h4 wd d' k' rfl (key _ _ _ ho).1
    have := (key _ _ _ ho).2
    omega
theorem p_build_loop {Q : Option ab_V → ab_H → Prop} {a w n : Int} (g : gOK G) (hg : gP D G) (ha : isCl 6 a) (hn : 1 ≤ n ∧ n ≤ 60)
    (hq : ∀ b : Int, bbs (bok G a w n) (fun _ _ _ => True) b → Q (some (.inl b)) (EE L, D)) :
    ∀ (t : Nat) (wd : Int), 0 ≤ wd → wd + t = 3 → (∀ v, 0 ≤ v → v < wd → ¬ n < G.la v) → Sx 86 20 [vR 0, vI a, vI w, vI n, vI wd] [] (EE L, D) (0, 0) Q := by
  intro t
  induction t with
  | zero =>
    intro wd h0 ht hl
    refine go_86_20 ?_
    simp only [sg_86_20, cl_I, cl_L, cl_R, e_aload_n, e_cv2, e_cv5, e_get1, e_icmp_ge, e_icmp_le, e_iconst, e_iload, e_iload_n, e_iret0, e_nil, fl_0, fl_I, fl_L, fl_R, l_ld1, l_ld2, l_ld3, l_ld4, l_ldA0, rk_1, wRef_some, EE_n, EE_r0_3, EE_s0, EE_s6, lc_lt, lc_le, lc_gt, lc_ge, lc_eq, true_and, and_true, List.length_cons, List.length_nil, ab_ia, Nat.reduceAdd, Nat.reduceLeDiff, Nat.reduceEqDiff, Nat.reduceLT, Int.reduceLT, Int.reduceLE, Int.reduceEq, Int.reduceNeg, true_or, or_true, false_or, or_false, not_false_eq_true, not_true_eq_false, false_implies, true_implies, forall_const, implies_true, Nat.zero_le, Nat.le_refl]
    refine ⟨fun _ => ?_, fun hc => absurd hc (by omega)⟩
    refine go_86_38 ?_
    simp only [sg_86_38, cl_I, cl_L, cl_R, e_bipush, e_iret0, e_nil, lc_lt, lc_le, lc_gt, lc_ge, lc_eq, true_and, and_true, List.length_cons, List.length_nil, ab_ia, Nat.reduceAdd, Nat.reduceLeDiff, Nat.reduceEqDiff, Nat.reduceLT, Int.reduceLT, Int.reduceLE, Int.reduceEq, Int.reduceNeg, true_or, or_true, false_or, or_false, not_false_eq_true, not_true_eq_false, false_implies, true_implies, forall_const, implies_true, Nat.zero_le, Nat.le_refl]
    exact hq _ (Or.inl ⟨rfl, fun w' d' k' _ ho => hl w' ho.1.1.1 (by have := ho.1.1.2; omega) ho.2.1⟩)
  | succ t ih =>
    intro wd h0 ht hl
    refine go_86_20 ?_
    simp only [sg_86_20, cl_I, cl_L, cl_R, e_aload_n, e_cv2, e_cv5, e_get1, e_icmp_ge, e_icmp_le, e_iconst, e_iload, e_iload_n, e_iret0, e_nil, fl_0, fl_I, fl_L, fl_R, l_ld1, l_ld2, l_ld3, l_ld4, l_ldA0, rk_1, wRef_some, EE_n, EE_r0_3, EE_s0, EE_s6, lc_lt, lc_le, lc_gt, lc_ge, lc_eq, true_and, and_true, List.length_cons, List.length_nil, ab_ia, Nat.reduceAdd, Nat.reduceLeDiff, Nat.reduceEqDiff, Nat.reduceLT, Int.reduceLT, Int.reduceLE, Int.reduceEq, Int.reduceNeg, true_or, or_true, false_or, or_false, not_false_eq_true, not_true_eq_false, false_implies, true_implies, forall_const, implies_true, Nat.zero_le, Nat.le_refl]
    refine ⟨fun hc => absurd hc (by omega), fun _ => ?_⟩
    refine CI.use (g_lasts hg (by omega)) ?_
    try simp only [lc_lt, lc_le, lc_gt, lc_ge, lc_eq, true_and, and_true, List.length_cons, List.length_nil, ab_ia, Nat.reduceAdd, Nat.reduceLeDiff, Nat.reduceEqDiff, Nat.reduceLT, Int.reduceLT, Int.reduceLE, Int.reduceEq, Int.reduceNeg, true_or, or_true, false_or, or_false, not_false_eq_true, not_true_eq_false, false_implies, true_implies, forall_const, implies_true, Nat.zero_le, Nat.le_refl]
    refine ⟨fun h1 => ?_, fun h1 => ?_⟩
    · refine go_86_36 ?_
      simp only [sg_86_36, cl_I, cl_L, cl_R, e_goto, e_iinc, e_nil, l_inc4, lc_lt, lc_le, lc_gt, lc_ge, lc_eq, true_and, and_true, List.length_cons, List.length_nil, ab_ia, Nat.reduceAdd, Nat.reduceLeDiff, Nat.reduceEqDiff, Nat.reduceLT, Int.reduceLT, Int.reduceLE, Int.reduceEq, Int.reduceNeg, true_or, or_true, false_or, or_false, not_false_eq_true, not_true_eq_false, false_implies, true_implies, forall_const, implies_true, Nat.zero_le, Nat.le_refl]
      refine ⟨⟨by omega, by omega⟩, ih (wd + 1) (by omega) (by omega) (fun v v0 v1 => ?_)⟩
      by_cases q : v = wd
      · subst q; omega
      · exact hl v v0 (by omega)
    · refine (p_lb g hg ha hn (by omega) (by omega)).mono ?_
      rintro r D' ⟨hr, rfl⟩
      exact hq r (bbs_wood (by omega) (by omega) hl hr)
def bldA (G : Gr) (a w n r : Int) : Prop := (¬ isCl G.n a ∧ r = -1) ∨ (isCl G.n a ∧ ¬ ((1 ≤ w ∧ w ≤ 999) ∧ (1 ≤ n ∧ n ≤ 60)) ∧ r = -2) ∨ (isCl G.n a ∧ ((1 ≤ w ∧ w ≤ 999) ∧ (1 ≤ n ∧ n ≤ 60)) ∧ bbs (bok G a w n) (fun _ _ _ => True) r)
theorem bldA_uniq {a w n r r' : Int} (h : bldA G a w n r) (h' : bldA G a w n r') : r = r' := by
  rcases h with ⟨h1, h2⟩ | ⟨h1, h2, h3⟩ | ⟨h1, h2, h3⟩ <;> rcases h' with ⟨j1, j2⟩ | ⟨j1, j2, j3⟩ | ⟨j1, j2, j3⟩
  · omega
  · exact absurd j1 h1
  · exact absurd j1 h1
  · exact absurd h1 j1
  · omega
  · exact absurd j2 h2
  · exact absurd h1 j1
  · exact absurd h2 j2
  · exact bbs_uniq (fun _ _ _ _ => ⟨trivial, trivial⟩) h3 j3
theorem p_build {a w n : Int} (g : gOK G) (hg : gP D G) : CI 86 [vR 0, vI a, vI w, vI n] (EE L, D) (fun r D' => bldA G a w n r ∧ D' = D) := by
  have hn : D 7 0 = G.n := hg.1.1
  have g1 := g.1
  refine Sx.un (y := 86) (n := 0) (lo := [vR 0, vI a, vI w, vI n, vU]) (st := []) (u := (0, 0)) ?_
  refine go_86_0 ?_
  simp only [sg_86_0, cl_I, cl_L, cl_R, e_aload_n, e_cv2, e_get1, e_iconst, e_if_ne, e_iload_n, e_iret0, e_nil, fl_0, fl_I, fl_L, fl_R, l_ld1, l_ldA0, rk_1, wRef_some, EE_n, EE_r0_3, EE_s0, EE_s6, lc_lt, lc_le, lc_gt, lc_ge, lc_eq, true_and, and_true, List.length_cons, List.length_nil, ab_ia, Nat.reduceAdd, Nat.reduceLeDiff, Nat.reduceEqDiff, Nat.reduceLT, Int.reduceLT, Int.reduceLE, Int.reduceEq, Int.reduceNeg, true_or, or_true, false_or, or_false, not_false_eq_true, not_true_eq_false, false_implies, true_implies, forall_const, implies_true, Nat.zero_le, Nat.le_refl]
  refine CB.use (g_hasCell isG6) (fun h1 => ?_) (fun h1 => ?_)
  · try simp only [lc_lt, lc_le, lc_gt, lc_ge, lc_eq, true_and, and_true, List.length_cons, List.length_nil, ab_ia, Nat.reduceAdd, Nat.reduceLeDiff, Nat.reduceEqDiff, Nat.reduceLT, Int.reduceLT, Int.reduceLE, Int.reduceEq, Int.reduceNeg, true_or, or_true, false_or, or_false, not_false_eq_true, not_true_eq_false, false_implies, true_implies, forall_const, implies_true, Nat.zero_le, Nat.le_refl]
    have h1 : isCl (D 7 0) a := h1
    rw [hn] at h1
    have h6 := isCl_mono g1.2 h1
    refine go_86_7 ?_
    simp only [sg_86_7, cl_I, cl_L, cl_R, e_bipush, e_cs1, e_icmp_gt, e_icmp_lt, e_iconst, e_if_ne, e_iload_n, e_iret0, e_nil, e_sipush, fl_0, fl_I, fl_L, fl_R, l_ld2, l_ld3, rk_1, lc_lt, lc_le, lc_gt, lc_ge, lc_eq, true_and, and_true, List.length_cons, List.length_nil, ab_ia, Nat.reduceAdd, Nat.reduceLeDiff, Nat.reduceEqDiff, Nat.reduceLT, Int.reduceLT, Int.reduceLE, Int.reduceEq, Int.reduceNeg, true_or, or_true, false_or, or_false, not_false_eq_true, not_true_eq_false, false_implies, true_implies, forall_const, implies_true, Nat.zero_le, Nat.le_refl]
    refine ⟨fun h2 => ?_, fun h2 => ⟨fun h3 => ?_, fun h3 => ?_⟩⟩
    · refine go_86_16 ?_
      simp only [sg_86_16, cl_I, cl_L, cl_R, e_bipush, e_iret0, e_nil, lc_lt, lc_le, lc_gt, lc_ge, lc_eq, true_and, and_true, List.length_cons, List.length_nil, ab_ia, Nat.reduceAdd, Nat.reduceLeDiff, Nat.reduceEqDiff, Nat.reduceLT, Int.reduceLT, Int.reduceLE, Int.reduceEq, Int.reduceNeg, true_or, or_true, false_or, or_false, not_false_eq_true, not_true_eq_false, false_implies, true_implies, forall_const, implies_true, Nat.zero_le, Nat.le_refl]
      exact retI ⟨Or.inr (Or.inl ⟨h1, by omega, rfl⟩), rfl⟩
    · refine go_86_16 ?_
      simp only [sg_86_16, cl_I, cl_L, cl_R, e_bipush, e_iret0, e_nil, lc_lt, lc_le, lc_gt, lc_ge, lc_eq, true_and, and_true, List.length_cons, List.length_nil, ab_ia, Nat.reduceAdd, Nat.reduceLeDiff, Nat.reduceEqDiff, Nat.reduceLT, Int.reduceLT, Int.reduceLE, Int.reduceEq, Int.reduceNeg, true_or, or_true, false_or, or_false, not_false_eq_true, not_true_eq_false, false_implies, true_implies, forall_const, implies_true, Nat.zero_le, Nat.le_refl]
      exact retI ⟨Or.inr (Or.inl ⟨h1, by omega, rfl⟩), rfl⟩
    · refine CB.use p_areYears (fun h4 => ?_) (fun h4 => ?_)
      · try simp only [lc_lt, lc_le, lc_gt, lc_ge, lc_eq, true_and, and_true, List.length_cons, List.length_nil, ab_ia, Nat.reduceAdd, Nat.reduceLeDiff, Nat.reduceEqDiff, Nat.reduceLT, Int.reduceLT, Int.reduceLE, Int.reduceEq, Int.reduceNeg, true_or, or_true, false_or, or_false, not_false_eq_true, not_true_eq_false, false_implies, true_implies, forall_const, implies_true, Nat.zero_le, Nat.le_refl]
        refine go_86_18 ?_
        simp only [sg_86_18, cl_I, cl_L, cl_R, e_iconst, e_istore, e_nil, l_st4, lc_lt, lc_le, lc_gt, lc_ge, lc_eq, true_and, and_true, List.length_cons, List.length_nil, ab_ia, Nat.reduceAdd, Nat.reduceLeDiff, Nat.reduceEqDiff, Nat.reduceLT, Int.reduceLT, Int.reduceLE, Int.reduceEq, Int.reduceNeg, true_or, or_true, false_or, or_false, not_false_eq_true, not_true_eq_false, false_implies, true_implies, forall_const, implies_true, Nat.zero_le, Nat.le_refl]
        exact p_build_loop g hg h6 h4 (fun b hb => retI ⟨Or.inr (Or.inr ⟨h1, by omega, hb⟩), rfl⟩) 3 0 (by omega) (by omega) (fun v v0 v1 => absurd v1 (by omega))
      · try simp only [lc_lt, lc_le, lc_gt, lc_ge, lc_eq, true_and, and_true, List.length_cons, List.length_nil, ab_ia, Nat.reduceAdd, Nat.reduceLeDiff, Nat.reduceEqDiff, Nat.reduceLT, Int.reduceLT, Int.reduceLE, Int.reduceEq, Int.reduceNeg, true_or, or_true, false_or, or_false, not_false_eq_true, not_true_eq_false, false_implies, true_implies, forall_const, implies_true, Nat.zero_le, Nat.le_refl]
        exact retI ⟨Or.inr (Or.inl ⟨h1, by omega, rfl⟩), rfl⟩
  · try simp only [lc_lt, lc_le, lc_gt, lc_ge, lc_eq, true_and, and_true, List.length_cons, List.length_nil, ab_ia, Nat.reduceAdd, Nat.reduceLeDiff, Nat.reduceEqDiff, Nat.reduceLT, Int.reduceLT, Int.reduceLE, Int.reduceEq, Int.reduceNeg, true_or, or_true, false_or, or_false, not_false_eq_true, not_true_eq_false, false_implies, true_implies, forall_const, implies_true, Nat.zero_le, Nat.le_refl]
    have h1 : ¬ isCl (D 7 0) a := h1
    rw [hn] at h1
    exact retI ⟨Or.inl ⟨h1, rfl⟩, rfl⟩
theorem m_stands_loop {Q : Option ab_V → ab_H → Prop} {a wd d k w n : Int} (g : gOK G) (hg : gM D G) (ha : isCl 6 a) (hwd : 0 ≤ wd ∧ wd < 3) (hk : k = 0 ∨ k = 1) (hn : 1 ≤ n ∧ n ≤ 60) :
    ∀ (t : Nat) (j e : Int), 0 ≤ j → j + t = n → (1 ≤ e ∧ e ≤ 15) → (j < G.la wd ∨ j = 0) → ((n < G.la wd ∧ stb G a k w t e) → Q (some (.inl 1)) (EE L, D)) → (¬ (n < G.la wd ∧ stb G a k w t e) → Q (some (.inl 0)) (EE L, D)) → Sx 161 4 [vR 69, vI a, vI wd, vI d, vI k, vI w, vI n, vI e, vI j] [] (EE L, D) (0, 0) Q := by
  have p4 := hg.1.2.2.2.2
  have hla := hg.2.1 wd hwd
  intro t
  induction t with
  | zero =>
    intro j e h0 ht he hj q1 q0
    refine go_161_4 ?_
    simp only [sg_161_4, cl_I, cl_L, cl_R, e_aload_n, e_cv4, e_get1, e_goto, e_iaload, e_icmp_ge, e_iconst, e_iload, e_iload_n, e_nil, fl_0, fl_I, fl_L, fl_R, l_ld1, l_ld4, l_ld6, l_ld7, l_ld8, l_ldA0, rk_1, wRef_some, EE_n, EE_r69_1, EE_s69, EE_s71, Int.reduceToNat, lc_lt, lc_le, lc_gt, lc_ge, lc_eq, true_and, and_true, List.length_cons, List.length_nil, ab_ia, Nat.reduceAdd, Nat.reduceLeDiff, Nat.reduceEqDiff, Nat.reduceLT, Int.reduceLT, Int.reduceLE, Int.reduceEq, Int.reduceNeg, true_or, or_true, false_or, or_false, not_false_eq_true, not_true_eq_false, false_implies, true_implies, forall_const, implies_true, Nat.zero_le, Nat.le_refl]
    refine ⟨fun _ => ?_, fun hc => absurd hc (by omega)⟩
    refine go_161_46 ?_
    simp only [sg_161_46, cl_I, cl_L, cl_R, e_iconst, e_iret1, e_nil, lc_lt, lc_le, lc_gt, lc_ge, lc_eq, true_and, and_true, List.length_cons, List.length_nil, ab_ia, Nat.reduceAdd, Nat.reduceLeDiff, Nat.reduceEqDiff, Nat.reduceLT, Int.reduceLT, Int.reduceLE, Int.reduceEq, Int.reduceNeg, true_or, or_true, false_or, or_false, not_false_eq_true, not_true_eq_false, false_implies, true_implies, forall_const, implies_true, Nat.zero_le, Nat.le_refl]
    exact q1 ⟨by omega, trivial⟩
  | succ t ih =>
    intro j e h0 ht he hj q1 q0
    have hb := bi_bd (G := G) (a := a) (d := e) (k := k)
    refine go_161_4 ?_
    simp only [sg_161_4, cl_I, cl_L, cl_R, e_aload_n, e_cv4, e_get1, e_goto, e_iaload, e_icmp_ge, e_iconst, e_iload, e_iload_n, e_nil, fl_0, fl_I, fl_L, fl_R, l_ld1, l_ld4, l_ld6, l_ld7, l_ld8, l_ldA0, rk_1, wRef_some, EE_n, EE_r69_1, EE_s69, EE_s71, Int.reduceToNat, lc_lt, lc_le, lc_gt, lc_ge, lc_eq, true_and, and_true, List.length_cons, List.length_nil, ab_ia, Nat.reduceAdd, Nat.reduceLeDiff, Nat.reduceEqDiff, Nat.reduceLT, Int.reduceLT, Int.reduceLE, Int.reduceEq, Int.reduceNeg, true_or, or_true, false_or, or_false, not_false_eq_true, not_true_eq_false, false_implies, true_implies, forall_const, implies_true, Nat.zero_le, Nat.le_refl]
    refine ⟨fun hc => absurd hc (by omega), fun _ => ?_⟩
    refine CI.use (m_holdsOf g hg ha (by omega) hk) ?_
    try simp only [EE_n, EE_s71, Int.reduceToNat, p4, lc_lt, lc_le, lc_gt, lc_ge, lc_eq, true_and, and_true, List.length_cons, List.length_nil, ab_ia, Nat.reduceAdd, Nat.reduceLeDiff, Nat.reduceEqDiff, Nat.reduceLT, Int.reduceLT, Int.reduceLE, Int.reduceEq, Int.reduceNeg, true_or, or_true, false_or, or_false, not_false_eq_true, not_true_eq_false, false_implies, true_implies, forall_const, implies_true, Nat.zero_le, Nat.le_refl]
    have fin : ∀ x : Int, e - x = bi G a e k → Sx 161 21 [vR 69, vI a, vI wd, vI d, vI k, vI w, vI n, vI e, vI j] [vI x, vI e] (EE L, D) (0, 0) Q := by
      intro x hx
      refine go_161_21 ?_
      simp only [sg_161_21, cl_I, cl_L, cl_R, e_aload_n, e_cv4, e_get1, e_iadd, e_iaload, e_icmp_gt, e_icmp_lt, e_iconst, e_if_eq, e_iload, e_iload_n, e_iret1, e_istore, e_isub, e_nil, fl_0, fl_I, fl_L, fl_R, l_ld1, l_ld2, l_ld4, l_ld5, l_ld7, l_ld8, l_ldA0, l_st7, rk_1, wRef_some, EE_n, EE_r69_1, EE_s69, EE_s71, Int.reduceToNat, hx, lc_lt, lc_le, lc_gt, lc_ge, lc_eq, true_and, and_true, List.length_cons, List.length_nil, ab_ia, Nat.reduceAdd, Nat.reduceLeDiff, Nat.reduceEqDiff, Nat.reduceLT, Int.reduceLT, Int.reduceLE, Int.reduceEq, Int.reduceNeg, true_or, or_true, false_or, or_false, not_false_eq_true, not_true_eq_false, false_implies, true_implies, forall_const, implies_true, Nat.zero_le, Nat.le_refl]
      refine ⟨⟨by omega, by omega⟩, fun h1 => ?_, fun h1 => ?_⟩
      · refine go_161_42 ?_
        simp only [sg_161_42, cl_I, cl_L, cl_R, e_iconst, e_iret1, e_nil, lc_lt, lc_le, lc_gt, lc_ge, lc_eq, true_and, and_true, List.length_cons, List.length_nil, ab_ia, Nat.reduceAdd, Nat.reduceLeDiff, Nat.reduceEqDiff, Nat.reduceLT, Int.reduceLT, Int.reduceLE, Int.reduceEq, Int.reduceNeg, true_or, or_true, false_or, or_false, not_false_eq_true, not_true_eq_false, false_implies, true_implies, forall_const, implies_true, Nat.zero_le, Nat.le_refl]
        exact q0 (fun q => absurd q.2.1 (by omega))
      · refine CI.use (m_holdsOf g hg ha (by omega) hk) ?_
        try simp only [EE_n, EE_s71, Int.reduceToNat, hla, lc_lt, lc_le, lc_gt, lc_ge, lc_eq, true_and, and_true, List.length_cons, List.length_nil, ab_ia, Nat.reduceAdd, Nat.reduceLeDiff, Nat.reduceEqDiff, Nat.reduceLT, Int.reduceLT, Int.reduceLE, Int.reduceEq, Int.reduceNeg, true_or, or_true, false_or, or_false, not_false_eq_true, not_true_eq_false, false_implies, true_implies, forall_const, implies_true, Nat.zero_le, Nat.le_refl]
        refine ⟨fun h2 => ?_, fun h2 => ⟨⟨by omega, by omega⟩, ⟨by omega, by omega⟩, by omega, fun h3 => ?_, fun h3 => ?_⟩⟩
        · refine go_161_42 ?_
          simp only [sg_161_42, cl_I, cl_L, cl_R, e_iconst, e_iret1, e_nil, lc_lt, lc_le, lc_gt, lc_ge, lc_eq, true_and, and_true, List.length_cons, List.length_nil, ab_ia, Nat.reduceAdd, Nat.reduceLeDiff, Nat.reduceEqDiff, Nat.reduceLT, Int.reduceLT, Int.reduceLE, Int.reduceEq, Int.reduceNeg, true_or, or_true, false_or, or_false, not_false_eq_true, not_true_eq_false, false_implies, true_implies, forall_const, implies_true, Nat.zero_le, Nat.le_refl]
          exact q0 (fun q => absurd q.2.2.1 (by omega))
        · refine go_161_44 ?_
          simp only [sg_161_44, cl_I, cl_L, cl_R, e_goto, e_iinc, e_nil, l_inc8, lc_lt, lc_le, lc_gt, lc_ge, lc_eq, true_and, and_true, List.length_cons, List.length_nil, ab_ia, Nat.reduceAdd, Nat.reduceLeDiff, Nat.reduceEqDiff, Nat.reduceLT, Int.reduceLT, Int.reduceLE, Int.reduceEq, Int.reduceNeg, true_or, or_true, false_or, or_false, not_false_eq_true, not_true_eq_false, false_implies, true_implies, forall_const, implies_true, Nat.zero_le, Nat.le_refl]
          exact ⟨⟨by omega, by omega⟩, ih (j + 1) _ (by omega) (by omega) (by omega) (by omega) (fun q => q1 ⟨q.1, by omega, by omega, q.2⟩) (fun q => q0 (fun q2 => q ⟨q2.1, q2.2.2.2⟩))⟩
        · exact q0 (fun q => absurd q.1 (by omega))
    refine ⟨by omega, fun h1 => ?_, fun h1 => ?_⟩
    · have hx : e - 0 = bi G a e k := by unfold bi; rw [if_neg (by omega)]; omega
      refine go_161_20 ?_
      simp only [sg_161_20, cl_I, cl_L, cl_R, e_aload_n, e_cv4, e_get1, e_iadd, e_iaload, e_icmp_gt, e_icmp_lt, e_iconst, e_if_eq, e_iload, e_iload_n, e_iret1, e_istore, e_isub, e_nil, fl_0, fl_I, fl_L, fl_R, l_ld1, l_ld2, l_ld4, l_ld5, l_ld7, l_ld8, l_ldA0, l_st7, rk_1, wRef_some, EE_n, EE_r69_1, EE_s69, EE_s71, Int.reduceToNat, hx, lc_lt, lc_le, lc_gt, lc_ge, lc_eq, true_and, and_true, List.length_cons, List.length_nil, ab_ia, Nat.reduceAdd, Nat.reduceLeDiff, Nat.reduceEqDiff, Nat.reduceLT, Int.reduceLT, Int.reduceLE, Int.reduceEq, Int.reduceNeg, true_or, or_true, false_or, or_false, not_false_eq_true, not_true_eq_false, false_implies, true_implies, forall_const, implies_true, Nat.zero_le, Nat.le_refl]
      refine ⟨⟨by omega, by omega⟩, fun h1 => ?_, fun h1 => ?_⟩
      · refine go_161_42 ?_
        simp only [sg_161_42, cl_I, cl_L, cl_R, e_iconst, e_iret1, e_nil, lc_lt, lc_le, lc_gt, lc_ge, lc_eq, true_and, and_true, List.length_cons, List.length_nil, ab_ia, Nat.reduceAdd, Nat.reduceLeDiff, Nat.reduceEqDiff, Nat.reduceLT, Int.reduceLT, Int.reduceLE, Int.reduceEq, Int.reduceNeg, true_or, or_true, false_or, or_false, not_false_eq_true, not_true_eq_false, false_implies, true_implies, forall_const, implies_true, Nat.zero_le, Nat.le_refl]
        exact q0 (fun q => absurd q.2.1 (by omega))
      · refine CI.use (m_holdsOf g hg ha (by omega) hk) ?_
        try simp only [EE_n, EE_s71, Int.reduceToNat, hla, lc_lt, lc_le, lc_gt, lc_ge, lc_eq, true_and, and_true, List.length_cons, List.length_nil, ab_ia, Nat.reduceAdd, Nat.reduceLeDiff, Nat.reduceEqDiff, Nat.reduceLT, Int.reduceLT, Int.reduceLE, Int.reduceEq, Int.reduceNeg, true_or, or_true, false_or, or_false, not_false_eq_true, not_true_eq_false, false_implies, true_implies, forall_const, implies_true, Nat.zero_le, Nat.le_refl]
        refine ⟨fun h2 => ?_, fun h2 => ⟨⟨by omega, by omega⟩, ⟨by omega, by omega⟩, by omega, fun h3 => ?_, fun h3 => ?_⟩⟩
        · refine go_161_42 ?_
          simp only [sg_161_42, cl_I, cl_L, cl_R, e_iconst, e_iret1, e_nil, lc_lt, lc_le, lc_gt, lc_ge, lc_eq, true_and, and_true, List.length_cons, List.length_nil, ab_ia, Nat.reduceAdd, Nat.reduceLeDiff, Nat.reduceEqDiff, Nat.reduceLT, Int.reduceLT, Int.reduceLE, Int.reduceEq, Int.reduceNeg, true_or, or_true, false_or, or_false, not_false_eq_true, not_true_eq_false, false_implies, true_implies, forall_const, implies_true, Nat.zero_le, Nat.le_refl]
          exact q0 (fun q => absurd q.2.2.1 (by omega))
        · refine go_161_44 ?_
          simp only [sg_161_44, cl_I, cl_L, cl_R, e_goto, e_iinc, e_nil, l_inc8, lc_lt, lc_le, lc_gt, lc_ge, lc_eq, true_and, and_true, List.length_cons, List.length_nil, ab_ia, Nat.reduceAdd, Nat.reduceLeDiff, Nat.reduceEqDiff, Nat.reduceLT, Int.reduceLT, Int.reduceLE, Int.reduceEq, Int.reduceNeg, true_or, or_true, false_or, or_false, not_false_eq_true, not_true_eq_false, false_implies, true_implies, forall_const, implies_true, Nat.zero_le, Nat.le_refl]
          exact ⟨⟨by omega, by omega⟩, ih (j + 1) _ (by omega) (by omega) (by omega) (by omega) (fun q => q1 ⟨q.1, by omega, by omega, q.2⟩) (fun q => q0 (fun q2 => q ⟨q2.1, q2.2.2.2⟩))⟩
        · exact q0 (fun q => absurd q.1 (by omega))
    · exact fin 1 (by unfold bi; rw [if_pos (by omega)])
theorem m_stands {a wd d k w n : Int} (g : gOK G) (hg : gM D G) (ha : isCl 6 a) (hwd : 0 ≤ wd ∧ wd < 3) (hd : 1 ≤ d ∧ d ≤ 15) (hk : k = 0 ∨ k = 1) (hn : 1 ≤ n ∧ n ≤ 60) : CB 161 [vR 69, vI a, vI wd, vI d, vI k, vI w, vI n] (EE L) D (bok G a w n wd d k) := by
  refine Sx.un (y := 161) (n := 0) (lo := [vR 69, vI a, vI wd, vI d, vI k, vI w, vI n, vU, vU]) (st := []) (u := (0, 0)) ?_
  refine go_161_0 ?_
  simp only [sg_161_0, cl_I, cl_L, cl_R, e_iconst, e_iload_n, e_istore, e_nil, l_ld3, l_st7, l_st8, lc_lt, lc_le, lc_gt, lc_ge, lc_eq, true_and, and_true, List.length_cons, List.length_nil, ab_ia, Nat.reduceAdd, Nat.reduceLeDiff, Nat.reduceEqDiff, Nat.reduceLT, Int.reduceLT, Int.reduceLE, Int.reduceEq, Int.reduceNeg, true_or, or_true, false_or, or_false, not_false_eq_true, not_true_eq_false, false_implies, true_implies, forall_const, implies_true, Nat.zero_le, Nat.le_refl]
  exact m_stands_loop g hg ha hwd hk hn n.toNat 0 d (by omega) (by omega) hd (Or.inr rfl) (fun q => retB1 ⟨⟨hwd, hd, hk⟩, q⟩) (fun q => retB0 (fun q2 => q q2.2))
theorem m_b_in {Q : Option ab_V → ab_H → Prop} {a w n wd d : Int} (g : gOK G) (hg : gM D G) (ha : isCl 6 a) (hn : 1 ≤ n ∧ n ≤ 60) (hwd : 0 ≤ wd ∧ wd < 3) (hd : 1 ≤ d ∧ d ≤ 15)
    (hq : ∀ (b : Int) (x7 x8 : ab_V), bbs (bok G a w n) (cA wd (d + 1) 0) b → Sx 162 26 [vR 69, vI a, vI w, vI n, vI b, vI wd, vI (d + 1), x7, x8] [] (EE L, D) (0, 0) Q) :
    ∀ (t : Nat) (k b : Int) (x8 : ab_V), 0 ≤ k → k + t = 2 → bbs (bok G a w n) (cA wd d k) b → Sx 162 31 [vR 69, vI a, vI w, vI n, vI b, vI wd, vI d, vI k, x8] [] (EE L, D) (0, 0) Q := by
  intro t
  induction t with
  | zero =>
    intro k b x8 h0 ht hi
    refine go_162_31 ?_
    simp only [sg_162_31, cl_I, cl_L, cl_R, e_aload_n, e_bipush, e_cv7, e_goto, e_iadd, e_icmp_eq, e_icmp_ge, e_iconst, e_if_eq, e_iload, e_iload_n, e_imul, e_istore, e_nil, e_sipush, fl_0, fl_I, fl_L, fl_R, l_ld1, l_ld2, l_ld3, l_ld4, l_ld5, l_ld6, l_ld7, l_ld8, l_ldA0, l_st8, rk_1, EE_n, EE_s69, lc_lt, lc_le, lc_gt, lc_ge, lc_eq, true_and, and_true, List.length_cons, List.length_nil, ab_ia, Nat.reduceAdd, Nat.reduceLeDiff, Nat.reduceEqDiff, Nat.reduceLT, Int.reduceLT, Int.reduceLE, Int.reduceEq, Int.reduceNeg, true_or, or_true, false_or, or_false, not_false_eq_true, not_true_eq_false, false_implies, true_implies, forall_const, implies_true, Nat.zero_le, Nat.le_refl]
    refine ⟨fun _ => ?_, fun hc => absurd hc (by omega)⟩
    refine go_162_77 ?_
    simp only [sg_162_77, cl_I, cl_L, cl_R, e_goto, e_iinc, e_nil, l_inc6, lc_lt, lc_le, lc_gt, lc_ge, lc_eq, true_and, and_true, List.length_cons, List.length_nil, ab_ia, Nat.reduceAdd, Nat.reduceLeDiff, Nat.reduceEqDiff, Nat.reduceLT, Int.reduceLT, Int.reduceLE, Int.reduceEq, Int.reduceNeg, true_or, or_true, false_or, or_false, not_false_eq_true, not_true_eq_false, false_implies, true_implies, forall_const, implies_true, Nat.zero_le, Nat.le_refl]
    refine ⟨⟨by omega, by omega⟩, hq _ _ _ (bbs_same hi (fun w' d' k' ho => ?_))⟩
    have := ho.1
    unfold cA
    omega
  | succ t ih =>
    intro k b x8 h0 ht hi
    have stepC : ∀ w' d' k', cA wd d (k + 1) w' d' k' → bok G a w n w' d' k' → cA wd d k w' d' k' ∨ (w' = wd ∧ d' = d ∧ k' = k) := by
      intro w' d' k' hc _
      unfold cA at *
      omega
    have hkk : k = 0 ∨ k = 1 := by omega
    have bpos : b ≠ -9 → 0 < b := by
      intro q
      rcases hi with ⟨h1, h2⟩ | ⟨w1, d1, k1, ⟨h1, h1'⟩, h2, h3, h4⟩
      · exact absurd h1 q
      · exact h1
    have skip : (bok G a w n wd d k → b ≠ -9 ∧ b ≤ bvl wd d k) → ∀ x8 : ab_V, Sx 162 73 [vR 69, vI a, vI w, vI n, vI b, vI wd, vI d, vI k, x8] [] (EE L, D) (0, 0) Q := by
      intro hs x8
      refine go_162_73 ?_
      simp only [sg_162_73, cl_I, cl_L, cl_R, e_goto, e_iinc, e_iload, e_istore, e_nil, l_inc7, l_ld4, l_st4, lc_lt, lc_le, lc_gt, lc_ge, lc_eq, true_and, and_true, List.length_cons, List.length_nil, ab_ia, Nat.reduceAdd, Nat.reduceLeDiff, Nat.reduceEqDiff, Nat.reduceLT, Int.reduceLT, Int.reduceLE, Int.reduceEq, Int.reduceNeg, true_or, or_true, false_or, or_false, not_false_eq_true, not_true_eq_false, false_implies, true_implies, forall_const, implies_true, Nat.zero_le, Nat.le_refl]
      refine ⟨⟨by omega, by omega⟩, ih (k + 1) _ _ (by omega) (by omega) (bbs_skip hi (fun w' d' k' q => ?_) stepC hs)⟩
      unfold cA at *
      omega
    have tak : bok G a w n wd d k → (b = -9 ∨ bvl wd d k < b) → ∀ x8 : ab_V, Sx 162 74 [vR 69, vI a, vI w, vI n, vI b, vI wd, vI d, vI k, x8] [vI (1000 * (d + 3 * k + 2 * wd) + 100 * wd + 2 * d + k)] (EE L, D) (0, 0) Q := by
      intro ho hb x8
      refine go_162_74 ?_
      simp only [sg_162_74, cl_I, cl_L, cl_R, e_goto, e_iinc, e_istore, e_nil, l_inc7, l_st4, lc_lt, lc_le, lc_gt, lc_ge, lc_eq, true_and, and_true, List.length_cons, List.length_nil, ab_ia, Nat.reduceAdd, Nat.reduceLeDiff, Nat.reduceEqDiff, Nat.reduceLT, Int.reduceLT, Int.reduceLE, Int.reduceEq, Int.reduceNeg, true_or, or_true, false_or, or_false, not_false_eq_true, not_true_eq_false, false_implies, true_implies, forall_const, implies_true, Nat.zero_le, Nat.le_refl]
      refine ⟨⟨by omega, by omega⟩, ih (k + 1) _ _ (by omega) (by omega) (bbs_take (w := wd) (d := d) (k := k) hi (by unfold cA; omega) stepC ho (by unfold bvl; omega) (by omega))⟩
    have go : (b = -9 ∨ bvl wd d k < b) → Sx 162 62 [vR 69, vI a, vI w, vI n, vI b, vI wd, vI d, vI k, vI (1000 * (d + 3 * k + 2 * wd) + 100 * wd + 2 * d + k)] [] (EE L, D) (0, 0) Q := by
      intro hb
      refine go_162_62 ?_
      simp only [sg_162_62, cl_I, cl_L, cl_R, e_aload_n, e_cv7, e_goto, e_if_eq, e_iload, e_iload_n, e_nil, fl_0, fl_I, fl_L, fl_R, l_ld1, l_ld2, l_ld3, l_ld5, l_ld6, l_ld7, l_ld8, l_ldA0, rk_1, EE_n, EE_s69, lc_lt, lc_le, lc_gt, lc_ge, lc_eq, true_and, and_true, List.length_cons, List.length_nil, ab_ia, Nat.reduceAdd, Nat.reduceLeDiff, Nat.reduceEqDiff, Nat.reduceLT, Int.reduceLT, Int.reduceLE, Int.reduceEq, Int.reduceNeg, true_or, or_true, false_or, or_false, not_false_eq_true, not_true_eq_false, false_implies, true_implies, forall_const, implies_true, Nat.zero_le, Nat.le_refl]
      refine CB.use (m_stands g hg ha hwd hd hkk hn) (fun h1 => ?_) (fun h1 => ?_)
      · try simp only [lc_lt, lc_le, lc_gt, lc_ge, lc_eq, true_and, and_true, List.length_cons, List.length_nil, ab_ia, Nat.reduceAdd, Nat.reduceLeDiff, Nat.reduceEqDiff, Nat.reduceLT, Int.reduceLT, Int.reduceLE, Int.reduceEq, Int.reduceNeg, true_or, or_true, false_or, or_false, not_false_eq_true, not_true_eq_false, false_implies, true_implies, forall_const, implies_true, Nat.zero_le, Nat.le_refl]
        exact tak h1 hb _
      · try simp only [lc_lt, lc_le, lc_gt, lc_ge, lc_eq, true_and, and_true, List.length_cons, List.length_nil, ab_ia, Nat.reduceAdd, Nat.reduceLeDiff, Nat.reduceEqDiff, Nat.reduceLT, Int.reduceLT, Int.reduceLE, Int.reduceEq, Int.reduceNeg, true_or, or_true, false_or, or_false, not_false_eq_true, not_true_eq_false, false_implies, true_implies, forall_const, implies_true, Nat.zero_le, Nat.le_refl]
        exact skip (fun ho => absurd ho h1) _
    refine go_162_31 ?_
    simp only [sg_162_31, cl_I, cl_L, cl_R, e_aload_n, e_bipush, e_cv7, e_goto, e_iadd, e_icmp_eq, e_icmp_ge, e_iconst, e_if_eq, e_iload, e_iload_n, e_imul, e_istore, e_nil, e_sipush, fl_0, fl_I, fl_L, fl_R, l_ld1, l_ld2, l_ld3, l_ld4, l_ld5, l_ld6, l_ld7, l_ld8, l_ldA0, l_st8, rk_1, EE_n, EE_s69, lc_lt, lc_le, lc_gt, lc_ge, lc_eq, true_and, and_true, List.length_cons, List.length_nil, ab_ia, Nat.reduceAdd, Nat.reduceLeDiff, Nat.reduceEqDiff, Nat.reduceLT, Int.reduceLT, Int.reduceLE, Int.reduceEq, Int.reduceNeg, true_or, or_true, false_or, or_false, not_false_eq_true, not_true_eq_false, false_implies, true_implies, forall_const, implies_true, Nat.zero_le, Nat.le_refl]
    refine ⟨fun hc => absurd hc (by omega), fun _ => ⟨⟨by omega, by omega⟩, ⟨by omega, by omega⟩, ⟨by omega, by omega⟩, ⟨by omega, by omega⟩, ⟨by omega, by omega⟩, ⟨by omega, by omega⟩, ⟨by omega, by omega⟩, ⟨by omega, by omega⟩, ⟨by omega, by omega⟩, ⟨by omega, by omega⟩, fun h1 => ?_, fun h1 => ⟨fun h2 => ?_, fun h2 => ?_⟩⟩⟩
    · exact go (Or.inl h1)
    · exact skip (fun ho => ⟨h1, h2⟩) _
    · have hb : b = -9 ∨ bvl wd d k < b := Or.inr (by unfold bvl; omega)
      refine CB.use (m_stands g hg ha hwd hd hkk hn) (fun h1 => ?_) (fun h1 => ?_)
      · try simp only [lc_lt, lc_le, lc_gt, lc_ge, lc_eq, true_and, and_true, List.length_cons, List.length_nil, ab_ia, Nat.reduceAdd, Nat.reduceLeDiff, Nat.reduceEqDiff, Nat.reduceLT, Int.reduceLT, Int.reduceLE, Int.reduceEq, Int.reduceNeg, true_or, or_true, false_or, or_false, not_false_eq_true, not_true_eq_false, false_implies, true_implies, forall_const, implies_true, Nat.zero_le, Nat.le_refl]
        exact tak h1 hb _
      · try simp only [lc_lt, lc_le, lc_gt, lc_ge, lc_eq, true_and, and_true, List.length_cons, List.length_nil, ab_ia, Nat.reduceAdd, Nat.reduceLeDiff, Nat.reduceEqDiff, Nat.reduceLT, Int.reduceLT, Int.reduceLE, Int.reduceEq, Int.reduceNeg, true_or, or_true, false_or, or_false, not_false_eq_true, not_true_eq_false, false_implies, true_implies, forall_const, implies_true, Nat.zero_le, Nat.le_refl]
        exact skip (fun ho => absurd ho h1) _
theorem m_b_mid {Q : Option ab_V → ab_H → Prop} {a w n wd : Int} (g : gOK G) (hg : gM D G) (ha : isCl 6 a) (hn : 1 ≤ n ∧ n ≤ 60) (hwd : 0 ≤ wd ∧ wd < 3)
    (hq : ∀ (b : Int) (x6 x7 x8 : ab_V), bbs (bok G a w n) (cA (wd + 1) 0 0) b → Sx 162 21 [vR 69, vI a, vI w, vI n, vI b, vI (wd + 1), x6, x7, x8] [] (EE L, D) (0, 0) Q) :
    ∀ (t : Nat) (d b : Int) (x7 x8 : ab_V), 1 ≤ d → d + t = 16 → bbs (bok G a w n) (cA wd d 0) b → Sx 162 26 [vR 69, vI a, vI w, vI n, vI b, vI wd, vI d, x7, x8] [] (EE L, D) (0, 0) Q := by
  intro t
  induction t with
  | zero =>
    intro d b x7 x8 h0 ht hi
    refine go_162_26 ?_
    simp only [sg_162_26, cl_I, cl_L, cl_R, e_bipush, e_icmp_ge, e_iconst, e_iload, e_istore, e_nil, l_ld6, l_st7, lc_lt, lc_le, lc_gt, lc_ge, lc_eq, true_and, and_true, List.length_cons, List.length_nil, ab_ia, Nat.reduceAdd, Nat.reduceLeDiff, Nat.reduceEqDiff, Nat.reduceLT, Int.reduceLT, Int.reduceLE, Int.reduceEq, Int.reduceNeg, true_or, or_true, false_or, or_false, not_false_eq_true, not_true_eq_false, false_implies, true_implies, forall_const, implies_true, Nat.zero_le, Nat.le_refl]
    refine ⟨fun _ => ?_, fun hc => absurd hc (by omega)⟩
    refine go_162_79 ?_
    simp only [sg_162_79, cl_I, cl_L, cl_R, e_goto, e_iinc, e_nil, l_inc5, lc_lt, lc_le, lc_gt, lc_ge, lc_eq, true_and, and_true, List.length_cons, List.length_nil, ab_ia, Nat.reduceAdd, Nat.reduceLeDiff, Nat.reduceEqDiff, Nat.reduceLT, Int.reduceLT, Int.reduceLE, Int.reduceEq, Int.reduceNeg, true_or, or_true, false_or, or_false, not_false_eq_true, not_true_eq_false, false_implies, true_implies, forall_const, implies_true, Nat.zero_le, Nat.le_refl]
    refine ⟨⟨by omega, by omega⟩, hq _ _ _ _ (bbs_same hi (fun w' d' k' ho => ?_))⟩
    have := ho.1
    unfold cA
    omega
  | succ t ih =>
    intro d b x7 x8 h0 ht hi
    refine go_162_26 ?_
    simp only [sg_162_26, cl_I, cl_L, cl_R, e_bipush, e_icmp_ge, e_iconst, e_iload, e_istore, e_nil, l_ld6, l_st7, lc_lt, lc_le, lc_gt, lc_ge, lc_eq, true_and, and_true, List.length_cons, List.length_nil, ab_ia, Nat.reduceAdd, Nat.reduceLeDiff, Nat.reduceEqDiff, Nat.reduceLT, Int.reduceLT, Int.reduceLE, Int.reduceEq, Int.reduceNeg, true_or, or_true, false_or, or_false, not_false_eq_true, not_true_eq_false, false_implies, true_implies, forall_const, implies_true, Nat.zero_le, Nat.le_refl]
    refine ⟨fun hc => absurd hc (by omega), fun _ => ?_⟩
    exact m_b_in g hg ha hn hwd (by omega) (fun b x7 x8 q1 => ih (d + 1) _ _ _ (by omega) (by omega) q1) 2 0 b x8 (by omega) (by omega) hi
theorem m_b_out {Q : Option ab_V → ab_H → Prop} {a w n : Int} (g : gOK G) (hg : gM D G) (ha : isCl 6 a) (hn : 1 ≤ n ∧ n ≤ 60)
    (hq : ∀ b : Int, bbs (bok G a w n) (fun _ _ _ => True) b → Q (some (.inl b)) (EE L, D)) :
    ∀ (t : Nat) (wd b : Int) (x6 x7 x8 : ab_V), 0 ≤ wd → wd + t = 3 → bbs (bok G a w n) (cA wd 0 0) b → Sx 162 21 [vR 69, vI a, vI w, vI n, vI b, vI wd, x6, x7, x8] [] (EE L, D) (0, 0) Q := by
  intro t
  induction t with
  | zero =>
    intro wd b x6 x7 x8 h0 ht hi
    refine go_162_21 ?_
    simp only [sg_162_21, cl_I, cl_L, cl_R, e_icmp_ge, e_iconst, e_iload, e_istore, e_nil, l_ld5, l_st6, lc_lt, lc_le, lc_gt, lc_ge, lc_eq, true_and, and_true, List.length_cons, List.length_nil, ab_ia, Nat.reduceAdd, Nat.reduceLeDiff, Nat.reduceEqDiff, Nat.reduceLT, Int.reduceLT, Int.reduceLE, Int.reduceEq, Int.reduceNeg, true_or, or_true, false_or, or_false, not_false_eq_true, not_true_eq_false, false_implies, true_implies, forall_const, implies_true, Nat.zero_le, Nat.le_refl]
    refine ⟨fun _ => ?_, fun hc => absurd hc (by omega)⟩
    refine go_162_81 ?_
    simp only [sg_162_81, cl_I, cl_L, cl_R, e_iload, e_iret0, e_nil, l_ld4, lc_lt, lc_le, lc_gt, lc_ge, lc_eq, true_and, and_true, List.length_cons, List.length_nil, ab_ia, Nat.reduceAdd, Nat.reduceLeDiff, Nat.reduceEqDiff, Nat.reduceLT, Int.reduceLT, Int.reduceLE, Int.reduceEq, Int.reduceNeg, true_or, or_true, false_or, or_false, not_false_eq_true, not_true_eq_false, false_implies, true_implies, forall_const, implies_true, Nat.zero_le, Nat.le_refl]
    refine hq _ (bbs_same hi (fun w' d' k' ho => ?_))
    have := ho.1
    unfold cA
    simp only [iff_true]
    omega
  | succ t ih =>
    intro wd b x6 x7 x8 h0 ht hi
    refine go_162_21 ?_
    simp only [sg_162_21, cl_I, cl_L, cl_R, e_icmp_ge, e_iconst, e_iload, e_istore, e_nil, l_ld5, l_st6, lc_lt, lc_le, lc_gt, lc_ge, lc_eq, true_and, and_true, List.length_cons, List.length_nil, ab_ia, Nat.reduceAdd, Nat.reduceLeDiff, Nat.reduceEqDiff, Nat.reduceLT, Int.reduceLT, Int.reduceLE, Int.reduceEq, Int.reduceNeg, true_or, or_true, false_or, or_false, not_false_eq_true, not_true_eq_false, false_implies, true_implies, forall_const, implies_true, Nat.zero_le, Nat.le_refl]
    refine ⟨fun hc => absurd hc (by omega), fun _ => ?_⟩
    refine m_b_mid g hg ha hn (by omega) (fun b x6 x7 x8 q1 => ih (wd + 1) _ _ _ _ (by omega) (by omega) q1) 15 1 b x7 x8 (by omega) (by omega) (bbs_same hi (fun w' d' k' ho => ?_))
    have := ho.1
    unfold cA
    omega
theorem m_build {a w n : Int} (g : gOK G) (hg : gM D G) : CI 162 [vR 69, vI a, vI w, vI n] (EE L, D) (fun r D' => bldA G a w n r ∧ D' = D) := by
  have hn : D 71 0 = G.n := hg.1.1
  have g1 := g.1
  refine Sx.un (y := 162) (n := 0) (lo := [vR 69, vI a, vI w, vI n, vU, vU, vU, vU, vU]) (st := []) (u := (0, 0)) ?_
  refine go_162_0 ?_
  simp only [sg_162_0, cl_I, cl_L, cl_R, e_aload_n, e_cv2, e_iconst, e_if_ne, e_iload_n, e_iret0, e_nil, fl_0, fl_I, fl_L, fl_R, l_ld1, l_ldA0, rk_1, EE_n, EE_s69, lc_lt, lc_le, lc_gt, lc_ge, lc_eq, true_and, and_true, List.length_cons, List.length_nil, ab_ia, Nat.reduceAdd, Nat.reduceLeDiff, Nat.reduceEqDiff, Nat.reduceLT, Int.reduceLT, Int.reduceLE, Int.reduceEq, Int.reduceNeg, true_or, or_true, false_or, or_false, not_false_eq_true, not_true_eq_false, false_implies, true_implies, forall_const, implies_true, Nat.zero_le, Nat.le_refl]
  refine CB.use m_isCell (fun h1 => ?_) (fun h1 => ?_)
  · try simp only [lc_lt, lc_le, lc_gt, lc_ge, lc_eq, true_and, and_true, List.length_cons, List.length_nil, ab_ia, Nat.reduceAdd, Nat.reduceLeDiff, Nat.reduceEqDiff, Nat.reduceLT, Int.reduceLT, Int.reduceLE, Int.reduceEq, Int.reduceNeg, true_or, or_true, false_or, or_false, not_false_eq_true, not_true_eq_false, false_implies, true_implies, forall_const, implies_true, Nat.zero_le, Nat.le_refl]
    rw [hn] at h1
    have h6 := isCl_mono g1.2 h1
    refine go_162_6 ?_
    simp only [sg_162_6, cl_I, cl_L, cl_R, e_bipush, e_cs1, e_cs3, e_i2l, e_if_eq, e_if_ne, e_iload_n, e_iret0, e_lconst, e_ldc2, e_nil, fl_0, fl_I, fl_L, fl_R, l_ld2, l_ld3, rk_1, lc_lt, lc_le, lc_gt, lc_ge, lc_eq, true_and, and_true, List.length_cons, List.length_nil, ab_ia, Nat.reduceAdd, Nat.reduceLeDiff, Nat.reduceEqDiff, Nat.reduceLT, Int.reduceLT, Int.reduceLE, Int.reduceEq, Int.reduceNeg, true_or, or_true, false_or, or_false, not_false_eq_true, not_true_eq_false, false_implies, true_implies, forall_const, implies_true, Nat.zero_le, Nat.le_refl]
    refine CB.use m_in (fun h2 => ?_) (fun h2 => ?_)
    · try simp only [lc_lt, lc_le, lc_gt, lc_ge, lc_eq, true_and, and_true, List.length_cons, List.length_nil, ab_ia, Nat.reduceAdd, Nat.reduceLeDiff, Nat.reduceEqDiff, Nat.reduceLT, Int.reduceLT, Int.reduceLE, Int.reduceEq, Int.reduceNeg, true_or, or_true, false_or, or_false, not_false_eq_true, not_true_eq_false, false_implies, true_implies, forall_const, implies_true, Nat.zero_le, Nat.le_refl]
      refine CB.use m_isYears (fun h4 => ?_) (fun h4 => ?_)
      · try simp only [lc_lt, lc_le, lc_gt, lc_ge, lc_eq, true_and, and_true, List.length_cons, List.length_nil, ab_ia, Nat.reduceAdd, Nat.reduceLeDiff, Nat.reduceEqDiff, Nat.reduceLT, Int.reduceLT, Int.reduceLE, Int.reduceEq, Int.reduceNeg, true_or, or_true, false_or, or_false, not_false_eq_true, not_true_eq_false, false_implies, true_implies, forall_const, implies_true, Nat.zero_le, Nat.le_refl]
        refine go_162_17 ?_
        simp only [sg_162_17, cl_I, cl_L, cl_R, e_bipush, e_iconst, e_istore, e_nil, l_st4, l_st5, lc_lt, lc_le, lc_gt, lc_ge, lc_eq, true_and, and_true, List.length_cons, List.length_nil, ab_ia, Nat.reduceAdd, Nat.reduceLeDiff, Nat.reduceEqDiff, Nat.reduceLT, Int.reduceLT, Int.reduceLE, Int.reduceEq, Int.reduceNeg, true_or, or_true, false_or, or_false, not_false_eq_true, not_true_eq_false, false_implies, true_implies, forall_const, implies_true, Nat.zero_le, Nat.le_refl]
        exact m_b_out g hg h6 h4 (fun b hb => retI ⟨Or.inr (Or.inr ⟨h1, by omega, hb⟩), rfl⟩) 3 0 (-9) vU vU vU (by omega) (by omega) (Or.inl ⟨rfl, fun w' d' k' hc ho => by have := ho.1; unfold cA at hc; omega⟩)
      · try simp only [lc_lt, lc_le, lc_gt, lc_ge, lc_eq, true_and, and_true, List.length_cons, List.length_nil, ab_ia, Nat.reduceAdd, Nat.reduceLeDiff, Nat.reduceEqDiff, Nat.reduceLT, Int.reduceLT, Int.reduceLE, Int.reduceEq, Int.reduceNeg, true_or, or_true, false_or, or_false, not_false_eq_true, not_true_eq_false, false_implies, true_implies, forall_const, implies_true, Nat.zero_le, Nat.le_refl]
        exact retI ⟨Or.inr (Or.inl ⟨h1, by omega, rfl⟩), rfl⟩
    · try simp only [lc_lt, lc_le, lc_gt, lc_ge, lc_eq, true_and, and_true, List.length_cons, List.length_nil, ab_ia, Nat.reduceAdd, Nat.reduceLeDiff, Nat.reduceEqDiff, Nat.reduceLT, Int.reduceLT, Int.reduceLE, Int.reduceEq, Int.reduceNeg, true_or, or_true, false_or, or_false, not_false_eq_true, not_true_eq_false, false_implies, true_implies, forall_const, implies_true, Nat.zero_le, Nat.le_refl]
      refine go_162_15 ?_
      simp only [sg_162_15, cl_I, cl_L, cl_R, e_bipush, e_iret0, e_nil, lc_lt, lc_le, lc_gt, lc_ge, lc_eq, true_and, and_true, List.length_cons, List.length_nil, ab_ia, Nat.reduceAdd, Nat.reduceLeDiff, Nat.reduceEqDiff, Nat.reduceLT, Int.reduceLT, Int.reduceLE, Int.reduceEq, Int.reduceNeg, true_or, or_true, false_or, or_false, not_false_eq_true, not_true_eq_false, false_implies, true_implies, forall_const, implies_true, Nat.zero_le, Nat.le_refl]
      exact retI ⟨Or.inr (Or.inl ⟨h1, by omega, rfl⟩), rfl⟩
  · try simp only [lc_lt, lc_le, lc_gt, lc_ge, lc_eq, true_and, and_true, List.length_cons, List.length_nil, ab_ia, Nat.reduceAdd, Nat.reduceLeDiff, Nat.reduceEqDiff, Nat.reduceLT, Int.reduceLT, Int.reduceLE, Int.reduceEq, Int.reduceNeg, true_or, or_true, false_or, or_false, not_false_eq_true, not_true_eq_false, false_implies, true_implies, forall_const, implies_true, Nat.zero_le, Nat.le_refl]
    rw [hn] at h1
    exact retI ⟨Or.inl ⟨h1, rfl⟩, rfl⟩
end Build

/-! the law's loop (printed by wip/gen/gen_law.py) -/
theorem Bo.use {L : Nat} {b : Int} {p m : Nat} {as : List ab_V} {D : ab_D} {P : Int → ab_D → Prop} (h : Bo L b p m as D) (k : ∀ r D1, D1 1000 = D 1000 → CI m (vR 69 :: as) (EE L, D1) (fun r' D2 => r = r' ∧ Rel (b + 1) D2 ∧ D2 1000 = D1 1000) → P r D1) : CI p (vR 0 :: as) (EE L, D) P := CI.mono h (fun r D1 q => k r D1 q.1 q.2)
theorem BoL.use {L : Nat} {b : Int} {p m : Nat} {as : List ab_V} {D : ab_D} {P : Int → ab_D → Prop} (h : BoL L b p m as D) (k : ∀ r D1, D1 1000 = D 1000 → CL m (vR 69 :: as) (EE L, D1) (fun r' D2 => r = r' ∧ Rel (b + 1) D2 ∧ D2 1000 = D1 1000) → P r D1) : CL p (vR 0 :: as) (EE L, D) P := CL.mono h (fun r D1 q => k r D1 q.1 q.2)
section LawLoop
variable {L : Nat} {D : ab_D} {Q : Option ab_V → ab_H → Prop} {u : Nat × Nat} {i b : Int}
theorem lc_write (hR : Rel b D) (hb : 0 ≤ b ∧ b ≤ 600) (hL : L ≤ 2560) (hi : 0 ≤ i ∧ i + 5 ≤ L) (next : ∀ D', Rel (b + 1) D' → Sx 189 848 [vR 1000, vR 0, vR 69, vI i] [] (EE L, D') u Q) : Sx 189 22 [vR 1000, vR 0, vR 69, vI i] [] (EE L, D) u Q := by
  refine go_189_22 ?_
  simp only [sg_189_22, cl_I, cl_L, cl_R, e_aload_n, e_bipush, e_cv3, e_i2l, e_iadd, e_iaload, e_icmp_eq, e_iconst, e_iload_n, e_iret1, e_land, e_ldc2, e_lor, e_lshl, e_nil, fl_0, fl_I, fl_L, fl_R, l_ld3, l_ldA0, l_ldA1, l_ldA2, rk_1, EE_n, EE_s0, EE_s1000, EE_s69, lc_lt, lc_le, lc_gt, lc_ge, lc_eq, true_and, and_true, List.length_cons, List.length_nil, ab_ia, Nat.reduceAdd, Nat.reduceLeDiff, Nat.reduceEqDiff, Nat.reduceLT, Int.reduceLT, Int.reduceLE, Int.reduceEq, Int.reduceNeg, true_or, or_true, false_or, or_false, not_false_eq_true, not_true_eq_false, false_implies, true_implies, forall_const, implies_true, Nat.zero_le, Nat.le_refl]
  refine ⟨⟨by omega, by omega⟩, by omega, ⟨by omega, by omega⟩, by omega, ⟨by omega, by omega⟩, by omega, ?_⟩
  refine Bo.use (b_write hR) (fun r D1 e q => ?_)
  rw [e]
  refine ⟨⟨by omega, by omega⟩, by omega, ⟨by omega, by omega⟩, by omega, ⟨by omega, by omega⟩, by omega, q.mono ?_⟩
  rintro r' D2 ⟨rfl, hR2, _⟩
  exact ⟨fun _ => next D2 hR2, fun h => absurd rfl h⟩
theorem lc_wipe (hR : Rel b D) (hb : 0 ≤ b ∧ b ≤ 600) (hL : L ≤ 2560) (hi : 0 ≤ i ∧ i + 5 ≤ L) (next : ∀ D', Rel (b + 1) D' → Sx 189 848 [vR 1000, vR 0, vR 69, vI i] [] (EE L, D') u Q) : Sx 189 73 [vR 1000, vR 0, vR 69, vI i] [] (EE L, D) u Q := by
  refine go_189_73 ?_
  simp only [sg_189_73, cl_I, cl_L, cl_R, e_aload_n, e_cv1, e_icmp_eq, e_iconst, e_iret1, e_nil, fl_0, fl_I, fl_L, fl_R, l_ldA1, l_ldA2, rk_1, EE_n, EE_s0, EE_s1000, EE_s69, lc_lt, lc_le, lc_gt, lc_ge, lc_eq, true_and, and_true, List.length_cons, List.length_nil, ab_ia, Nat.reduceAdd, Nat.reduceLeDiff, Nat.reduceEqDiff, Nat.reduceLT, Int.reduceLT, Int.reduceLE, Int.reduceEq, Int.reduceNeg, true_or, or_true, false_or, or_false, not_false_eq_true, not_true_eq_false, false_implies, true_implies, forall_const, implies_true, Nat.zero_le, Nat.le_refl]
  refine Bo.use (b_wipe hR) (fun r D1 e q => ?_)
  refine q.mono ?_
  rintro r' D2 ⟨rfl, hR2, _⟩
  exact ⟨fun _ => next D2 hR2, fun h => absurd rfl h⟩
theorem lc_fault (hR : Rel b D) (hb : 0 ≤ b ∧ b ≤ 600) (hL : L ≤ 2560) (hi : 0 ≤ i ∧ i + 5 ≤ L) (next : ∀ D', Rel (b + 1) D' → Sx 189 848 [vR 1000, vR 0, vR 69, vI i] [] (EE L, D') u Q) : Sx 189 80 [vR 1000, vR 0, vR 69, vI i] [] (EE L, D) u Q := by
  refine go_189_80 ?_
  simp only [sg_189_80, cl_I, cl_L, cl_R, e_aload_n, e_cv1, e_icmp_eq, e_iconst, e_iret1, e_nil, fl_0, fl_I, fl_L, fl_R, l_ldA1, l_ldA2, rk_1, EE_n, EE_s0, EE_s1000, EE_s69, lc_lt, lc_le, lc_gt, lc_ge, lc_eq, true_and, and_true, List.length_cons, List.length_nil, ab_ia, Nat.reduceAdd, Nat.reduceLeDiff, Nat.reduceEqDiff, Nat.reduceLT, Int.reduceLT, Int.reduceLE, Int.reduceEq, Int.reduceNeg, true_or, or_true, false_or, or_false, not_false_eq_true, not_true_eq_false, false_implies, true_implies, forall_const, implies_true, Nat.zero_le, Nat.le_refl]
  refine Bo.use (b_fault hR) (fun r D1 e q => ?_)
  refine q.mono ?_
  rintro r' D2 ⟨rfl, hR2, _⟩
  exact ⟨fun _ => next D2 hR2, fun h => absurd rfl h⟩
theorem lc_lake (hR : Rel b D) (hb : 0 ≤ b ∧ b ≤ 600) (hL : L ≤ 2560) (hi : 0 ≤ i ∧ i + 5 ≤ L) (next : ∀ D', Rel (b + 1) D' → Sx 189 848 [vR 1000, vR 0, vR 69, vI i] [] (EE L, D') u Q) : Sx 189 87 [vR 1000, vR 0, vR 69, vI i] [] (EE L, D) u Q := by
  refine go_189_87 ?_
  simp only [sg_189_87, cl_I, cl_L, cl_R, e_aload_n, e_cv1, e_icmp_eq, e_iconst, e_iret1, e_nil, fl_0, fl_I, fl_L, fl_R, l_ldA1, l_ldA2, rk_1, EE_n, EE_s0, EE_s1000, EE_s69, lc_lt, lc_le, lc_gt, lc_ge, lc_eq, true_and, and_true, List.length_cons, List.length_nil, ab_ia, Nat.reduceAdd, Nat.reduceLeDiff, Nat.reduceEqDiff, Nat.reduceLT, Int.reduceLT, Int.reduceLE, Int.reduceEq, Int.reduceNeg, true_or, or_true, false_or, or_false, not_false_eq_true, not_true_eq_false, false_implies, true_implies, forall_const, implies_true, Nat.zero_le, Nat.le_refl]
  refine Bo.use (b_lake hR (by omega)) (fun r D1 e q => ?_)
  refine q.mono ?_
  rintro r' D2 ⟨rfl, hR2, _⟩
  exact ⟨fun _ => next D2 hR2, fun h => absurd rfl h⟩
theorem lc_about (hR : Rel b D) (hb : 0 ≤ b ∧ b ≤ 600) (hL : L ≤ 2560) (hi : 0 ≤ i ∧ i + 5 ≤ L) (next : ∀ D', Rel (b + 1) D' → Sx 189 848 [vR 1000, vR 0, vR 69, vI i] [] (EE L, D') u Q) : Sx 189 94 [vR 1000, vR 0, vR 69, vI i] [] (EE L, D) u Q := by
  refine go_189_94 ?_
  simp only [sg_189_94, cl_I, cl_L, cl_R, e_aload_n, e_cv2, e_iadd, e_iaload, e_icmp_eq, e_iconst, e_iload_n, e_iret1, e_nil, fl_0, fl_I, fl_L, fl_R, l_ld3, l_ldA0, l_ldA1, l_ldA2, rk_1, EE_n, EE_s0, EE_s1000, EE_s69, lc_lt, lc_le, lc_gt, lc_ge, lc_eq, true_and, and_true, List.length_cons, List.length_nil, ab_ia, Nat.reduceAdd, Nat.reduceLeDiff, Nat.reduceEqDiff, Nat.reduceLT, Int.reduceLT, Int.reduceLE, Int.reduceEq, Int.reduceNeg, true_or, or_true, false_or, or_false, not_false_eq_true, not_true_eq_false, false_implies, true_implies, forall_const, implies_true, Nat.zero_le, Nat.le_refl]
  refine ⟨⟨by omega, by omega⟩, by omega, ?_⟩
  refine Bo.use (b_about hR) (fun r D1 e q => ?_)
  rw [e]
  refine ⟨⟨by omega, by omega⟩, by omega, q.mono ?_⟩
  rintro r' D2 ⟨rfl, hR2, _⟩
  exact ⟨fun _ => next D2 hR2, fun h => absurd rfl h⟩
theorem lc_clay (hR : Rel b D) (hb : 0 ≤ b ∧ b ≤ 600) (hL : L ≤ 2560) (hi : 0 ≤ i ∧ i + 5 ≤ L) (next : ∀ D', Rel (b + 1) D' → Sx 189 848 [vR 1000, vR 0, vR 69, vI i] [] (EE L, D') u Q) : Sx 189 111 [vR 1000, vR 0, vR 69, vI i] [] (EE L, D) u Q := by
  refine go_189_111 ?_
  simp only [sg_189_111, cl_I, cl_L, cl_R, e_aload_n, e_cv2, e_iadd, e_iaload, e_icmp_eq, e_iconst, e_iload_n, e_iret1, e_nil, fl_0, fl_I, fl_L, fl_R, l_ld3, l_ldA0, l_ldA1, l_ldA2, rk_1, EE_n, EE_s0, EE_s1000, EE_s69, lc_lt, lc_le, lc_gt, lc_ge, lc_eq, true_and, and_true, List.length_cons, List.length_nil, ab_ia, Nat.reduceAdd, Nat.reduceLeDiff, Nat.reduceEqDiff, Nat.reduceLT, Int.reduceLT, Int.reduceLE, Int.reduceEq, Int.reduceNeg, true_or, or_true, false_or, or_false, not_false_eq_true, not_true_eq_false, false_implies, true_implies, forall_const, implies_true, Nat.zero_le, Nat.le_refl]
  refine ⟨⟨by omega, by omega⟩, by omega, ?_⟩
  refine Bo.use (b_clay hR) (fun r D1 e q => ?_)
  rw [e]
  refine ⟨⟨by omega, by omega⟩, by omega, q.mono ?_⟩
  rintro r' D2 ⟨rfl, hR2, _⟩
  exact ⟨fun _ => next D2 hR2, fun h => absurd rfl h⟩
theorem lc_pole (hR : Rel b D) (hb : 0 ≤ b ∧ b ≤ 600) (hL : L ≤ 2560) (hi : 0 ≤ i ∧ i + 5 ≤ L) (next : ∀ D', Rel (b + 1) D' → Sx 189 848 [vR 1000, vR 0, vR 69, vI i] [] (EE L, D') u Q) : Sx 189 128 [vR 1000, vR 0, vR 69, vI i] [] (EE L, D) u Q := by
  refine go_189_128 ?_
  simp only [sg_189_128, cl_I, cl_L, cl_R, e_aload_n, e_goto, e_iadd, e_iaload, e_iconst, e_if_eq, e_iload_n, e_nil, l_ld3, l_ldA0, l_ldA1, EE_n, EE_s0, EE_s1000, EE_s69, lc_lt, lc_le, lc_gt, lc_ge, lc_eq, true_and, and_true, List.length_cons, List.length_nil, ab_ia, Nat.reduceAdd, Nat.reduceLeDiff, Nat.reduceEqDiff, Nat.reduceLT, Int.reduceLT, Int.reduceLE, Int.reduceEq, Int.reduceNeg, true_or, or_true, false_or, or_false, not_false_eq_true, not_true_eq_false, false_implies, true_implies, forall_const, implies_true, Nat.zero_le, Nat.le_refl]
  refine ⟨⟨by omega, by omega⟩, by omega, ⟨by omega, by omega⟩, by omega, ⟨by omega, by omega⟩, by omega, ⟨by omega, by omega⟩, by omega, fun h => ?_, fun h => ?_⟩
  · refine go_189_152 ?_
    simp only [sg_189_152, cl_I, cl_L, cl_R, e_aload_n, e_cv5, e_goto, e_iadd, e_iaload, e_iconst, e_if_eq, e_iload_n, e_nil, fl_0, fl_I, fl_L, fl_R, l_ld3, l_ldA0, l_ldA2, rk_1, EE_n, EE_s0, EE_s1000, EE_s69, lc_lt, lc_le, lc_gt, lc_ge, lc_eq, true_and, and_true, List.length_cons, List.length_nil, ab_ia, Nat.reduceAdd, Nat.reduceLeDiff, Nat.reduceEqDiff, Nat.reduceLT, Int.reduceLT, Int.reduceLE, Int.reduceEq, Int.reduceNeg, true_or, or_true, false_or, or_false, not_false_eq_true, not_true_eq_false, false_implies, true_implies, forall_const, implies_true, Nat.zero_le, Nat.le_refl]
    refine Bo.use (b_pole hR (by omega)) (fun r D1 e q => ?_)
    rw [e]
    refine ⟨⟨by omega, by omega⟩, by omega, ⟨by omega, by omega⟩, by omega, ⟨by omega, by omega⟩, by omega, ⟨by omega, by omega⟩, by omega, fun h2 => ?_, fun h2 => ?_⟩
    · refine go_189_178 ?_
      simp only [sg_189_178, cl_I, cl_L, cl_R, e_cv5, e_icmp_eq, e_iconst, e_iret1, e_nil, fl_0, fl_I, fl_L, fl_R, rk_1, EE_n, EE_s0, EE_s1000, EE_s69, lc_lt, lc_le, lc_gt, lc_ge, lc_eq, true_and, and_true, List.length_cons, List.length_nil, ab_ia, Nat.reduceAdd, Nat.reduceLeDiff, Nat.reduceEqDiff, Nat.reduceLT, Int.reduceLT, Int.reduceLE, Int.reduceEq, Int.reduceNeg, true_or, or_true, false_or, or_false, not_false_eq_true, not_true_eq_false, false_implies, true_implies, forall_const, implies_true, Nat.zero_le, Nat.le_refl]
      refine q.mono ?_
      rintro r' D2 ⟨rfl, hR2, _⟩
      exact ⟨fun _ => next D2 hR2, fun h => absurd rfl h⟩
    · exact absurd h h2
  · refine go_189_153 ?_
    simp only [sg_189_153, cl_I, cl_L, cl_R, e_aload_n, e_cv5, e_goto, e_iadd, e_iaload, e_iconst, e_if_eq, e_iload_n, e_nil, fl_0, fl_I, fl_L, fl_R, l_ld3, l_ldA0, l_ldA2, rk_1, EE_n, EE_s0, EE_s1000, EE_s69, lc_lt, lc_le, lc_gt, lc_ge, lc_eq, true_and, and_true, List.length_cons, List.length_nil, ab_ia, Nat.reduceAdd, Nat.reduceLeDiff, Nat.reduceEqDiff, Nat.reduceLT, Int.reduceLT, Int.reduceLE, Int.reduceEq, Int.reduceNeg, true_or, or_true, false_or, or_false, not_false_eq_true, not_true_eq_false, false_implies, true_implies, forall_const, implies_true, Nat.zero_le, Nat.le_refl]
    refine Bo.use (b_pole hR (by omega)) (fun r D1 e q => ?_)
    rw [e]
    refine ⟨⟨by omega, by omega⟩, by omega, ⟨by omega, by omega⟩, by omega, ⟨by omega, by omega⟩, by omega, ⟨by omega, by omega⟩, by omega, fun h2 => ?_, fun h2 => ?_⟩
    · exact absurd h2 h
    · refine go_189_179 ?_
      simp only [sg_189_179, cl_I, cl_L, cl_R, e_cv5, e_icmp_eq, e_iconst, e_iret1, e_nil, fl_0, fl_I, fl_L, fl_R, rk_1, EE_n, EE_s0, EE_s1000, EE_s69, lc_lt, lc_le, lc_gt, lc_ge, lc_eq, true_and, and_true, List.length_cons, List.length_nil, ab_ia, Nat.reduceAdd, Nat.reduceLeDiff, Nat.reduceEqDiff, Nat.reduceLT, Int.reduceLT, Int.reduceLE, Int.reduceEq, Int.reduceNeg, true_or, or_true, false_or, or_false, not_false_eq_true, not_true_eq_false, false_implies, true_implies, forall_const, implies_true, Nat.zero_le, Nat.le_refl]
      refine q.mono ?_
      rintro r' D2 ⟨rfl, hR2, _⟩
      exact ⟨fun _ => next D2 hR2, fun h => absurd rfl h⟩
theorem lc_told (hR : Rel b D) (hb : 0 ≤ b ∧ b ≤ 600) (hL : L ≤ 2560) (hi : 0 ≤ i ∧ i + 5 ≤ L) (next : ∀ D', Rel (b + 1) D' → Sx 189 848 [vR 1000, vR 0, vR 69, vI i] [] (EE L, D') u Q) : Sx 189 183 [vR 1000, vR 0, vR 69, vI i] [] (EE L, D) u Q := by
  refine go_189_183 ?_
  simp only [sg_189_183, cl_I, cl_L, cl_R, e_aload_n, e_cv3, e_iadd, e_iaload, e_icmp_eq, e_iconst, e_iload_n, e_iret1, e_nil, fl_0, fl_I, fl_L, fl_R, l_ld3, l_ldA0, l_ldA1, l_ldA2, rk_1, EE_n, EE_s0, EE_s1000, EE_s69, lc_lt, lc_le, lc_gt, lc_ge, lc_eq, true_and, and_true, List.length_cons, List.length_nil, ab_ia, Nat.reduceAdd, Nat.reduceLeDiff, Nat.reduceEqDiff, Nat.reduceLT, Int.reduceLT, Int.reduceLE, Int.reduceEq, Int.reduceNeg, true_or, or_true, false_or, or_false, not_false_eq_true, not_true_eq_false, false_implies, true_implies, forall_const, implies_true, Nat.zero_le, Nat.le_refl]
  refine ⟨⟨by omega, by omega⟩, by omega, ⟨by omega, by omega⟩, by omega, ?_⟩
  refine Bo.use (b_told hR) (fun r D1 e q => ?_)
  rw [e]
  refine ⟨⟨by omega, by omega⟩, by omega, ⟨by omega, by omega⟩, by omega, q.mono ?_⟩
  rintro r' D2 ⟨rfl, hR2, _⟩
  exact ⟨fun _ => next D2 hR2, fun h => absurd rfl h⟩
theorem lc_house (hR : Rel b D) (hb : 0 ≤ b ∧ b ≤ 600) (hL : L ≤ 2560) (hi : 0 ≤ i ∧ i + 5 ≤ L) (next : ∀ D', Rel (b + 1) D' → Sx 189 848 [vR 1000, vR 0, vR 69, vI i] [] (EE L, D') u Q) : Sx 189 210 [vR 1000, vR 0, vR 69, vI i] [] (EE L, D) u Q := by
  refine go_189_210 ?_
  simp only [sg_189_210, cl_I, cl_L, cl_R, e_aload_n, e_cv4, e_iadd, e_iaload, e_icmp_eq, e_iconst, e_iload_n, e_iret1, e_nil, fl_0, fl_I, fl_L, fl_R, l_ld3, l_ldA0, l_ldA1, l_ldA2, rk_1, EE_n, EE_s0, EE_s1000, EE_s69, lc_lt, lc_le, lc_gt, lc_ge, lc_eq, true_and, and_true, List.length_cons, List.length_nil, ab_ia, Nat.reduceAdd, Nat.reduceLeDiff, Nat.reduceEqDiff, Nat.reduceLT, Int.reduceLT, Int.reduceLE, Int.reduceEq, Int.reduceNeg, true_or, or_true, false_or, or_false, not_false_eq_true, not_true_eq_false, false_implies, true_implies, forall_const, implies_true, Nat.zero_le, Nat.le_refl]
  refine ⟨⟨by omega, by omega⟩, by omega, ⟨by omega, by omega⟩, by omega, ⟨by omega, by omega⟩, by omega, ?_⟩
  refine Bo.use (b_house hR) (fun r D1 e q => ?_)
  rw [e]
  refine ⟨⟨by omega, by omega⟩, by omega, ⟨by omega, by omega⟩, by omega, ⟨by omega, by omega⟩, by omega, q.mono ?_⟩
  rintro r' D2 ⟨rfl, hR2, _⟩
  exact ⟨fun _ => next D2 hR2, fun h => absurd rfl h⟩
theorem lc_home (hR : Rel b D) (hb : 0 ≤ b ∧ b ≤ 600) (hL : L ≤ 2560) (hi : 0 ≤ i ∧ i + 5 ≤ L) (next : ∀ D', Rel (b + 1) D' → Sx 189 848 [vR 1000, vR 0, vR 69, vI i] [] (EE L, D') u Q) : Sx 189 247 [vR 1000, vR 0, vR 69, vI i] [] (EE L, D) u Q := by
  refine go_189_247 ?_
  simp only [sg_189_247, cl_I, cl_L, cl_R, e_aload_n, e_cv3, e_iadd, e_iaload, e_icmp_eq, e_iconst, e_iload_n, e_iret1, e_nil, fl_0, fl_I, fl_L, fl_R, l_ld3, l_ldA0, l_ldA1, l_ldA2, rk_1, EE_n, EE_s0, EE_s1000, EE_s69, lc_lt, lc_le, lc_gt, lc_ge, lc_eq, true_and, and_true, List.length_cons, List.length_nil, ab_ia, Nat.reduceAdd, Nat.reduceLeDiff, Nat.reduceEqDiff, Nat.reduceLT, Int.reduceLT, Int.reduceLE, Int.reduceEq, Int.reduceNeg, true_or, or_true, false_or, or_false, not_false_eq_true, not_true_eq_false, false_implies, true_implies, forall_const, implies_true, Nat.zero_le, Nat.le_refl]
  refine ⟨⟨by omega, by omega⟩, by omega, ⟨by omega, by omega⟩, by omega, ?_⟩
  refine Bo.use (b_home hR) (fun r D1 e q => ?_)
  rw [e]
  refine ⟨⟨by omega, by omega⟩, by omega, ⟨by omega, by omega⟩, by omega, q.mono ?_⟩
  rintro r' D2 ⟨rfl, hR2, _⟩
  exact ⟨fun _ => next D2 hR2, fun h => absurd rfl h⟩
theorem lc_year (hR : Rel b D) (hb : 0 ≤ b ∧ b ≤ 600) (hL : L ≤ 2560) (hi : 0 ≤ i ∧ i + 5 ≤ L) (next : ∀ D', Rel (b + 1) D' → Sx 189 848 [vR 1000, vR 0, vR 69, vI i] [] (EE L, D') u Q) : Sx 189 274 [vR 1000, vR 0, vR 69, vI i] [] (EE L, D) u Q := by
  refine go_189_274 ?_
  simp only [sg_189_274, cl_I, cl_L, cl_R, e_aload_n, e_cv1, e_icmp_eq, e_iconst, e_iret1, e_nil, fl_0, fl_I, fl_L, fl_R, l_ldA1, l_ldA2, rk_1, EE_n, EE_s0, EE_s1000, EE_s69, lc_lt, lc_le, lc_gt, lc_ge, lc_eq, true_and, and_true, List.length_cons, List.length_nil, ab_ia, Nat.reduceAdd, Nat.reduceLeDiff, Nat.reduceEqDiff, Nat.reduceLT, Int.reduceLT, Int.reduceLE, Int.reduceEq, Int.reduceNeg, true_or, or_true, false_or, or_false, not_false_eq_true, not_true_eq_false, false_implies, true_implies, forall_const, implies_true, Nat.zero_le, Nat.le_refl]
  refine Bo.use (b_year hR (by omega)) (fun r D1 e q => ?_)
  refine q.mono ?_
  rintro r' D2 ⟨rfl, hR2, _⟩
  exact ⟨fun _ => next D2 hR2, fun h => absurd rfl h⟩
theorem lc_down (hR : Rel b D) (hb : 0 ≤ b ∧ b ≤ 600) (hL : L ≤ 2560) (hi : 0 ≤ i ∧ i + 5 ≤ L) (next : ∀ D', Rel (b + 1) D' → Sx 189 848 [vR 1000, vR 0, vR 69, vI i] [] (EE L, D') u Q) : Sx 189 281 [vR 1000, vR 0, vR 69, vI i] [] (EE L, D) u Q := by
  refine go_189_281 ?_
  simp only [sg_189_281, cl_I, cl_L, cl_R, e_aload_n, e_cv3, e_iadd, e_iaload, e_icmp_eq, e_iconst, e_iload_n, e_iret1, e_nil, fl_0, fl_I, fl_L, fl_R, l_ld3, l_ldA0, l_ldA1, l_ldA2, rk_1, EE_n, EE_s0, EE_s1000, EE_s69, lc_lt, lc_le, lc_gt, lc_ge, lc_eq, true_and, and_true, List.length_cons, List.length_nil, ab_ia, Nat.reduceAdd, Nat.reduceLeDiff, Nat.reduceEqDiff, Nat.reduceLT, Int.reduceLT, Int.reduceLE, Int.reduceEq, Int.reduceNeg, true_or, or_true, false_or, or_false, not_false_eq_true, not_true_eq_false, false_implies, true_implies, forall_const, implies_true, Nat.zero_le, Nat.le_refl]
  refine ⟨⟨by omega, by omega⟩, by omega, ⟨by omega, by omega⟩, by omega, ?_⟩
  refine Bo.use (b_down hR (by omega)) (fun r D1 e q => ?_)
  rw [e]
  refine ⟨⟨by omega, by omega⟩, by omega, ⟨by omega, by omega⟩, by omega, q.mono ?_⟩
  rintro r' D2 ⟨rfl, hR2, _⟩
  exact ⟨fun _ => next D2 hR2, fun h => absurd rfl h⟩
theorem lc_off (hR : Rel b D) (hb : 0 ≤ b ∧ b ≤ 600) (hL : L ≤ 2560) (hi : 0 ≤ i ∧ i + 5 ≤ L) (next : ∀ D', Rel (b + 1) D' → Sx 189 848 [vR 1000, vR 0, vR 69, vI i] [] (EE L, D') u Q) : Sx 189 308 [vR 1000, vR 0, vR 69, vI i] [] (EE L, D) u Q := by
  refine go_189_308 ?_
  simp only [sg_189_308, cl_I, cl_L, cl_R, e_aload_n, e_cv4, e_iadd, e_iaload, e_icmp_eq, e_iconst, e_iload_n, e_iret1, e_nil, fl_0, fl_I, fl_L, fl_R, l_ld3, l_ldA0, l_ldA1, l_ldA2, rk_1, EE_n, EE_s0, EE_s1000, EE_s69, lc_lt, lc_le, lc_gt, lc_ge, lc_eq, true_and, and_true, List.length_cons, List.length_nil, ab_ia, Nat.reduceAdd, Nat.reduceLeDiff, Nat.reduceEqDiff, Nat.reduceLT, Int.reduceLT, Int.reduceLE, Int.reduceEq, Int.reduceNeg, true_or, or_true, false_or, or_false, not_false_eq_true, not_true_eq_false, false_implies, true_implies, forall_const, implies_true, Nat.zero_le, Nat.le_refl]
  refine ⟨⟨by omega, by omega⟩, by omega, ⟨by omega, by omega⟩, by omega, ⟨by omega, by omega⟩, by omega, ?_⟩
  refine Bo.use (b_off hR (by omega)) (fun r D1 e q => ?_)
  rw [e]
  refine ⟨⟨by omega, by omega⟩, by omega, ⟨by omega, by omega⟩, by omega, ⟨by omega, by omega⟩, by omega, q.mono ?_⟩
  rintro r' D2 ⟨rfl, hR2, _⟩
  exact ⟨fun _ => next D2 hR2, fun h => absurd rfl h⟩
theorem lc_takes (hR : Rel b D) (hb : 0 ≤ b ∧ b ≤ 600) (hL : L ≤ 2560) (hi : 0 ≤ i ∧ i + 5 ≤ L) (next : ∀ D', Rel (b + 1) D' → Sx 189 848 [vR 1000, vR 0, vR 69, vI i] [] (EE L, D') u Q) : Sx 189 345 [vR 1000, vR 0, vR 69, vI i] [] (EE L, D) u Q := by
  refine go_189_345 ?_
  simp only [sg_189_345, cl_I, cl_L, cl_R, e_aload_n, e_cv3, e_iadd, e_iaload, e_icmp_eq, e_iconst, e_iload_n, e_iret1, e_nil, fl_0, fl_I, fl_L, fl_R, l_ld3, l_ldA0, l_ldA1, l_ldA2, rk_1, EE_n, EE_s0, EE_s1000, EE_s69, lc_lt, lc_le, lc_gt, lc_ge, lc_eq, true_and, and_true, List.length_cons, List.length_nil, ab_ia, Nat.reduceAdd, Nat.reduceLeDiff, Nat.reduceEqDiff, Nat.reduceLT, Int.reduceLT, Int.reduceLE, Int.reduceEq, Int.reduceNeg, true_or, or_true, false_or, or_false, not_false_eq_true, not_true_eq_false, false_implies, true_implies, forall_const, implies_true, Nat.zero_le, Nat.le_refl]
  refine ⟨⟨by omega, by omega⟩, by omega, ⟨by omega, by omega⟩, by omega, ?_⟩
  refine Bo.use (b_takes hR (by omega)) (fun r D1 e q => ?_)
  rw [e]
  refine ⟨⟨by omega, by omega⟩, by omega, ⟨by omega, by omega⟩, by omega, q.mono ?_⟩
  rintro r' D2 ⟨rfl, hR2, _⟩
  exact ⟨fun _ => next D2 hR2, fun h => absurd rfl h⟩
theorem lc_mended (hR : Rel b D) (hb : 0 ≤ b ∧ b ≤ 600) (hL : L ≤ 2560) (hi : 0 ≤ i ∧ i + 5 ≤ L) (next : ∀ D', Rel (b + 1) D' → Sx 189 848 [vR 1000, vR 0, vR 69, vI i] [] (EE L, D') u Q) : Sx 189 372 [vR 1000, vR 0, vR 69, vI i] [] (EE L, D) u Q := by
  refine go_189_372 ?_
  simp only [sg_189_372, cl_I, cl_L, cl_R, e_aload_n, e_cv4, e_iadd, e_iaload, e_icmp_eq, e_iconst, e_iload_n, e_iret1, e_nil, fl_0, fl_I, fl_L, fl_R, l_ld3, l_ldA0, l_ldA1, l_ldA2, rk_1, EE_n, EE_s0, EE_s1000, EE_s69, lc_lt, lc_le, lc_gt, lc_ge, lc_eq, true_and, and_true, List.length_cons, List.length_nil, ab_ia, Nat.reduceAdd, Nat.reduceLeDiff, Nat.reduceEqDiff, Nat.reduceLT, Int.reduceLT, Int.reduceLE, Int.reduceEq, Int.reduceNeg, true_or, or_true, false_or, or_false, not_false_eq_true, not_true_eq_false, false_implies, true_implies, forall_const, implies_true, Nat.zero_le, Nat.le_refl]
  refine ⟨⟨by omega, by omega⟩, by omega, ⟨by omega, by omega⟩, by omega, ⟨by omega, by omega⟩, by omega, ?_⟩
  refine Bo.use (b_mended hR (by omega)) (fun r D1 e q => ?_)
  rw [e]
  refine ⟨⟨by omega, by omega⟩, by omega, ⟨by omega, by omega⟩, by omega, ⟨by omega, by omega⟩, by omega, q.mono ?_⟩
  rintro r' D2 ⟨rfl, hR2, _⟩
  exact ⟨fun _ => next D2 hR2, fun h => absurd rfl h⟩
theorem lc_bestRule (hR : Rel b D) (hb : 0 ≤ b ∧ b ≤ 600) (hL : L ≤ 2560) (hi : 0 ≤ i ∧ i + 5 ≤ L) (next : ∀ D', Rel (b + 1) D' → Sx 189 848 [vR 1000, vR 0, vR 69, vI i] [] (EE L, D') u Q) : Sx 189 409 [vR 1000, vR 0, vR 69, vI i] [] (EE L, D) u Q := by
  refine go_189_409 ?_
  simp only [sg_189_409, cl_I, cl_L, cl_R, e_aload_n, e_cv3, e_iadd, e_iaload, e_icmp_eq, e_iconst, e_iload_n, e_iret1, e_nil, fl_0, fl_I, fl_L, fl_R, l_ld3, l_ldA0, l_ldA1, l_ldA2, rk_1, EE_n, EE_s0, EE_s1000, EE_s69, lc_lt, lc_le, lc_gt, lc_ge, lc_eq, true_and, and_true, List.length_cons, List.length_nil, ab_ia, Nat.reduceAdd, Nat.reduceLeDiff, Nat.reduceEqDiff, Nat.reduceLT, Int.reduceLT, Int.reduceLE, Int.reduceEq, Int.reduceNeg, true_or, or_true, false_or, or_false, not_false_eq_true, not_true_eq_false, false_implies, true_implies, forall_const, implies_true, Nat.zero_le, Nat.le_refl]
  refine ⟨⟨by omega, by omega⟩, by omega, ⟨by omega, by omega⟩, by omega, ?_⟩
  refine Bo.use (b_bestRule hR (by omega)) (fun r D1 e q => ?_)
  rw [e]
  refine ⟨⟨by omega, by omega⟩, by omega, ⟨by omega, by omega⟩, by omega, q.mono ?_⟩
  rintro r' D2 ⟨rfl, hR2, _⟩
  exact ⟨fun _ => next D2 hR2, fun h => absurd rfl h⟩
theorem lc_build (hR : Rel b D) (hb : 0 ≤ b ∧ b ≤ 600) (hL : L ≤ 2560) (hi : 0 ≤ i ∧ i + 5 ≤ L) (next : ∀ D', Rel (b + 1) D' → Sx 189 848 [vR 1000, vR 0, vR 69, vI i] [] (EE L, D') u Q) : Sx 189 436 [vR 1000, vR 0, vR 69, vI i] [] (EE L, D) u Q := by
  refine go_189_436 ?_
  simp only [sg_189_436, cl_I, cl_L, cl_R, e_aload_n, e_cv4, e_iadd, e_iaload, e_icmp_eq, e_iconst, e_iload_n, e_iret1, e_nil, fl_0, fl_I, fl_L, fl_R, l_ld3, l_ldA0, l_ldA1, l_ldA2, rk_1, EE_n, EE_s0, EE_s1000, EE_s69, lc_lt, lc_le, lc_gt, lc_ge, lc_eq, true_and, and_true, List.length_cons, List.length_nil, ab_ia, Nat.reduceAdd, Nat.reduceLeDiff, Nat.reduceEqDiff, Nat.reduceLT, Int.reduceLT, Int.reduceLE, Int.reduceEq, Int.reduceNeg, true_or, or_true, false_or, or_false, not_false_eq_true, not_true_eq_false, false_implies, true_implies, forall_const, implies_true, Nat.zero_le, Nat.le_refl]
  refine ⟨⟨by omega, by omega⟩, by omega, ⟨by omega, by omega⟩, by omega, ⟨by omega, by omega⟩, by omega, ?_⟩
  refine Bo.use (b_build hR) (fun r D1 e q => ?_)
  rw [e]
  refine ⟨⟨by omega, by omega⟩, by omega, ⟨by omega, by omega⟩, by omega, ⟨by omega, by omega⟩, by omega, q.mono ?_⟩
  rintro r' D2 ⟨rfl, hR2, _⟩
  exact ⟨fun _ => next D2 hR2, fun h => absurd rfl h⟩
theorem lc_rise (hR : Rel b D) (hb : 0 ≤ b ∧ b ≤ 600) (hL : L ≤ 2560) (hi : 0 ≤ i ∧ i + 5 ≤ L) (next : ∀ D', Rel (b + 1) D' → Sx 189 848 [vR 1000, vR 0, vR 69, vI i] [] (EE L, D') u Q) : Sx 189 473 [vR 1000, vR 0, vR 69, vI i] [] (EE L, D) u Q := by
  refine go_189_473 ?_
  simp only [sg_189_473, cl_I, cl_L, cl_R, e_aload_n, e_cv2, e_iadd, e_iaload, e_icmp_eq, e_iconst, e_iload_n, e_iret1, e_nil, fl_0, fl_I, fl_L, fl_R, l_ld3, l_ldA0, l_ldA1, l_ldA2, rk_1, EE_n, EE_s0, EE_s1000, EE_s69, lc_lt, lc_le, lc_gt, lc_ge, lc_eq, true_and, and_true, List.length_cons, List.length_nil, ab_ia, Nat.reduceAdd, Nat.reduceLeDiff, Nat.reduceEqDiff, Nat.reduceLT, Int.reduceLT, Int.reduceLE, Int.reduceEq, Int.reduceNeg, true_or, or_true, false_or, or_false, not_false_eq_true, not_true_eq_false, false_implies, true_implies, forall_const, implies_true, Nat.zero_le, Nat.le_refl]
  refine ⟨⟨by omega, by omega⟩, by omega, ?_⟩
  refine Bo.use (b_rise hR) (fun r D1 e q => ?_)
  rw [e]
  refine ⟨⟨by omega, by omega⟩, by omega, q.mono ?_⟩
  rintro r' D2 ⟨rfl, hR2, _⟩
  exact ⟨fun _ => next D2 hR2, fun h => absurd rfl h⟩
theorem lc_calm (hR : Rel b D) (hb : 0 ≤ b ∧ b ≤ 600) (hL : L ≤ 2560) (hi : 0 ≤ i ∧ i + 5 ≤ L) (next : ∀ D', Rel (b + 1) D' → Sx 189 848 [vR 1000, vR 0, vR 69, vI i] [] (EE L, D') u Q) : Sx 189 490 [vR 1000, vR 0, vR 69, vI i] [] (EE L, D) u Q := by
  refine go_189_490 ?_
  simp only [sg_189_490, cl_I, cl_L, cl_R, e_aload_n, e_cv1, e_icmp_eq, e_iconst, e_iret1, e_nil, fl_0, fl_I, fl_L, fl_R, l_ldA1, l_ldA2, rk_1, EE_n, EE_s0, EE_s1000, EE_s69, lc_lt, lc_le, lc_gt, lc_ge, lc_eq, true_and, and_true, List.length_cons, List.length_nil, ab_ia, Nat.reduceAdd, Nat.reduceLeDiff, Nat.reduceEqDiff, Nat.reduceLT, Int.reduceLT, Int.reduceLE, Int.reduceEq, Int.reduceNeg, true_or, or_true, false_or, or_false, not_false_eq_true, not_true_eq_false, false_implies, true_implies, forall_const, implies_true, Nat.zero_le, Nat.le_refl]
  refine Bo.use (b_calm hR) (fun r D1 e q => ?_)
  refine q.mono ?_
  rintro r' D2 ⟨rfl, hR2, _⟩
  exact ⟨fun _ => next D2 hR2, fun h => absurd rfl h⟩
theorem lc_wet (hR : Rel b D) (hb : 0 ≤ b ∧ b ≤ 600) (hL : L ≤ 2560) (hi : 0 ≤ i ∧ i + 5 ≤ L) (next : ∀ D', Rel (b + 1) D' → Sx 189 848 [vR 1000, vR 0, vR 69, vI i] [] (EE L, D') u Q) : Sx 189 497 [vR 1000, vR 0, vR 69, vI i] [] (EE L, D) u Q := by
  refine go_189_497 ?_
  simp only [sg_189_497, cl_I, cl_L, cl_R, e_aload_n, e_goto, e_iadd, e_iaload, e_iconst, e_if_eq, e_iload_n, e_nil, l_ld3, l_ldA0, l_ldA1, EE_n, EE_s0, EE_s1000, EE_s69, lc_lt, lc_le, lc_gt, lc_ge, lc_eq, true_and, and_true, List.length_cons, List.length_nil, ab_ia, Nat.reduceAdd, Nat.reduceLeDiff, Nat.reduceEqDiff, Nat.reduceLT, Int.reduceLT, Int.reduceLE, Int.reduceEq, Int.reduceNeg, true_or, or_true, false_or, or_false, not_false_eq_true, not_true_eq_false, false_implies, true_implies, forall_const, implies_true, Nat.zero_le, Nat.le_refl]
  refine ⟨⟨by omega, by omega⟩, by omega, ⟨by omega, by omega⟩, by omega, ⟨by omega, by omega⟩, by omega, fun h => ?_, fun h => ?_⟩
  · refine go_189_516 ?_
    simp only [sg_189_516, cl_I, cl_L, cl_R, e_aload_n, e_cv4, e_goto, e_iadd, e_iaload, e_iconst, e_if_eq, e_iload_n, e_nil, fl_0, fl_I, fl_L, fl_R, l_ld3, l_ldA0, l_ldA2, rk_2, EE_n, EE_s0, EE_s1000, EE_s69, lc_lt, lc_le, lc_gt, lc_ge, lc_eq, true_and, and_true, List.length_cons, List.length_nil, ab_ia, Nat.reduceAdd, Nat.reduceLeDiff, Nat.reduceEqDiff, Nat.reduceLT, Int.reduceLT, Int.reduceLE, Int.reduceEq, Int.reduceNeg, true_or, or_true, false_or, or_false, not_false_eq_true, not_true_eq_false, false_implies, true_implies, forall_const, implies_true, Nat.zero_le, Nat.le_refl]
    refine BoL.use (b_wet hR) (fun r D1 e q => ?_)
    rw [e]
    refine ⟨⟨by omega, by omega⟩, by omega, ⟨by omega, by omega⟩, by omega, ⟨by omega, by omega⟩, by omega, fun h2 => ?_, fun h2 => ?_⟩
    · refine go_189_537 ?_
      simp only [sg_189_537, cl_I, cl_L, cl_R, e_cv4, e_iconst, e_if_eq, e_iret1, e_lcmp, e_nil, fl_0, fl_I, fl_L, fl_R, rk_2, EE_n, EE_s0, EE_s1000, EE_s69, lc_lt, lc_le, lc_gt, lc_ge, lc_eq, true_and, and_true, List.length_cons, List.length_nil, ab_ia, Nat.reduceAdd, Nat.reduceLeDiff, Nat.reduceEqDiff, Nat.reduceLT, Int.reduceLT, Int.reduceLE, Int.reduceEq, Int.reduceNeg, true_or, or_true, false_or, or_false, not_false_eq_true, not_true_eq_false, false_implies, true_implies, forall_const, implies_true, Nat.zero_le, Nat.le_refl]
      refine q.mono ?_
      rintro r' D2 ⟨rfl, hR2, _⟩
      exact ⟨fun _ => next D2 hR2, fun h => absurd rfl h⟩
    · exact absurd h h2
  · refine go_189_517 ?_
    simp only [sg_189_517, cl_I, cl_L, cl_R, e_aload_n, e_cv4, e_goto, e_iadd, e_iaload, e_iconst, e_if_eq, e_iload_n, e_nil, fl_0, fl_I, fl_L, fl_R, l_ld3, l_ldA0, l_ldA2, rk_2, EE_n, EE_s0, EE_s1000, EE_s69, lc_lt, lc_le, lc_gt, lc_ge, lc_eq, true_and, and_true, List.length_cons, List.length_nil, ab_ia, Nat.reduceAdd, Nat.reduceLeDiff, Nat.reduceEqDiff, Nat.reduceLT, Int.reduceLT, Int.reduceLE, Int.reduceEq, Int.reduceNeg, true_or, or_true, false_or, or_false, not_false_eq_true, not_true_eq_false, false_implies, true_implies, forall_const, implies_true, Nat.zero_le, Nat.le_refl]
    refine BoL.use (b_wet hR) (fun r D1 e q => ?_)
    rw [e]
    refine ⟨⟨by omega, by omega⟩, by omega, ⟨by omega, by omega⟩, by omega, ⟨by omega, by omega⟩, by omega, fun h2 => ?_, fun h2 => ?_⟩
    · exact absurd h2 h
    · refine go_189_538 ?_
      simp only [sg_189_538, cl_I, cl_L, cl_R, e_cv4, e_iconst, e_if_eq, e_iret1, e_lcmp, e_nil, fl_0, fl_I, fl_L, fl_R, rk_2, EE_n, EE_s0, EE_s1000, EE_s69, lc_lt, lc_le, lc_gt, lc_ge, lc_eq, true_and, and_true, List.length_cons, List.length_nil, ab_ia, Nat.reduceAdd, Nat.reduceLeDiff, Nat.reduceEqDiff, Nat.reduceLT, Int.reduceLT, Int.reduceLE, Int.reduceEq, Int.reduceNeg, true_or, or_true, false_or, or_false, not_false_eq_true, not_true_eq_false, false_implies, true_implies, forall_const, implies_true, Nat.zero_le, Nat.le_refl]
      refine q.mono ?_
      rintro r' D2 ⟨rfl, hR2, _⟩
      exact ⟨fun _ => next D2 hR2, fun h => absurd rfl h⟩
theorem lc_dry (hR : Rel b D) (hb : 0 ≤ b ∧ b ≤ 600) (hL : L ≤ 2560) (hi : 0 ≤ i ∧ i + 5 ≤ L) (next : ∀ D', Rel (b + 1) D' → Sx 189 848 [vR 1000, vR 0, vR 69, vI i] [] (EE L, D') u Q) : Sx 189 543 [vR 1000, vR 0, vR 69, vI i] [] (EE L, D) u Q := by
  refine go_189_543 ?_
  simp only [sg_189_543, cl_I, cl_L, cl_R, e_aload_n, e_cv3, e_iadd, e_iaload, e_icmp_eq, e_iconst, e_iload_n, e_iret1, e_nil, fl_0, fl_I, fl_L, fl_R, l_ld3, l_ldA0, l_ldA1, l_ldA2, rk_1, EE_n, EE_s0, EE_s1000, EE_s69, lc_lt, lc_le, lc_gt, lc_ge, lc_eq, true_and, and_true, List.length_cons, List.length_nil, ab_ia, Nat.reduceAdd, Nat.reduceLeDiff, Nat.reduceEqDiff, Nat.reduceLT, Int.reduceLT, Int.reduceLE, Int.reduceEq, Int.reduceNeg, true_or, or_true, false_or, or_false, not_false_eq_true, not_true_eq_false, false_implies, true_implies, forall_const, implies_true, Nat.zero_le, Nat.le_refl]
  refine ⟨⟨by omega, by omega⟩, by omega, ⟨by omega, by omega⟩, by omega, ?_⟩
  refine Bo.use (b_dry hR) (fun r D1 e q => ?_)
  rw [e]
  refine ⟨⟨by omega, by omega⟩, by omega, ⟨by omega, by omega⟩, by omega, q.mono ?_⟩
  rintro r' D2 ⟨rfl, hR2, _⟩
  exact ⟨fun _ => next D2 hR2, fun h => absurd rfl h⟩
theorem lc_ring (hR : Rel b D) (hb : 0 ≤ b ∧ b ≤ 600) (hL : L ≤ 2560) (hi : 0 ≤ i ∧ i + 5 ≤ L) (next : ∀ D', Rel (b + 1) D' → Sx 189 848 [vR 1000, vR 0, vR 69, vI i] [] (EE L, D') u Q) : Sx 189 570 [vR 1000, vR 0, vR 69, vI i] [] (EE L, D) u Q := by
  refine go_189_570 ?_
  simp only [sg_189_570, cl_I, cl_L, cl_R, e_aload_n, e_cv3, e_iadd, e_iaload, e_icmp_eq, e_iconst, e_iload_n, e_iret1, e_nil, fl_0, fl_I, fl_L, fl_R, l_ld3, l_ldA0, l_ldA1, l_ldA2, rk_1, EE_n, EE_s0, EE_s1000, EE_s69, lc_lt, lc_le, lc_gt, lc_ge, lc_eq, true_and, and_true, List.length_cons, List.length_nil, ab_ia, Nat.reduceAdd, Nat.reduceLeDiff, Nat.reduceEqDiff, Nat.reduceLT, Int.reduceLT, Int.reduceLE, Int.reduceEq, Int.reduceNeg, true_or, or_true, false_or, or_false, not_false_eq_true, not_true_eq_false, false_implies, true_implies, forall_const, implies_true, Nat.zero_le, Nat.le_refl]
  refine ⟨⟨by omega, by omega⟩, by omega, ⟨by omega, by omega⟩, by omega, ?_⟩
  refine Bo.use (b_ring hR) (fun r D1 e q => ?_)
  rw [e]
  refine ⟨⟨by omega, by omega⟩, by omega, ⟨by omega, by omega⟩, by omega, q.mono ?_⟩
  rintro r' D2 ⟨rfl, hR2, _⟩
  exact ⟨fun _ => next D2 hR2, fun h => absurd rfl h⟩
theorem lc_match (hR : Rel b D) (hb : 0 ≤ b ∧ b ≤ 600) (hL : L ≤ 2560) (hi : 0 ≤ i ∧ i + 5 ≤ L) (next : ∀ D', Rel (b + 1) D' → Sx 189 848 [vR 1000, vR 0, vR 69, vI i] [] (EE L, D') u Q) : Sx 189 597 [vR 1000, vR 0, vR 69, vI i] [] (EE L, D) u Q := by
  refine go_189_597 ?_
  simp only [sg_189_597, cl_I, cl_L, cl_R, e_aload_n, e_cv4, e_iadd, e_iaload, e_icmp_eq, e_iconst, e_iload_n, e_iret1, e_nil, fl_0, fl_I, fl_L, fl_R, l_ld3, l_ldA0, l_ldA1, l_ldA2, rk_1, EE_n, EE_s0, EE_s1000, EE_s69, lc_lt, lc_le, lc_gt, lc_ge, lc_eq, true_and, and_true, List.length_cons, List.length_nil, ab_ia, Nat.reduceAdd, Nat.reduceLeDiff, Nat.reduceEqDiff, Nat.reduceLT, Int.reduceLT, Int.reduceLE, Int.reduceEq, Int.reduceNeg, true_or, or_true, false_or, or_false, not_false_eq_true, not_true_eq_false, false_implies, true_implies, forall_const, implies_true, Nat.zero_le, Nat.le_refl]
  refine ⟨⟨by omega, by omega⟩, by omega, ⟨by omega, by omega⟩, by omega, ⟨by omega, by omega⟩, by omega, ?_⟩
  refine Bo.use (b_match hR) (fun r D1 e q => ?_)
  rw [e]
  refine ⟨⟨by omega, by omega⟩, by omega, ⟨by omega, by omega⟩, by omega, ⟨by omega, by omega⟩, by omega, q.mono ?_⟩
  rintro r' D2 ⟨rfl, hR2, _⟩
  exact ⟨fun _ => next D2 hR2, fun h => absurd rfl h⟩
theorem lc_dated (hR : Rel b D) (hb : 0 ≤ b ∧ b ≤ 600) (hL : L ≤ 2560) (hi : 0 ≤ i ∧ i + 5 ≤ L) (next : ∀ D', Rel (b + 1) D' → Sx 189 848 [vR 1000, vR 0, vR 69, vI i] [] (EE L, D') u Q) : Sx 189 634 [vR 1000, vR 0, vR 69, vI i] [] (EE L, D) u Q := by
  refine go_189_634 ?_
  simp only [sg_189_634, cl_I, cl_L, cl_R, e_aload_n, e_cv3, e_iadd, e_iaload, e_icmp_eq, e_iconst, e_iload_n, e_iret1, e_nil, fl_0, fl_I, fl_L, fl_R, l_ld3, l_ldA0, l_ldA1, l_ldA2, rk_1, EE_n, EE_s0, EE_s1000, EE_s69, lc_lt, lc_le, lc_gt, lc_ge, lc_eq, true_and, and_true, List.length_cons, List.length_nil, ab_ia, Nat.reduceAdd, Nat.reduceLeDiff, Nat.reduceEqDiff, Nat.reduceLT, Int.reduceLT, Int.reduceLE, Int.reduceEq, Int.reduceNeg, true_or, or_true, false_or, or_false, not_false_eq_true, not_true_eq_false, false_implies, true_implies, forall_const, implies_true, Nat.zero_le, Nat.le_refl]
  refine ⟨⟨by omega, by omega⟩, by omega, ⟨by omega, by omega⟩, by omega, ?_⟩
  refine Bo.use (b_dated hR) (fun r D1 e q => ?_)
  rw [e]
  refine ⟨⟨by omega, by omega⟩, by omega, ⟨by omega, by omega⟩, by omega, q.mono ?_⟩
  rintro r' D2 ⟨rfl, hR2, _⟩
  exact ⟨fun _ => next D2 hR2, fun h => absurd rfl h⟩
theorem lc_sure (hR : Rel b D) (hb : 0 ≤ b ∧ b ≤ 600) (hL : L ≤ 2560) (hi : 0 ≤ i ∧ i + 5 ≤ L) (next : ∀ D', Rel (b + 1) D' → Sx 189 848 [vR 1000, vR 0, vR 69, vI i] [] (EE L, D') u Q) : Sx 189 661 [vR 1000, vR 0, vR 69, vI i] [] (EE L, D) u Q := by
  refine go_189_661 ?_
  simp only [sg_189_661, cl_I, cl_L, cl_R, e_aload_n, e_cv3, e_iadd, e_iaload, e_icmp_eq, e_iconst, e_iload_n, e_iret1, e_nil, fl_0, fl_I, fl_L, fl_R, l_ld3, l_ldA0, l_ldA1, l_ldA2, rk_1, EE_n, EE_s0, EE_s1000, EE_s69, lc_lt, lc_le, lc_gt, lc_ge, lc_eq, true_and, and_true, List.length_cons, List.length_nil, ab_ia, Nat.reduceAdd, Nat.reduceLeDiff, Nat.reduceEqDiff, Nat.reduceLT, Int.reduceLT, Int.reduceLE, Int.reduceEq, Int.reduceNeg, true_or, or_true, false_or, or_false, not_false_eq_true, not_true_eq_false, false_implies, true_implies, forall_const, implies_true, Nat.zero_le, Nat.le_refl]
  refine ⟨⟨by omega, by omega⟩, by omega, ⟨by omega, by omega⟩, by omega, ?_⟩
  refine Bo.use (b_sure hR) (fun r D1 e q => ?_)
  rw [e]
  refine ⟨⟨by omega, by omega⟩, by omega, ⟨by omega, by omega⟩, by omega, q.mono ?_⟩
  rintro r' D2 ⟨rfl, hR2, _⟩
  exact ⟨fun _ => next D2 hR2, fun h => absurd rfl h⟩
theorem lc_find (hR : Rel b D) (hb : 0 ≤ b ∧ b ≤ 600) (hL : L ≤ 2560) (hi : 0 ≤ i ∧ i + 5 ≤ L) (next : ∀ D', Rel (b + 1) D' → Sx 189 848 [vR 1000, vR 0, vR 69, vI i] [] (EE L, D') u Q) : Sx 189 688 [vR 1000, vR 0, vR 69, vI i] [] (EE L, D) u Q := by
  refine go_189_688 ?_
  simp only [sg_189_688, cl_I, cl_L, cl_R, e_aload_n, e_cv4, e_iadd, e_iaload, e_icmp_eq, e_iconst, e_iload_n, e_iret1, e_nil, fl_0, fl_I, fl_L, fl_R, l_ld3, l_ldA0, l_ldA1, l_ldA2, rk_1, EE_n, EE_s0, EE_s1000, EE_s69, lc_lt, lc_le, lc_gt, lc_ge, lc_eq, true_and, and_true, List.length_cons, List.length_nil, ab_ia, Nat.reduceAdd, Nat.reduceLeDiff, Nat.reduceEqDiff, Nat.reduceLT, Int.reduceLT, Int.reduceLE, Int.reduceEq, Int.reduceNeg, true_or, or_true, false_or, or_false, not_false_eq_true, not_true_eq_false, false_implies, true_implies, forall_const, implies_true, Nat.zero_le, Nat.le_refl]
  refine ⟨⟨by omega, by omega⟩, by omega, ⟨by omega, by omega⟩, by omega, ⟨by omega, by omega⟩, by omega, ?_⟩
  refine Bo.use (b_find hR) (fun r D1 e q => ?_)
  rw [e]
  refine ⟨⟨by omega, by omega⟩, by omega, ⟨by omega, by omega⟩, by omega, ⟨by omega, by omega⟩, by omega, q.mono ?_⟩
  rintro r' D2 ⟨rfl, hR2, _⟩
  exact ⟨fun _ => next D2 hR2, fun h => absurd rfl h⟩
theorem lc_unfind (hR : Rel b D) (hb : 0 ≤ b ∧ b ≤ 600) (hL : L ≤ 2560) (hi : 0 ≤ i ∧ i + 5 ≤ L) (next : ∀ D', Rel (b + 1) D' → Sx 189 848 [vR 1000, vR 0, vR 69, vI i] [] (EE L, D') u Q) : Sx 189 725 [vR 1000, vR 0, vR 69, vI i] [] (EE L, D) u Q := by
  refine go_189_725 ?_
  simp only [sg_189_725, cl_I, cl_L, cl_R, e_aload_n, e_cv1, e_icmp_eq, e_iconst, e_iret1, e_nil, fl_0, fl_I, fl_L, fl_R, l_ldA1, l_ldA2, rk_1, EE_n, EE_s0, EE_s1000, EE_s69, lc_lt, lc_le, lc_gt, lc_ge, lc_eq, true_and, and_true, List.length_cons, List.length_nil, ab_ia, Nat.reduceAdd, Nat.reduceLeDiff, Nat.reduceEqDiff, Nat.reduceLT, Int.reduceLT, Int.reduceLE, Int.reduceEq, Int.reduceNeg, true_or, or_true, false_or, or_false, not_false_eq_true, not_true_eq_false, false_implies, true_implies, forall_const, implies_true, Nat.zero_le, Nat.le_refl]
  refine Bo.use (b_unfind hR) (fun r D1 e q => ?_)
  refine q.mono ?_
  rintro r' D2 ⟨rfl, hR2, _⟩
  exact ⟨fun _ => next D2 hR2, fun h => absurd rfl h⟩
theorem lc_group (hR : Rel b D) (hb : 0 ≤ b ∧ b ≤ 600) (hL : L ≤ 2560) (hi : 0 ≤ i ∧ i + 5 ≤ L) (next : ∀ D', Rel (b + 1) D' → Sx 189 848 [vR 1000, vR 0, vR 69, vI i] [] (EE L, D') u Q) : Sx 189 732 [vR 1000, vR 0, vR 69, vI i] [] (EE L, D) u Q := by
  refine go_189_732 ?_
  simp only [sg_189_732, cl_I, cl_L, cl_R, e_aload_n, e_cv2, e_iadd, e_iaload, e_icmp_eq, e_iconst, e_iload_n, e_iret1, e_nil, fl_0, fl_I, fl_L, fl_R, l_ld3, l_ldA0, l_ldA1, l_ldA2, rk_1, EE_n, EE_s0, EE_s1000, EE_s69, lc_lt, lc_le, lc_gt, lc_ge, lc_eq, true_and, and_true, List.length_cons, List.length_nil, ab_ia, Nat.reduceAdd, Nat.reduceLeDiff, Nat.reduceEqDiff, Nat.reduceLT, Int.reduceLT, Int.reduceLE, Int.reduceEq, Int.reduceNeg, true_or, or_true, false_or, or_false, not_false_eq_true, not_true_eq_false, false_implies, true_implies, forall_const, implies_true, Nat.zero_le, Nat.le_refl]
  refine ⟨⟨by omega, by omega⟩, by omega, ?_⟩
  refine Bo.use (b_group hR) (fun r D1 e q => ?_)
  rw [e]
  refine ⟨⟨by omega, by omega⟩, by omega, q.mono ?_⟩
  rintro r' D2 ⟨rfl, hR2, _⟩
  exact ⟨fun _ => next D2 hR2, fun h => absurd rfl h⟩
theorem lc_houses (hR : Rel b D) (hb : 0 ≤ b ∧ b ≤ 600) (hL : L ≤ 2560) (hi : 0 ≤ i ∧ i + 5 ≤ L) (next : ∀ D', Rel (b + 1) D' → Sx 189 848 [vR 1000, vR 0, vR 69, vI i] [] (EE L, D') u Q) : Sx 189 749 [vR 1000, vR 0, vR 69, vI i] [] (EE L, D) u Q := by
  refine go_189_749 ?_
  simp only [sg_189_749, cl_I, cl_L, cl_R, e_aload_n, e_cv1, e_icmp_eq, e_iconst, e_iret1, e_nil, fl_0, fl_I, fl_L, fl_R, l_ldA1, l_ldA2, rk_1, EE_n, EE_s0, EE_s1000, EE_s69, lc_lt, lc_le, lc_gt, lc_ge, lc_eq, true_and, and_true, List.length_cons, List.length_nil, ab_ia, Nat.reduceAdd, Nat.reduceLeDiff, Nat.reduceEqDiff, Nat.reduceLT, Int.reduceLT, Int.reduceLE, Int.reduceEq, Int.reduceNeg, true_or, or_true, false_or, or_false, not_false_eq_true, not_true_eq_false, false_implies, true_implies, forall_const, implies_true, Nat.zero_le, Nat.le_refl]
  refine Bo.use (b_houses hR) (fun r D1 e q => ?_)
  refine q.mono ?_
  rintro r' D2 ⟨rfl, hR2, _⟩
  exact ⟨fun _ => next D2 hR2, fun h => absurd rfl h⟩
theorem lc_later (hR : Rel b D) (hb : 0 ≤ b ∧ b ≤ 600) (hL : L ≤ 2560) (hi : 0 ≤ i ∧ i + 5 ≤ L) (next : ∀ D', Rel (b + 1) D' → Sx 189 848 [vR 1000, vR 0, vR 69, vI i] [] (EE L, D') u Q) : Sx 189 756 [vR 1000, vR 0, vR 69, vI i] [] (EE L, D) u Q := by
  refine go_189_756 ?_
  simp only [sg_189_756, cl_I, cl_L, cl_R, e_aload_n, e_cv2, e_iadd, e_iaload, e_icmp_eq, e_iconst, e_iload_n, e_iret1, e_nil, fl_0, fl_I, fl_L, fl_R, l_ld3, l_ldA0, l_ldA1, l_ldA2, rk_1, EE_n, EE_s0, EE_s1000, EE_s69, lc_lt, lc_le, lc_gt, lc_ge, lc_eq, true_and, and_true, List.length_cons, List.length_nil, ab_ia, Nat.reduceAdd, Nat.reduceLeDiff, Nat.reduceEqDiff, Nat.reduceLT, Int.reduceLT, Int.reduceLE, Int.reduceEq, Int.reduceNeg, true_or, or_true, false_or, or_false, not_false_eq_true, not_true_eq_false, false_implies, true_implies, forall_const, implies_true, Nat.zero_le, Nat.le_refl]
  refine ⟨⟨by omega, by omega⟩, by omega, ?_⟩
  refine Bo.use (b_later hR) (fun r D1 e q => ?_)
  rw [e]
  refine ⟨⟨by omega, by omega⟩, by omega, q.mono ?_⟩
  rintro r' D2 ⟨rfl, hR2, _⟩
  exact ⟨fun _ => next D2 hR2, fun h => absurd rfl h⟩
theorem lc_grew (hR : Rel b D) (hb : 0 ≤ b ∧ b ≤ 600) (hL : L ≤ 2560) (hi : 0 ≤ i ∧ i + 5 ≤ L) (next : ∀ D', Rel (b + 1) D' → Sx 189 848 [vR 1000, vR 0, vR 69, vI i] [] (EE L, D') u Q) : Sx 189 773 [vR 1000, vR 0, vR 69, vI i] [] (EE L, D) u Q := by
  refine go_189_773 ?_
  simp only [sg_189_773, cl_I, cl_L, cl_R, e_aload_n, e_cv2, e_iadd, e_iaload, e_icmp_eq, e_iconst, e_iload_n, e_iret1, e_nil, fl_0, fl_I, fl_L, fl_R, l_ld3, l_ldA0, l_ldA1, l_ldA2, rk_1, EE_n, EE_s0, EE_s1000, EE_s69, lc_lt, lc_le, lc_gt, lc_ge, lc_eq, true_and, and_true, List.length_cons, List.length_nil, ab_ia, Nat.reduceAdd, Nat.reduceLeDiff, Nat.reduceEqDiff, Nat.reduceLT, Int.reduceLT, Int.reduceLE, Int.reduceEq, Int.reduceNeg, true_or, or_true, false_or, or_false, not_false_eq_true, not_true_eq_false, false_implies, true_implies, forall_const, implies_true, Nat.zero_le, Nat.le_refl]
  refine ⟨⟨by omega, by omega⟩, by omega, ?_⟩
  refine Bo.use (b_grew hR) (fun r D1 e q => ?_)
  rw [e]
  refine ⟨⟨by omega, by omega⟩, by omega, q.mono ?_⟩
  rintro r' D2 ⟨rfl, hR2, _⟩
  exact ⟨fun _ => next D2 hR2, fun h => absurd rfl h⟩
theorem lc_dig (hR : Rel b D) (hb : 0 ≤ b ∧ b ≤ 600) (hL : L ≤ 2560) (hi : 0 ≤ i ∧ i + 5 ≤ L) (next : ∀ D', Rel (b + 1) D' → Sx 189 848 [vR 1000, vR 0, vR 69, vI i] [] (EE L, D') u Q) : Sx 189 790 [vR 1000, vR 0, vR 69, vI i] [] (EE L, D) u Q := by
  refine go_189_790 ?_
  simp only [sg_189_790, cl_I, cl_L, cl_R, e_aload_n, e_cv1, e_icmp_eq, e_iconst, e_iret1, e_nil, fl_0, fl_I, fl_L, fl_R, l_ldA1, l_ldA2, rk_1, EE_n, EE_s0, EE_s1000, EE_s69, lc_lt, lc_le, lc_gt, lc_ge, lc_eq, true_and, and_true, List.length_cons, List.length_nil, ab_ia, Nat.reduceAdd, Nat.reduceLeDiff, Nat.reduceEqDiff, Nat.reduceLT, Int.reduceLT, Int.reduceLE, Int.reduceEq, Int.reduceNeg, true_or, or_true, false_or, or_false, not_false_eq_true, not_true_eq_false, false_implies, true_implies, forall_const, implies_true, Nat.zero_le, Nat.le_refl]
  refine Bo.use (b_dig hR) (fun r D1 e q => ?_)
  refine q.mono ?_
  rintro r' D2 ⟨rfl, hR2, _⟩
  exact ⟨fun _ => next D2 hR2, fun h => absurd rfl h⟩
theorem lc_keep (hR : Rel b D) (hb : 0 ≤ b ∧ b ≤ 600) (hL : L ≤ 2560) (hi : 0 ≤ i ∧ i + 5 ≤ L) (next : ∀ D', Rel (b + 1) D' → Sx 189 848 [vR 1000, vR 0, vR 69, vI i] [] (EE L, D') u Q) : Sx 189 797 [vR 1000, vR 0, vR 69, vI i] [] (EE L, D) u Q := by
  refine go_189_797 ?_
  simp only [sg_189_797, cl_I, cl_L, cl_R, e_aload_n, e_cv2, e_iadd, e_iaload, e_icmp_eq, e_iconst, e_iload_n, e_iret1, e_nil, fl_0, fl_I, fl_L, fl_R, l_ld3, l_ldA0, l_ldA1, l_ldA2, rk_1, EE_n, EE_s0, EE_s1000, EE_s69, lc_lt, lc_le, lc_gt, lc_ge, lc_eq, true_and, and_true, List.length_cons, List.length_nil, ab_ia, Nat.reduceAdd, Nat.reduceLeDiff, Nat.reduceEqDiff, Nat.reduceLT, Int.reduceLT, Int.reduceLE, Int.reduceEq, Int.reduceNeg, true_or, or_true, false_or, or_false, not_false_eq_true, not_true_eq_false, false_implies, true_implies, forall_const, implies_true, Nat.zero_le, Nat.le_refl]
  refine ⟨⟨by omega, by omega⟩, by omega, ?_⟩
  refine Bo.use (b_keep hR) (fun r D1 e q => ?_)
  rw [e]
  refine ⟨⟨by omega, by omega⟩, by omega, q.mono ?_⟩
  rintro r' D2 ⟨rfl, hR2, _⟩
  exact ⟨fun _ => next D2 hR2, fun h => absurd rfl h⟩
theorem lc_again (hR : Rel b D) (hb : 0 ≤ b ∧ b ≤ 600) (hL : L ≤ 2560) (hi : 0 ≤ i ∧ i + 5 ≤ L) (next : ∀ D', Rel (b + 1) D' → Sx 189 848 [vR 1000, vR 0, vR 69, vI i] [] (EE L, D') u Q) : Sx 189 814 [vR 1000, vR 0, vR 69, vI i] [] (EE L, D) u Q := by
  refine go_189_814 ?_
  simp only [sg_189_814, cl_I, cl_L, cl_R, e_aload_n, e_cv2, e_iadd, e_iaload, e_icmp_eq, e_iconst, e_iload_n, e_iret1, e_nil, fl_0, fl_I, fl_L, fl_R, l_ld3, l_ldA0, l_ldA1, l_ldA2, rk_1, EE_n, EE_s0, EE_s1000, EE_s69, lc_lt, lc_le, lc_gt, lc_ge, lc_eq, true_and, and_true, List.length_cons, List.length_nil, ab_ia, Nat.reduceAdd, Nat.reduceLeDiff, Nat.reduceEqDiff, Nat.reduceLT, Int.reduceLT, Int.reduceLE, Int.reduceEq, Int.reduceNeg, true_or, or_true, false_or, or_false, not_false_eq_true, not_true_eq_false, false_implies, true_implies, forall_const, implies_true, Nat.zero_le, Nat.le_refl]
  refine ⟨⟨by omega, by omega⟩, by omega, ?_⟩
  refine Bo.use (b_again hR) (fun r D1 e q => ?_)
  rw [e]
  refine ⟨⟨by omega, by omega⟩, by omega, q.mono ?_⟩
  rintro r' D2 ⟨rfl, hR2, _⟩
  exact ⟨fun _ => next D2 hR2, fun h => absurd rfl h⟩
theorem lc_count (hR : Rel b D) (hb : 0 ≤ b ∧ b ≤ 600) (hL : L ≤ 2560) (hi : 0 ≤ i ∧ i + 5 ≤ L) (next : ∀ D', Rel (b + 1) D' → Sx 189 848 [vR 1000, vR 0, vR 69, vI i] [] (EE L, D') u Q) : Sx 189 831 [vR 1000, vR 0, vR 69, vI i] [] (EE L, D) u Q := by
  refine go_189_831 ?_
  simp only [sg_189_831, cl_I, cl_L, cl_R, e_aload_n, e_cv2, e_iadd, e_iaload, e_icmp_eq, e_iconst, e_iload_n, e_iret1, e_nil, fl_0, fl_I, fl_L, fl_R, l_ld3, l_ldA0, l_ldA1, l_ldA2, rk_1, EE_n, EE_s0, EE_s1000, EE_s69, lc_lt, lc_le, lc_gt, lc_ge, lc_eq, true_and, and_true, List.length_cons, List.length_nil, ab_ia, Nat.reduceAdd, Nat.reduceLeDiff, Nat.reduceEqDiff, Nat.reduceLT, Int.reduceLT, Int.reduceLE, Int.reduceEq, Int.reduceNeg, true_or, or_true, false_or, or_false, not_false_eq_true, not_true_eq_false, false_implies, true_implies, forall_const, implies_true, Nat.zero_le, Nat.le_refl]
  refine ⟨⟨by omega, by omega⟩, by omega, ?_⟩
  refine Bo.use (b_count hR) (fun r D1 e q => ?_)
  rw [e]
  refine ⟨⟨by omega, by omega⟩, by omega, q.mono ?_⟩
  rintro r' D2 ⟨rfl, hR2, _⟩
  exact ⟨fun _ => next D2 hR2, fun h => absurd rfl h⟩
theorem Rel_up (hR : Rel b D) : Rel (b + 1) D := by
  obtain ⟨G, V, W, K, T, len, rn, rf, w, fn, fc, fy, hS, hP, hM⟩ := hR
  exact ⟨G, V, W, K, T, len, rn, rf, w, fn, fc, fy, hS.up, hP, hM⟩
theorem law_loop (hL : L ≤ 2560) (hq : ∀ D', Q (some (.inl 1)) (EE L, D')) : ∀ (k : Nat) (b : Int) (D : ab_D), 0 ≤ b → b + k = 600 → Rel b D → Sx 189 10 [vR 1000, vR 0, vR 69, vI (5 * b)] [] (EE L, D) u Q := by
  intro k
  induction k with
  | zero =>
    intro b D h0 hk hR
    refine go_189_10 ?_
    simp only [sg_189_10, cl_I, cl_L, cl_R, e_alen, e_aload_n, e_bipush, e_iaload, e_iand, e_icmp_gt, e_iconst, e_iload_n, e_isub, e_nil, e_tab, e_tab0, e_tab1, l_ld3, l_ldA0, EE_n, EE_s0, EE_s1000, EE_s69, lc_lt, lc_le, lc_gt, lc_ge, lc_eq, true_and, and_true, List.length_cons, List.length_nil, ab_ia, Nat.reduceAdd, Nat.reduceLeDiff, Nat.reduceEqDiff, Nat.reduceLT, Int.reduceLT, Int.reduceLE, Int.reduceEq, Int.reduceNeg, true_or, or_true, false_or, or_false, not_false_eq_true, not_true_eq_false, false_implies, true_implies, forall_const, implies_true, Nat.zero_le, Nat.le_refl]
    refine ⟨by omega, ⟨by omega, by omega⟩, fun _ => ?_, fun h => absurd h (by omega)⟩
    refine go_189_850 ?_
    simp only [sg_189_850, cl_I, cl_L, cl_R, e_iconst, e_iret1, e_nil, EE_n, EE_s0, EE_s1000, EE_s69, lc_lt, lc_le, lc_gt, lc_ge, lc_eq, true_and, and_true, List.length_cons, List.length_nil, ab_ia, Nat.reduceAdd, Nat.reduceLeDiff, Nat.reduceEqDiff, Nat.reduceLT, Int.reduceLT, Int.reduceLE, Int.reduceEq, Int.reduceNeg, true_or, or_true, false_or, or_false, not_false_eq_true, not_true_eq_false, false_implies, true_implies, forall_const, implies_true, Nat.zero_le, Nat.le_refl]
    exact hq D
  | succ k ih =>
    intro b D h0 hk hR
    have hb : 0 ≤ b ∧ b ≤ 600 := by omega
    refine go_189_10 ?_
    simp only [sg_189_10, cl_I, cl_L, cl_R, e_alen, e_aload_n, e_bipush, e_iaload, e_iand, e_icmp_gt, e_iconst, e_iload_n, e_isub, e_nil, e_tab, e_tab0, e_tab1, l_ld3, l_ldA0, EE_n, EE_s0, EE_s1000, EE_s69, lc_lt, lc_le, lc_gt, lc_ge, lc_eq, true_and, and_true, List.length_cons, List.length_nil, ab_ia, Nat.reduceAdd, Nat.reduceLeDiff, Nat.reduceEqDiff, Nat.reduceLT, Int.reduceLT, Int.reduceLE, Int.reduceEq, Int.reduceNeg, true_or, or_true, false_or, or_false, not_false_eq_true, not_true_eq_false, false_implies, true_implies, forall_const, implies_true, Nat.zero_le, Nat.le_refl]
    refine ⟨by omega, ⟨by omega, by omega⟩, fun _ => ?_, fun h => ?_⟩
    · refine go_189_850 ?_
      simp only [sg_189_850, cl_I, cl_L, cl_R, e_iconst, e_iret1, e_nil, EE_n, EE_s0, EE_s1000, EE_s69, lc_lt, lc_le, lc_gt, lc_ge, lc_eq, true_and, and_true, List.length_cons, List.length_nil, ab_ia, Nat.reduceAdd, Nat.reduceLeDiff, Nat.reduceEqDiff, Nat.reduceLT, Int.reduceLT, Int.reduceLE, Int.reduceEq, Int.reduceNeg, true_or, or_true, false_or, or_false, not_false_eq_true, not_true_eq_false, false_implies, true_implies, forall_const, implies_true, Nat.zero_le, Nat.le_refl]
      exact hq D
    · have hi : 0 ≤ 5 * b ∧ 5 * b + 5 ≤ L := by omega
      have next : ∀ D', Rel (b + 1) D' → Sx 189 848 [vR 1000, vR 0, vR 69, vI (5 * b)] [] (EE L, D') u Q := by
        intro D' hR'
        refine go_189_848 ?_
        simp only [sg_189_848, cl_I, cl_L, cl_R, e_goto, e_iinc, e_nil, l_inc3, EE_n, EE_s0, EE_s1000, EE_s69, lc_lt, lc_le, lc_gt, lc_ge, lc_eq, true_and, and_true, List.length_cons, List.length_nil, ab_ia, Nat.reduceAdd, Nat.reduceLeDiff, Nat.reduceEqDiff, Nat.reduceLT, Int.reduceLT, Int.reduceLE, Int.reduceEq, Int.reduceNeg, true_or, or_true, false_or, or_false, not_false_eq_true, not_true_eq_false, false_implies, true_implies, forall_const, implies_true, Nat.zero_le, Nat.le_refl]
        refine ⟨⟨by omega, by omega⟩, ?_⟩
        rw [show 5 * b + 5 = 5 * (b + 1) by omega]
        exact ih (b + 1) D' (by omega) (by omega) hR'
      refine ⟨by omega, fun _ => ?_, fun _ => lc_write hR hb hL hi next, fun _ => lc_wipe hR hb hL hi next, fun _ => lc_fault hR hb hL hi next, fun _ => lc_lake hR hb hL hi next, fun _ => lc_about hR hb hL hi next, fun _ => lc_clay hR hb hL hi next, fun _ => lc_pole hR hb hL hi next, fun _ => lc_told hR hb hL hi next, fun _ => lc_house hR hb hL hi next, fun _ => lc_home hR hb hL hi next, fun _ => lc_year hR hb hL hi next, fun _ => lc_down hR hb hL hi next, fun _ => lc_off hR hb hL hi next, fun _ => lc_takes hR hb hL hi next, fun _ => lc_mended hR hb hL hi next, fun _ => lc_bestRule hR hb hL hi next, fun _ => lc_build hR hb hL hi next, fun _ => lc_rise hR hb hL hi next, fun _ => lc_calm hR hb hL hi next, fun _ => lc_wet hR hb hL hi next, fun _ => lc_dry hR hb hL hi next, fun _ => lc_ring hR hb hL hi next, fun _ => lc_match hR hb hL hi next, fun _ => lc_dated hR hb hL hi next, fun _ => lc_sure hR hb hL hi next, fun _ => lc_find hR hb hL hi next, fun _ => lc_unfind hR hb hL hi next, fun _ => lc_group hR hb hL hi next, fun _ => lc_houses hR hb hL hi next, fun _ => lc_later hR hb hL hi next, fun _ => lc_grew hR hb hL hi next, fun _ => lc_dig hR hb hL hi next, fun _ => lc_keep hR hb hL hi next, fun _ => lc_again hR hb hL hi next, fun _ => lc_count hR hb hL hi next⟩
      refine go_189_848 ?_
      simp only [sg_189_848, cl_I, cl_L, cl_R, e_goto, e_iinc, e_nil, l_inc3, EE_n, EE_s0, EE_s1000, EE_s69, lc_lt, lc_le, lc_gt, lc_ge, lc_eq, true_and, and_true, List.length_cons, List.length_nil, ab_ia, Nat.reduceAdd, Nat.reduceLeDiff, Nat.reduceEqDiff, Nat.reduceLT, Int.reduceLT, Int.reduceLE, Int.reduceEq, Int.reduceNeg, true_or, or_true, false_or, or_false, not_false_eq_true, not_true_eq_false, false_implies, true_implies, forall_const, implies_true, Nat.zero_le, Nat.le_refl]
      refine ⟨⟨by omega, by omega⟩, ?_⟩
      rw [show 5 * b + 5 = 5 * (b + 1) by omega]
      exact ih (b + 1) D (by omega) (by omega) (Rel_up hR)
end LawLoop

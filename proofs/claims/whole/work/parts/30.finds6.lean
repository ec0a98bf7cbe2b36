/-! finds: what is asked of groups -/
section Finds6
variable {L : Nat} {D : ab_D}
theorem f_isHouse {g : Int} (h16 : 0 ≤ D 63 1 ∧ D 63 1 ≤ 16) (hg : 0 ≤ g ∧ g < D 63 1) : CB 12 [vR 63, vI g] (EE L) D (D 66 g.toNat = g ∧ 3 ≤ D 67 g.toNat) := by
  refine Sx.un (y := 12) (n := 0) (lo := [vR 63, vI g]) (st := []) (u := (0, 0)) ?_
  refine go_12_0 ?_
  simp only [sg_12_0, cl_I, cl_L, cl_R, e_aload_n, e_get1, e_goto, e_iaload, e_icmp_lt, e_icmp_ne, e_iconst, e_iload_n, e_nil, l_ld1, l_ldA0, wRef_some, EE_n, EE_r63_4, EE_r63_5, EE_s63, EE_s66, EE_s67, lc_lt, lc_le, lc_gt, lc_ge, lc_eq, true_and, and_true, List.length_cons, List.length_nil, ab_ia, Nat.reduceAdd, Nat.reduceLeDiff, Nat.reduceEqDiff, Nat.reduceLT, Int.reduceLT, Int.reduceLE, Int.reduceEq, Int.reduceNeg, true_or, or_true, false_or, or_false, not_false_eq_true, not_true_eq_false, false_implies, true_implies, forall_const, implies_true, Nat.zero_le, Nat.le_refl]
  refine ⟨by omega, fun h1 => ?_, fun h1 => ⟨by omega, fun h2 => ?_, fun h2 => ?_⟩⟩
  · refine go_12_14 ?_
    simp only [sg_12_14, cl_I, cl_L, cl_R, e_iconst, e_iret1, e_nil, lc_lt, lc_le, lc_gt, lc_ge, lc_eq, true_and, and_true, List.length_cons, List.length_nil, ab_ia, Nat.reduceAdd, Nat.reduceLeDiff, Nat.reduceEqDiff, Nat.reduceLT, Int.reduceLT, Int.reduceLE, Int.reduceEq, Int.reduceNeg, true_or, or_true, false_or, or_false, not_false_eq_true, not_true_eq_false, false_implies, true_implies, forall_const, implies_true, Nat.zero_le, Nat.le_refl]
    exact retB0 (fun q => h1 q.1)
  · refine go_12_14 ?_
    simp only [sg_12_14, cl_I, cl_L, cl_R, e_iconst, e_iret1, e_nil, lc_lt, lc_le, lc_gt, lc_ge, lc_eq, true_and, and_true, List.length_cons, List.length_nil, ab_ia, Nat.reduceAdd, Nat.reduceLeDiff, Nat.reduceEqDiff, Nat.reduceLT, Int.reduceLT, Int.reduceLE, Int.reduceEq, Int.reduceNeg, true_or, or_true, false_or, or_false, not_false_eq_true, not_true_eq_false, false_implies, true_implies, forall_const, implies_true, Nat.zero_le, Nat.le_refl]
    exact retB0 (fun q => by omega)
  · refine go_12_15 ?_
    simp only [sg_12_15, cl_I, cl_L, cl_R, e_iret1, e_nil, lc_lt, lc_le, lc_gt, lc_ge, lc_eq, true_and, and_true, List.length_cons, List.length_nil, ab_ia, Nat.reduceAdd, Nat.reduceLeDiff, Nat.reduceEqDiff, Nat.reduceLT, Int.reduceLT, Int.reduceLE, Int.reduceEq, Int.reduceNeg, true_or, or_true, false_or, or_false, not_false_eq_true, not_true_eq_false, false_implies, true_implies, forall_const, implies_true, Nat.zero_le, Nat.le_refl]
    exact retB1 (by omega)
/-- a group that is a house and began by y -/
def hseBy (h : Nat → Nat) (yr : Nat → Int) (N : Nat) (y : Int) : Nat → Bool := fun g => decide (2 < cnt (gsz h g) N ∧ gmin h yr g N ≤ y)
theorem gsz_root {N : Nat} {R : Nat → Nat → Prop} {h : Nat → Nat} (hl : isLab N R h) {g : Nat} (h1 : 0 < cnt (gsz h g) N) : h g = g := by
  by_cases q : h g = g
  · exact q
  · exfalso
    have : cnt (gsz h g) N = 0 := cnt_no (fun i hi => by
      have := isLab_idem hl hi
      simp only [gsz, decide_eq_false_iff_not]
      intro z
      rw [z] at this
      exact q this)
    omega
theorem f_hBB_loop {Q : Option ab_V → ab_H → Prop} {y : Int} {h : Nat → Nat} (hk : fOK (D 63 1) (D 64) (D 65)) (hl : isLab (D 63 1).toNat (kin (D 64) (D 65)) h) (hg : grpOK (D 63 1).toNat (D 65) h (D 66) (D 67) (D 68)) (hq : Q (some (.inl (cnt (hseBy h (D 65) (D 63 1).toNat y) (D 63 1).toNat))) (EE L, D)) :
    ∀ (t : Nat) (g : Int), 0 ≤ g → g + t = D 63 1 → Sx 13 4 [vR 63, vI y, vI (cnt (hseBy h (D 65) (D 63 1).toNat y) g.toNat), vI g] [] (EE L, D) (0, 0) Q := by
  have h16 := hk.1
  intro t
  induction t with
  | zero =>
    intro g h0 ht
    refine go_13_4 ?_
    simp only [sg_13_4, cl_I, cl_L, cl_R, e_aload_n, e_cv2, e_get0, e_get1, e_goto, e_iaload, e_icmp_ge, e_icmp_gt, e_if_eq, e_iinc, e_iload_n, e_nil, fl_0, fl_I, fl_L, fl_R, l_inc2, l_inc3, l_ld1, l_ld3, l_ldA0, rk_1, wRef_some, EE_n, EE_r63_6, EE_s63, EE_s68, lc_lt, lc_le, lc_gt, lc_ge, lc_eq, true_and, and_true, List.length_cons, List.length_nil, ab_ia, Nat.reduceAdd, Nat.reduceLeDiff, Nat.reduceEqDiff, Nat.reduceLT, Int.reduceLT, Int.reduceLE, Int.reduceEq, Int.reduceNeg, true_or, or_true, false_or, or_false, not_false_eq_true, not_true_eq_false, false_implies, true_implies, forall_const, implies_true, Nat.zero_le, Nat.le_refl]
    refine ⟨fun _ => ?_, fun hc => absurd hc (by omega)⟩
    refine go_13_21 ?_
    simp only [sg_13_21, cl_I, cl_L, cl_R, e_iload_n, e_iret0, e_nil, l_ld2, lc_lt, lc_le, lc_gt, lc_ge, lc_eq, true_and, and_true, List.length_cons, List.length_nil, ab_ia, Nat.reduceAdd, Nat.reduceLeDiff, Nat.reduceEqDiff, Nat.reduceLT, Int.reduceLT, Int.reduceLE, Int.reduceEq, Int.reduceNeg, true_or, or_true, false_or, or_false, not_false_eq_true, not_true_eq_false, false_implies, true_implies, forall_const, implies_true, Nat.zero_le, Nat.le_refl]
    rw [show g.toNat = (D 63 1).toNat by omega]
    exact hq
  | succ t ih =>
    intro g h0 ht
    obtain ⟨g1, g2, g3⟩ := hg g.toNat (by omega)
    have hb := cnt_bd (hseBy h (D 65) (D 63 1).toNat y) g.toNat
    have e : cnt (hseBy h (D 65) (D 63 1).toNat y) (g + 1).toNat = cnt (hseBy h (D 65) (D 63 1).toNat y) g.toNat + if (2 < cnt (gsz h g.toNat) (D 63 1).toNat ∧ gmin h (D 65) g.toNat (D 63 1).toNat ≤ y) then 1 else 0 := by
      rw [show (g + 1).toNat = g.toNat + 1 by omega]
      simp [cnt, hseBy]
    have ihk := ih (g + 1) (by omega) (by omega)
    have no : ¬ (2 < cnt (gsz h g.toNat) (D 63 1).toNat ∧ gmin h (D 65) g.toNat (D 63 1).toNat ≤ y) → Sx 13 19 [vR 63, vI y, vI (cnt (hseBy h (D 65) (D 63 1).toNat y) g.toNat), vI g] [] (EE L, D) (0, 0) Q := by
      intro hno
      refine go_13_19 ?_
      simp only [sg_13_19, cl_I, cl_L, cl_R, e_goto, e_iinc, e_nil, l_inc3, lc_lt, lc_le, lc_gt, lc_ge, lc_eq, true_and, and_true, List.length_cons, List.length_nil, ab_ia, Nat.reduceAdd, Nat.reduceLeDiff, Nat.reduceEqDiff, Nat.reduceLT, Int.reduceLT, Int.reduceLE, Int.reduceEq, Int.reduceNeg, true_or, or_true, false_or, or_false, not_false_eq_true, not_true_eq_false, false_implies, true_implies, forall_const, implies_true, Nat.zero_le, Nat.le_refl]
      rw [if_neg hno, Int.add_zero] at e
      rw [e] at ihk
      exact ⟨⟨by omega, by omega⟩, ihk⟩
    refine go_13_4 ?_
    simp only [sg_13_4, cl_I, cl_L, cl_R, e_aload_n, e_cv2, e_get0, e_get1, e_goto, e_iaload, e_icmp_ge, e_icmp_gt, e_if_eq, e_iinc, e_iload_n, e_nil, fl_0, fl_I, fl_L, fl_R, l_inc2, l_inc3, l_ld1, l_ld3, l_ldA0, rk_1, wRef_some, EE_n, EE_r63_6, EE_s63, EE_s68, lc_lt, lc_le, lc_gt, lc_ge, lc_eq, true_and, and_true, List.length_cons, List.length_nil, ab_ia, Nat.reduceAdd, Nat.reduceLeDiff, Nat.reduceEqDiff, Nat.reduceLT, Int.reduceLT, Int.reduceLE, Int.reduceEq, Int.reduceNeg, true_or, or_true, false_or, or_false, not_false_eq_true, not_true_eq_false, false_implies, true_implies, forall_const, implies_true, Nat.zero_le, Nat.le_refl]
    refine ⟨fun hc => absurd hc (by omega), fun _ => ?_⟩
    refine CB.use (f_isHouse h16 (by omega)) (fun h1 => ?_) (fun h1 => ?_)
    · try simp only [lc_lt, lc_le, lc_gt, lc_ge, lc_eq, true_and, and_true, List.length_cons, List.length_nil, ab_ia, Nat.reduceAdd, Nat.reduceLeDiff, Nat.reduceEqDiff, Nat.reduceLT, Int.reduceLT, Int.reduceLE, Int.reduceEq, Int.reduceNeg, true_or, or_true, false_or, or_false, not_false_eq_true, not_true_eq_false, false_implies, true_implies, forall_const, implies_true, Nat.zero_le, Nat.le_refl]
      have hr : h g.toNat = g.toNat := by omega
      have g3 := g3 hr
      refine ⟨by omega, fun h2 => ?_, fun h2 => ⟨⟨by omega, by omega⟩, ⟨by omega, by omega⟩, ?_⟩⟩
      · exact no (by omega)
      · rw [if_pos (by omega)] at e
        rw [e] at ihk
        exact ihk
    · try simp only [lc_lt, lc_le, lc_gt, lc_ge, lc_eq, true_and, and_true, List.length_cons, List.length_nil, ab_ia, Nat.reduceAdd, Nat.reduceLeDiff, Nat.reduceEqDiff, Nat.reduceLT, Int.reduceLT, Int.reduceLE, Int.reduceEq, Int.reduceNeg, true_or, or_true, false_or, or_false, not_false_eq_true, not_true_eq_false, false_implies, true_implies, forall_const, implies_true, Nat.zero_le, Nat.le_refl]
      refine no (fun q => h1 ?_)
      have := gsz_root hl (g := g.toNat) (by omega)
      omega
theorem f_hBB {y : Int} {h : Nat → Nat} (hk : fOK (D 63 1) (D 64) (D 65)) (hl : isLab (D 63 1).toNat (kin (D 64) (D 65)) h) (hg : grpOK (D 63 1).toNat (D 65) h (D 66) (D 67) (D 68)) : CI 13 [vR 63, vI y] (EE L, D) (fun r D' => r = cnt (hseBy h (D 65) (D 63 1).toNat y) (D 63 1).toNat ∧ D' = D) := by
  have h16 := hk.1
  refine Sx.un (y := 13) (n := 0) (lo := [vR 63, vI y, vU, vU]) (st := []) (u := (0, 0)) ?_
  refine go_13_0 ?_
  simp only [sg_13_0, cl_I, cl_L, cl_R, e_iconst, e_istore_n, e_nil, l_st2, l_st3, lc_lt, lc_le, lc_gt, lc_ge, lc_eq, true_and, and_true, List.length_cons, List.length_nil, ab_ia, Nat.reduceAdd, Nat.reduceLeDiff, Nat.reduceEqDiff, Nat.reduceLT, Int.reduceLT, Int.reduceLE, Int.reduceEq, Int.reduceNeg, true_or, or_true, false_or, or_false, not_false_eq_true, not_true_eq_false, false_implies, true_implies, forall_const, implies_true, Nat.zero_le, Nat.le_refl]
  exact f_hBB_loop hk hl hg (retI ⟨rfl, rfl⟩) (D 63 1).toNat 0 (by omega) (by omega)
theorem p_grew {y : Int} {h : Nat → Nat} (hk : fOK (D 63 1) (D 64) (D 65)) (hl : isLab (D 63 1).toNat (kin (D 64) (D 65)) h) (hg : grpOK (D 63 1).toNat (D 65) h (D 66) (D 67) (D 68)) : CI 100 [vR 0, vI y] (EE L, D) (fun r D' => ((¬ (0 ≤ y ∧ y < 60) ∧ r = -1) ∨ ((0 ≤ y ∧ y < 60) ∧ r = cnt (hseBy h (D 65) (D 63 1).toNat y) (D 63 1).toNat)) ∧ D' = D) := by
  refine Sx.un (y := 100) (n := 0) (lo := [vR 0, vI y]) (st := []) (u := (0, 0)) ?_
  refine go_100_0 ?_
  simp only [sg_100_0, cl_I, cl_L, cl_R, e_cs1, e_iconst, e_if_ne, e_iload_n, e_iret0, e_nil, fl_0, fl_I, fl_L, fl_R, l_ld1, rk_1, lc_lt, lc_le, lc_gt, lc_ge, lc_eq, true_and, and_true, List.length_cons, List.length_nil, ab_ia, Nat.reduceAdd, Nat.reduceLeDiff, Nat.reduceEqDiff, Nat.reduceLT, Int.reduceLT, Int.reduceLE, Int.reduceEq, Int.reduceNeg, true_or, or_true, false_or, or_false, not_false_eq_true, not_true_eq_false, false_implies, true_implies, forall_const, implies_true, Nat.zero_le, Nat.le_refl]
  refine CB.use p_isRingYear (fun h1 => ?_) (fun h1 => ?_)
  · try simp only [lc_lt, lc_le, lc_gt, lc_ge, lc_eq, true_and, and_true, List.length_cons, List.length_nil, ab_ia, Nat.reduceAdd, Nat.reduceLeDiff, Nat.reduceEqDiff, Nat.reduceLT, Int.reduceLT, Int.reduceLE, Int.reduceEq, Int.reduceNeg, true_or, or_true, false_or, or_false, not_false_eq_true, not_true_eq_false, false_implies, true_implies, forall_const, implies_true, Nat.zero_le, Nat.le_refl]
    refine go_100_5 ?_
    simp only [sg_100_5, cl_I, cl_L, cl_R, e_aload_n, e_cv2, e_get1, e_iload_n, e_iret0, e_nil, fl_0, fl_I, fl_L, fl_R, l_ld1, l_ldA0, rk_1, wRef_some, EE_n, EE_r0_10, EE_s0, EE_s63, lc_lt, lc_le, lc_gt, lc_ge, lc_eq, true_and, and_true, List.length_cons, List.length_nil, ab_ia, Nat.reduceAdd, Nat.reduceLeDiff, Nat.reduceEqDiff, Nat.reduceLT, Int.reduceLT, Int.reduceLE, Int.reduceEq, Int.reduceNeg, true_or, or_true, false_or, or_false, not_false_eq_true, not_true_eq_false, false_implies, true_implies, forall_const, implies_true, Nat.zero_le, Nat.le_refl]
    refine CI.use (f_hBB hk hl hg) ?_
    exact retI ⟨Or.inr ⟨h1, rfl⟩, rfl⟩
  · try simp only [lc_lt, lc_le, lc_gt, lc_ge, lc_eq, true_and, and_true, List.length_cons, List.length_nil, ab_ia, Nat.reduceAdd, Nat.reduceLeDiff, Nat.reduceEqDiff, Nat.reduceLT, Int.reduceLT, Int.reduceLE, Int.reduceEq, Int.reduceNeg, true_or, or_true, false_or, or_false, not_false_eq_true, not_true_eq_false, false_implies, true_implies, forall_const, implies_true, Nat.zero_le, Nat.le_refl]
    exact retI ⟨Or.inl ⟨h1, rfl⟩, rfl⟩
theorem p_houses {h : Nat → Nat} (hk : fOK (D 63 1) (D 64) (D 65)) (hl : isLab (D 63 1).toNat (kin (D 64) (D 65)) h) (hg : grpOK (D 63 1).toNat (D 65) h (D 66) (D 67) (D 68)) : CI 98 [vR 0] (EE L, D) (fun r D' => r = cnt (hseBy h (D 65) (D 63 1).toNat 60) (D 63 1).toNat ∧ D' = D) := by
  refine Sx.un (y := 98) (n := 0) (lo := [vR 0]) (st := []) (u := (0, 0)) ?_
  refine go_98_0 ?_
  simp only [sg_98_0, cl_I, cl_L, cl_R, e_aload_n, e_bipush, e_cv2, e_get1, e_iret0, e_nil, fl_0, fl_I, fl_L, fl_R, l_ldA0, rk_1, wRef_some, EE_n, EE_r0_10, EE_s0, EE_s63, lc_lt, lc_le, lc_gt, lc_ge, lc_eq, true_and, and_true, List.length_cons, List.length_nil, ab_ia, Nat.reduceAdd, Nat.reduceLeDiff, Nat.reduceEqDiff, Nat.reduceLT, Int.reduceLT, Int.reduceLE, Int.reduceEq, Int.reduceNeg, true_or, or_true, false_or, or_false, not_false_eq_true, not_true_eq_false, false_implies, true_implies, forall_const, implies_true, Nat.zero_le, Nat.le_refl]
  refine CI.use (f_hBB hk hl hg) ?_
  exact retI ⟨rfl, rfl⟩
theorem p_group {f : Int} (h16 : 0 ≤ D 63 1 ∧ D 63 1 ≤ 16) : CI 97 [vR 0, vI f] (EE L, D) (fun r D' => ((¬ (0 ≤ f ∧ f < D 63 1) ∧ r = -1) ∨ ((0 ≤ f ∧ f < D 63 1) ∧ r = D 66 f.toNat)) ∧ D' = D) := by
  refine Sx.un (y := 97) (n := 0) (lo := [vR 0, vI f]) (st := []) (u := (0, 0)) ?_
  refine go_97_0 ?_
  simp only [sg_97_0, cl_I, cl_L, cl_R, e_aload_n, e_cv2, e_iconst, e_if_ne, e_iload_n, e_iret0, e_nil, fl_0, fl_I, fl_L, fl_R, l_ld1, l_ldA0, rk_1, EE_n, EE_s0, lc_lt, lc_le, lc_gt, lc_ge, lc_eq, true_and, and_true, List.length_cons, List.length_nil, ab_ia, Nat.reduceAdd, Nat.reduceLeDiff, Nat.reduceEqDiff, Nat.reduceLT, Int.reduceLT, Int.reduceLE, Int.reduceEq, Int.reduceNeg, true_or, or_true, false_or, or_false, not_false_eq_true, not_true_eq_false, false_implies, true_implies, forall_const, implies_true, Nat.zero_le, Nat.le_refl]
  refine CB.use p_isFind (fun h1 => ?_) (fun h1 => ?_)
  · try simp only [lc_lt, lc_le, lc_gt, lc_ge, lc_eq, true_and, and_true, List.length_cons, List.length_nil, ab_ia, Nat.reduceAdd, Nat.reduceLeDiff, Nat.reduceEqDiff, Nat.reduceLT, Int.reduceLT, Int.reduceLE, Int.reduceEq, Int.reduceNeg, true_or, or_true, false_or, or_false, not_false_eq_true, not_true_eq_false, false_implies, true_implies, forall_const, implies_true, Nat.zero_le, Nat.le_refl]
    refine go_97_6 ?_
    simp only [sg_97_6, cl_I, cl_L, cl_R, e_aload_n, e_get1, e_iaload, e_iload_n, e_iret0, e_nil, l_ld1, l_ldA0, wRef_some, EE_n, EE_r0_10, EE_r63_4, EE_s0, EE_s63, EE_s66, lc_lt, lc_le, lc_gt, lc_ge, lc_eq, true_and, and_true, List.length_cons, List.length_nil, ab_ia, Nat.reduceAdd, Nat.reduceLeDiff, Nat.reduceEqDiff, Nat.reduceLT, Int.reduceLT, Int.reduceLE, Int.reduceEq, Int.reduceNeg, true_or, or_true, false_or, or_false, not_false_eq_true, not_true_eq_false, false_implies, true_implies, forall_const, implies_true, Nat.zero_le, Nat.le_refl]
    exact ⟨by omega, retI ⟨Or.inr ⟨h1, rfl⟩, rfl⟩⟩
  · try simp only [lc_lt, lc_le, lc_gt, lc_ge, lc_eq, true_and, and_true, List.length_cons, List.length_nil, ab_ia, Nat.reduceAdd, Nat.reduceLeDiff, Nat.reduceEqDiff, Nat.reduceLT, Int.reduceLT, Int.reduceLE, Int.reduceEq, Int.reduceNeg, true_or, or_true, false_or, or_false, not_false_eq_true, not_true_eq_false, false_implies, true_implies, forall_const, implies_true, Nat.zero_le, Nat.le_refl]
    exact retI ⟨Or.inl ⟨h1, rfl⟩, rfl⟩
theorem m_group {f : Int} {h : Nat → Nat} (hk : fOK (D 69 22) (D 83) (D 84)) (hl : isLab (D 69 22).toNat (kin (D 83) (D 84)) h) : CI 180 [vR 69, vI f] (EE L, D) (fun r D' => ∃ a b c : Nat → Int, D' = up3 D a b c ∧ ((¬ (0 ≤ f ∧ f < D 69 22) ∧ r = -1) ∨ ((0 ≤ f ∧ f < D 69 22) ∧ r = h f.toNat))) := by
  have h16 := hk.1
  refine Sx.un (y := 180) (n := 0) (lo := [vR 69, vI f]) (st := []) (u := (0, 0)) ?_
  refine go_180_0 ?_
  simp only [sg_180_0, cl_I, cl_L, cl_R, e_aload_n, e_cs3, e_get0, e_i2l, e_iconst, e_if_ne, e_iload_n, e_iret0, e_isub, e_lconst, e_nil, fl_0, fl_I, fl_L, fl_R, l_ld1, l_ldA0, rk_1, wRef_some, EE_n, EE_s69, lc_lt, lc_le, lc_gt, lc_ge, lc_eq, true_and, and_true, List.length_cons, List.length_nil, ab_ia, Nat.reduceAdd, Nat.reduceLeDiff, Nat.reduceEqDiff, Nat.reduceLT, Int.reduceLT, Int.reduceLE, Int.reduceEq, Int.reduceNeg, true_or, or_true, false_or, or_false, not_false_eq_true, not_true_eq_false, false_implies, true_implies, forall_const, implies_true, Nat.zero_le, Nat.le_refl]
  refine ⟨⟨by omega, by omega⟩, ?_⟩
  refine CB.use m_in (fun h1 => ?_) (fun h1 => ?_)
  · try simp only [lc_lt, lc_le, lc_gt, lc_ge, lc_eq, true_and, and_true, List.length_cons, List.length_nil, ab_ia, Nat.reduceAdd, Nat.reduceLeDiff, Nat.reduceEqDiff, Nat.reduceLT, Int.reduceLT, Int.reduceLE, Int.reduceEq, Int.reduceNeg, true_or, or_true, false_or, or_false, not_false_eq_true, not_true_eq_false, false_implies, true_implies, forall_const, implies_true, Nat.zero_le, Nat.le_refl]
    refine go_180_12 ?_
    simp only [sg_180_12, cl_I, cl_L, cl_R, e_aload_n, e_cv1, e_get1, e_iaload, e_iload_n, e_iret0, e_nil, fl_0, fl_I, fl_L, fl_R, l_ld1, l_ldA0, rk_0, wRef_some, EE_n, EE_r69_25, EE_s69, EE_s85, lc_lt, lc_le, lc_gt, lc_ge, lc_eq, true_and, and_true, List.length_cons, List.length_nil, ab_ia, Nat.reduceAdd, Nat.reduceLeDiff, Nat.reduceEqDiff, Nat.reduceLT, Int.reduceLT, Int.reduceLE, Int.reduceEq, Int.reduceNeg, true_or, or_true, false_or, or_false, not_false_eq_true, not_true_eq_false, false_implies, true_implies, forall_const, implies_true, Nat.zero_le, Nat.le_refl]
    refine (m_layGroups hk hl).mono ?_
    rintro D' ⟨a, b, c, rfl, hh⟩
    rw [u3_85]
    refine ⟨by omega, retI ⟨a, b, c, rfl, Or.inr ⟨by omega, ?_⟩⟩⟩
    exact (hh f.toNat (by omega)).1
  · try simp only [lc_lt, lc_le, lc_gt, lc_ge, lc_eq, true_and, and_true, List.length_cons, List.length_nil, ab_ia, Nat.reduceAdd, Nat.reduceLeDiff, Nat.reduceEqDiff, Nat.reduceLT, Int.reduceLT, Int.reduceLE, Int.reduceEq, Int.reduceNeg, true_or, or_true, false_or, or_false, not_false_eq_true, not_true_eq_false, false_implies, true_implies, forall_const, implies_true, Nat.zero_le, Nat.le_refl]
    exact retI ⟨_, _, _, u3_id.symm, Or.inl ⟨by omega, rfl⟩⟩
theorem m_grew_loop {Q : Option ab_V → ab_H → Prop} {y : Int} {h : Nat → Nat} {hd gz bg : Nat → Int} (hk : fOK (D 69 22) (D 83) (D 84)) (hh : ∀ i, i < (D 69 22).toNat → hd i = h i ∧ gz i = cnt (gsz h i) (D 69 22).toNat ∧ bg i = gmin h (D 84) i (D 69 22).toNat) (hq : Q (some (.inl (cnt (hseBy h (D 84) (D 69 22).toNat y) (D 69 22).toNat))) (EE L, up3 D hd gz bg)) :
    ∀ (t : Nat) (g : Int), 0 ≤ g → g + t = D 69 22 → Sx 183 14 [vR 69, vI y, vI (cnt (hseBy h (D 84) (D 69 22).toNat y) g.toNat), vI g] [] (EE L, up3 D hd gz bg) (0, 0) Q := by
  have h16 := hk.1
  have n69 : ∀ a b c : Nat → Int, up3 D a b c 69 22 = D 69 22 := fun a b c => by rw [u3_n (by decide)]
  intro t
  induction t with
  | zero =>
    intro g h0 ht
    refine go_183_14 ?_
    simp only [sg_183_14, cl_I, cl_L, cl_R, e_aload_n, e_get0, e_get1, e_goto, e_iaload, e_icmp_ge, e_icmp_gt, e_icmp_le, e_iconst, e_iload_n, e_nil, l_ld1, l_ld2, l_ld3, l_ldA0, wRef_some, EE_n, EE_r69_26, EE_r69_27, EE_s69, EE_s86, EE_s87, n69, lc_lt, lc_le, lc_gt, lc_ge, lc_eq, true_and, and_true, List.length_cons, List.length_nil, ab_ia, Nat.reduceAdd, Nat.reduceLeDiff, Nat.reduceEqDiff, Nat.reduceLT, Int.reduceLT, Int.reduceLE, Int.reduceEq, Int.reduceNeg, true_or, or_true, false_or, or_false, not_false_eq_true, not_true_eq_false, false_implies, true_implies, forall_const, implies_true, Nat.zero_le, Nat.le_refl]
    refine ⟨fun _ => ?_, fun hc => absurd hc (by omega)⟩
    refine go_183_38 ?_
    simp only [sg_183_38, cl_I, cl_L, cl_R, e_iload_n, e_iret0, e_nil, l_ld2, lc_lt, lc_le, lc_gt, lc_ge, lc_eq, true_and, and_true, List.length_cons, List.length_nil, ab_ia, Nat.reduceAdd, Nat.reduceLeDiff, Nat.reduceEqDiff, Nat.reduceLT, Int.reduceLT, Int.reduceLE, Int.reduceEq, Int.reduceNeg, true_or, or_true, false_or, or_false, not_false_eq_true, not_true_eq_false, false_implies, true_implies, forall_const, implies_true, Nat.zero_le, Nat.le_refl]
    rw [show g.toNat = (D 69 22).toNat by omega]
    exact hq
  | succ t ih =>
    intro g h0 ht
    obtain ⟨g1, g2, g3⟩ := hh g.toNat (by omega)
    have hb := cnt_bd (hseBy h (D 84) (D 69 22).toNat y) g.toNat
    have e : cnt (hseBy h (D 84) (D 69 22).toNat y) (g + 1).toNat = cnt (hseBy h (D 84) (D 69 22).toNat y) g.toNat + if (2 < cnt (gsz h g.toNat) (D 69 22).toNat ∧ gmin h (D 84) g.toNat (D 69 22).toNat ≤ y) then 1 else 0 := by
      rw [show (g + 1).toNat = g.toNat + 1 by omega]
      simp [cnt, hseBy]
    have ihk := ih (g + 1) (by omega) (by omega)
    have no : ¬ (2 < cnt (gsz h g.toNat) (D 69 22).toNat ∧ gmin h (D 84) g.toNat (D 69 22).toNat ≤ y) → Sx 183 33 [vR 69, vI y, vI (cnt (hseBy h (D 84) (D 69 22).toNat y) g.toNat), vI g] [vI (cnt (hseBy h (D 84) (D 69 22).toNat y) g.toNat)] (EE L, up3 D hd gz bg) (0, 0) Q := by
      intro hno
      refine go_183_33 ?_
      simp only [sg_183_33, cl_I, cl_L, cl_R, e_goto, e_iadd, e_iconst, e_iinc, e_istore_n, e_nil, l_inc3, l_st2, lc_lt, lc_le, lc_gt, lc_ge, lc_eq, true_and, and_true, List.length_cons, List.length_nil, ab_ia, Nat.reduceAdd, Nat.reduceLeDiff, Nat.reduceEqDiff, Nat.reduceLT, Int.reduceLT, Int.reduceLE, Int.reduceEq, Int.reduceNeg, true_or, or_true, false_or, or_false, not_false_eq_true, not_true_eq_false, false_implies, true_implies, forall_const, implies_true, Nat.zero_le, Nat.le_refl]
      rw [if_neg hno] at e
      rw [e] at ihk
      exact ⟨⟨by omega, by omega⟩, ⟨by omega, by omega⟩, ihk⟩
    refine go_183_14 ?_
    simp only [sg_183_14, cl_I, cl_L, cl_R, e_aload_n, e_get0, e_get1, e_goto, e_iaload, e_icmp_ge, e_icmp_gt, e_icmp_le, e_iconst, e_iload_n, e_nil, l_ld1, l_ld2, l_ld3, l_ldA0, wRef_some, EE_n, EE_r69_26, EE_r69_27, EE_s69, EE_s86, EE_s87, n69, u3_86, u3_87, lc_lt, lc_le, lc_gt, lc_ge, lc_eq, true_and, and_true, List.length_cons, List.length_nil, ab_ia, Nat.reduceAdd, Nat.reduceLeDiff, Nat.reduceEqDiff, Nat.reduceLT, Int.reduceLT, Int.reduceLE, Int.reduceEq, Int.reduceNeg, true_or, or_true, false_or, or_false, not_false_eq_true, not_true_eq_false, false_implies, true_implies, forall_const, implies_true, Nat.zero_le, Nat.le_refl]
    refine ⟨fun hc => absurd hc (by omega), fun _ => ⟨by omega, fun h1 => no (by omega), fun h1 => ⟨by omega, fun h2 => no (by omega), fun h2 => ?_⟩⟩⟩
    refine go_183_34 ?_
    simp only [sg_183_34, cl_I, cl_L, cl_R, e_goto, e_iadd, e_iinc, e_istore_n, e_nil, l_inc3, l_st2, lc_lt, lc_le, lc_gt, lc_ge, lc_eq, true_and, and_true, List.length_cons, List.length_nil, ab_ia, Nat.reduceAdd, Nat.reduceLeDiff, Nat.reduceEqDiff, Nat.reduceLT, Int.reduceLT, Int.reduceLE, Int.reduceEq, Int.reduceNeg, true_or, or_true, false_or, or_false, not_false_eq_true, not_true_eq_false, false_implies, true_implies, forall_const, implies_true, Nat.zero_le, Nat.le_refl]
    rw [if_pos (by omega)] at e
    rw [e] at ihk
    exact ⟨⟨by omega, by omega⟩, ⟨by omega, by omega⟩, ihk⟩
theorem m_grew {y : Int} {h : Nat → Nat} (hk : fOK (D 69 22) (D 83) (D 84)) (hl : isLab (D 69 22).toNat (kin (D 83) (D 84)) h) : CI 183 [vR 69, vI y] (EE L, D) (fun r D' => ∃ a b c : Nat → Int, D' = up3 D a b c ∧ ((¬ (0 ≤ y ∧ y < 60) ∧ r = -1) ∨ ((0 ≤ y ∧ y < 60) ∧ r = cnt (hseBy h (D 84) (D 69 22).toNat y) (D 69 22).toNat))) := by
  have h16 := hk.1
  refine Sx.un (y := 183) (n := 0) (lo := [vR 69, vI y, vU, vU]) (st := []) (u := (0, 0)) ?_
  refine go_183_0 ?_
  simp only [sg_183_0, cl_I, cl_L, cl_R, e_cs3, e_i2l, e_iconst, e_if_ne, e_iload_n, e_iret0, e_lconst, e_ldc2, e_nil, fl_0, fl_I, fl_L, fl_R, l_ld1, rk_1, lc_lt, lc_le, lc_gt, lc_ge, lc_eq, true_and, and_true, List.length_cons, List.length_nil, ab_ia, Nat.reduceAdd, Nat.reduceLeDiff, Nat.reduceEqDiff, Nat.reduceLT, Int.reduceLT, Int.reduceLE, Int.reduceEq, Int.reduceNeg, true_or, or_true, false_or, or_false, not_false_eq_true, not_true_eq_false, false_implies, true_implies, forall_const, implies_true, Nat.zero_le, Nat.le_refl]
  refine CB.use m_in (fun h1 => ?_) (fun h1 => ?_)
  · try simp only [lc_lt, lc_le, lc_gt, lc_ge, lc_eq, true_and, and_true, List.length_cons, List.length_nil, ab_ia, Nat.reduceAdd, Nat.reduceLeDiff, Nat.reduceEqDiff, Nat.reduceLT, Int.reduceLT, Int.reduceLE, Int.reduceEq, Int.reduceNeg, true_or, or_true, false_or, or_false, not_false_eq_true, not_true_eq_false, false_implies, true_implies, forall_const, implies_true, Nat.zero_le, Nat.le_refl]
    refine go_183_8 ?_
    simp only [sg_183_8, cl_I, cl_L, cl_R, e_aload_n, e_cv1, e_iconst, e_istore_n, e_nil, fl_0, fl_I, fl_L, fl_R, l_ldA0, l_st2, l_st3, rk_0, EE_n, EE_s69, lc_lt, lc_le, lc_gt, lc_ge, lc_eq, true_and, and_true, List.length_cons, List.length_nil, ab_ia, Nat.reduceAdd, Nat.reduceLeDiff, Nat.reduceEqDiff, Nat.reduceLT, Int.reduceLT, Int.reduceLE, Int.reduceEq, Int.reduceNeg, true_or, or_true, false_or, or_false, not_false_eq_true, not_true_eq_false, false_implies, true_implies, forall_const, implies_true, Nat.zero_le, Nat.le_refl]
    refine (m_layGroups hk hl).mono ?_
    rintro D' ⟨a, b, c, rfl, hh⟩
    exact m_grew_loop hk hh (retI ⟨a, b, c, rfl, Or.inr ⟨by omega, rfl⟩⟩) (D 69 22).toNat 0 (by omega) (by omega)
  · try simp only [lc_lt, lc_le, lc_gt, lc_ge, lc_eq, true_and, and_true, List.length_cons, List.length_nil, ab_ia, Nat.reduceAdd, Nat.reduceLeDiff, Nat.reduceEqDiff, Nat.reduceLT, Int.reduceLT, Int.reduceLE, Int.reduceEq, Int.reduceNeg, true_or, or_true, false_or, or_false, not_false_eq_true, not_true_eq_false, false_implies, true_implies, forall_const, implies_true, Nat.zero_le, Nat.le_refl]
    exact retI ⟨_, _, _, u3_id.symm, Or.inl ⟨by omega, rfl⟩⟩
theorem m_houses_loop {Q : Option ab_V → ab_H → Prop} {h : Nat → Nat} {hd gz bg : Nat → Int} (hk : fOK (D 69 22) (D 83) (D 84)) (hh : ∀ i, i < (D 69 22).toNat → hd i = h i ∧ gz i = cnt (gsz h i) (D 69 22).toNat ∧ bg i = gmin h (D 84) i (D 69 22).toNat) (hq : Q (some (.inl (cnt (fun g => decide (2 < cnt (gsz h g) (D 69 22).toNat)) (D 69 22).toNat))) (EE L, up3 D hd gz bg)) :
    ∀ (t : Nat) (g : Int), 0 ≤ g → g + t = D 69 22 → Sx 181 6 [vR 69, vI (cnt (fun g => decide (2 < cnt (gsz h g) (D 69 22).toNat)) g.toNat), vI g] [] (EE L, up3 D hd gz bg) (0, 0) Q := by
  have h16 := hk.1
  have n69 : ∀ a b c : Nat → Int, up3 D a b c 69 22 = D 69 22 := fun a b c => by rw [u3_n (by decide)]
  intro t
  induction t with
  | zero =>
    intro g h0 ht
    refine go_181_6 ?_
    simp only [sg_181_6, cl_I, cl_L, cl_R, e_aload_n, e_get0, e_get1, e_goto, e_iaload, e_icmp_ge, e_icmp_le, e_iconst, e_iload_n, e_nil, l_ld1, l_ld2, l_ldA0, wRef_some, EE_n, EE_r69_26, EE_s69, EE_s86, n69, lc_lt, lc_le, lc_gt, lc_ge, lc_eq, true_and, and_true, List.length_cons, List.length_nil, ab_ia, Nat.reduceAdd, Nat.reduceLeDiff, Nat.reduceEqDiff, Nat.reduceLT, Int.reduceLT, Int.reduceLE, Int.reduceEq, Int.reduceNeg, true_or, or_true, false_or, or_false, not_false_eq_true, not_true_eq_false, false_implies, true_implies, forall_const, implies_true, Nat.zero_le, Nat.le_refl]
    refine ⟨fun _ => ?_, fun hc => absurd hc (by omega)⟩
    refine go_181_24 ?_
    simp only [sg_181_24, cl_I, cl_L, cl_R, e_iload_n, e_iret0, e_nil, l_ld1, lc_lt, lc_le, lc_gt, lc_ge, lc_eq, true_and, and_true, List.length_cons, List.length_nil, ab_ia, Nat.reduceAdd, Nat.reduceLeDiff, Nat.reduceEqDiff, Nat.reduceLT, Int.reduceLT, Int.reduceLE, Int.reduceEq, Int.reduceNeg, true_or, or_true, false_or, or_false, not_false_eq_true, not_true_eq_false, false_implies, true_implies, forall_const, implies_true, Nat.zero_le, Nat.le_refl]
    rw [show g.toNat = (D 69 22).toNat by omega]
    exact hq
  | succ t ih =>
    intro g h0 ht
    obtain ⟨g1, g2, g3⟩ := hh g.toNat (by omega)
    have hb := cnt_bd (fun g => decide (2 < cnt (gsz h g) (D 69 22).toNat)) g.toNat
    have e : cnt (fun g => decide (2 < cnt (gsz h g) (D 69 22).toNat)) (g + 1).toNat = cnt (fun g => decide (2 < cnt (gsz h g) (D 69 22).toNat)) g.toNat + if (2 < cnt (gsz h g.toNat) (D 69 22).toNat) then 1 else 0 := by
      rw [show (g + 1).toNat = g.toNat + 1 by omega]
      simp [cnt]
    have ihk := ih (g + 1) (by omega) (by omega)
    refine go_181_6 ?_
    simp only [sg_181_6, cl_I, cl_L, cl_R, e_aload_n, e_get0, e_get1, e_goto, e_iaload, e_icmp_ge, e_icmp_le, e_iconst, e_iload_n, e_nil, l_ld1, l_ld2, l_ldA0, wRef_some, EE_n, EE_r69_26, EE_s69, EE_s86, n69, u3_86, u3_87, lc_lt, lc_le, lc_gt, lc_ge, lc_eq, true_and, and_true, List.length_cons, List.length_nil, ab_ia, Nat.reduceAdd, Nat.reduceLeDiff, Nat.reduceEqDiff, Nat.reduceLT, Int.reduceLT, Int.reduceLE, Int.reduceEq, Int.reduceNeg, true_or, or_true, false_or, or_false, not_false_eq_true, not_true_eq_false, false_implies, true_implies, forall_const, implies_true, Nat.zero_le, Nat.le_refl]
    refine ⟨fun hc => absurd hc (by omega), fun _ => ⟨by omega, fun h1 => ?_, fun h1 => ?_⟩⟩
    · refine go_181_19 ?_
      simp only [sg_181_19, cl_I, cl_L, cl_R, e_goto, e_iadd, e_iconst, e_iinc, e_istore_n, e_nil, l_inc2, l_st1, lc_lt, lc_le, lc_gt, lc_ge, lc_eq, true_and, and_true, List.length_cons, List.length_nil, ab_ia, Nat.reduceAdd, Nat.reduceLeDiff, Nat.reduceEqDiff, Nat.reduceLT, Int.reduceLT, Int.reduceLE, Int.reduceEq, Int.reduceNeg, true_or, or_true, false_or, or_false, not_false_eq_true, not_true_eq_false, false_implies, true_implies, forall_const, implies_true, Nat.zero_le, Nat.le_refl]
      rw [if_neg (by omega)] at e
      rw [e] at ihk
      exact ⟨⟨by omega, by omega⟩, ⟨by omega, by omega⟩, ihk⟩
    · refine go_181_20 ?_
      simp only [sg_181_20, cl_I, cl_L, cl_R, e_goto, e_iadd, e_iinc, e_istore_n, e_nil, l_inc2, l_st1, lc_lt, lc_le, lc_gt, lc_ge, lc_eq, true_and, and_true, List.length_cons, List.length_nil, ab_ia, Nat.reduceAdd, Nat.reduceLeDiff, Nat.reduceEqDiff, Nat.reduceLT, Int.reduceLT, Int.reduceLE, Int.reduceEq, Int.reduceNeg, true_or, or_true, false_or, or_false, not_false_eq_true, not_true_eq_false, false_implies, true_implies, forall_const, implies_true, Nat.zero_le, Nat.le_refl]
      rw [if_pos (by omega)] at e
      rw [e] at ihk
      exact ⟨⟨by omega, by omega⟩, ⟨by omega, by omega⟩, ihk⟩
theorem m_houses {h : Nat → Nat} (hk : fOK (D 69 22) (D 83) (D 84)) (hl : isLab (D 69 22).toNat (kin (D 83) (D 84)) h) : CI 181 [vR 69] (EE L, D) (fun r D' => ∃ a b c : Nat → Int, D' = up3 D a b c ∧ r = cnt (fun g => decide (2 < cnt (gsz h g) (D 69 22).toNat)) (D 69 22).toNat) := by
  have h16 := hk.1
  refine Sx.un (y := 181) (n := 0) (lo := [vR 69, vU, vU]) (st := []) (u := (0, 0)) ?_
  refine go_181_0 ?_
  simp only [sg_181_0, cl_I, cl_L, cl_R, e_aload_n, e_cv1, e_iconst, e_istore_n, e_nil, fl_0, fl_I, fl_L, fl_R, l_ldA0, l_st1, l_st2, rk_0, EE_n, EE_s69, lc_lt, lc_le, lc_gt, lc_ge, lc_eq, true_and, and_true, List.length_cons, List.length_nil, ab_ia, Nat.reduceAdd, Nat.reduceLeDiff, Nat.reduceEqDiff, Nat.reduceLT, Int.reduceLT, Int.reduceLE, Int.reduceEq, Int.reduceNeg, true_or, or_true, false_or, or_false, not_false_eq_true, not_true_eq_false, false_implies, true_implies, forall_const, implies_true, Nat.zero_le, Nat.le_refl]
  refine (m_layGroups hk hl).mono ?_
  rintro D' ⟨a, b, c, rfl, hh⟩
  exact m_houses_loop hk hh (retI ⟨a, b, c, rfl, rfl⟩) (D 69 22).toNat 0 (by omega) (by omega)
/-- a house began before sixty -/
theorem hse60 {N : Nat} {R : Nat → Nat → Prop} {h : Nat → Nat} {yr : Nat → Int} (hl : isLab N R h) (hy : ∀ i, i < N → yr i < 60) : cnt (fun g => decide (2 < cnt (gsz h g) N)) N = cnt (hseBy h yr N 60) N := by
  apply cnt_congr
  intro g hg
  have key : 2 < cnt (gsz h g) N → gmin h yr g N ≤ 60 := by
    intro q
    have hr := gsz_root hl (g := g) (by omega)
    have : ∀ k, g < k → k ≤ N → gmin h yr g k ≤ 60 := by
      intro k
      induction k with
      | zero => intro z; omega
      | succ k ih =>
        intro q1 q2
        simp only [gmin]
        by_cases q3 : k = g
        · have := hy k (by omega)
          rw [if_pos (by rw [q3, hr])]
          split <;> omega
        · have := ih (by omega) (by omega)
          split
          · split <;> omega
          · exact this
    exact this N hg (Nat.le_refl _)
  simp only [hseBy]
  by_cases q : 2 < cnt (gsz h g) N
  · have := key q
    simp [q, this]
  · simp [q]
end Finds6

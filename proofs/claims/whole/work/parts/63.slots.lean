/-! the reference's house; keep and again -/
section Slots
variable {L : Nat} {D : ab_D} {G : Gr} {V : Vil}
theorem m_house_in {Q : Option ab_V → ab_H → Prop} {a b w c : Int} (hV : vM D V) (k : vOK G V) (hc : 0 ≤ c ∧ c < 60)
    (hq : ∀ may x7, ((may = 0 ∧ ∃ h, 0 ≤ h ∧ h < V.nh ∧ cov (V.h h 0) (V.h h 1) c) ∨ (may = 1 ∧ ∀ h, 0 ≤ h → h < V.nh → ¬ cov (V.h h 0) (V.h h 1) c)) → Sx 141 86 [vR 69, vI a, vI b, vI w, vI may, vI c, vI 1, x7] [] (EE L, D) (0, 0) Q) :
    ∀ (t : Nat) (h may : Int), 0 ≤ h → h + t = V.nh → ((may = 0 ∧ ∃ h', 0 ≤ h' ∧ h' < V.nh ∧ cov (V.h h' 0) (V.h h' 1) c) ∨ (may = 1 ∧ ∀ h', 0 ≤ h' → h' < h → ¬ cov (V.h h' 0) (V.h h' 1) c)) → Sx 141 67 [vR 69, vI a, vI b, vI w, vI may, vI c, vI 1, vI h] [] (EE L, D) (0, 0) Q := by
  have e10 := hV.1.2.1
  have kk := k.1
  intro t
  induction t with
  | zero =>
    intro h may h0 ht hi
    refine go_141_67 ?_
    simp only [sg_141_67, cl_I, cl_L, cl_R, e_aload_n, e_cv3, e_get0, e_goto, e_icmp_ge, e_iconst, e_if_eq, e_if_ne, e_iload, e_nil, fl_0, fl_I, fl_L, fl_R, l_ld4, l_ld5, l_ld6, l_ld7, l_ldA0, rk_1, wRef_some, EE_n, EE_s69, e10, lc_lt, lc_le, lc_gt, lc_ge, lc_eq, true_and, and_true, List.length_cons, List.length_nil, ab_ia, Nat.reduceAdd, Nat.reduceLeDiff, Nat.reduceEqDiff, Nat.reduceLT, Int.reduceLT, Int.reduceLE, Int.reduceEq, Int.reduceNeg, true_or, or_true, false_or, or_false, not_false_eq_true, not_true_eq_false, false_implies, true_implies, forall_const, implies_true, Nat.zero_le, Nat.le_refl]
    refine ⟨fun _ => hq may _ ?_, fun hc => absurd hc (by omega)⟩
    rcases hi with hi | ⟨h1, h2⟩
    · exact Or.inl hi
    · exact Or.inr ⟨h1, fun h' q0 q1 => h2 h' q0 (by omega)⟩
  | succ t ih =>
    intro h may h0 ht hi
    have hbad : (∃ h', 0 ≤ h' ∧ h' < V.nh ∧ cov (V.h h' 0) (V.h h' 1) c) → Sx 141 82 [vR 69, vI a, vI b, vI w, vI may, vI c, vI 1, vI h] [] (EE L, D) (0, 0) Q := by
      intro q
      refine go_141_82 ?_
      simp only [sg_141_82, cl_I, cl_L, cl_R, e_goto, e_iconst, e_iinc, e_istore, e_nil, l_inc7, l_st4, lc_lt, lc_le, lc_gt, lc_ge, lc_eq, true_and, and_true, List.length_cons, List.length_nil, ab_ia, Nat.reduceAdd, Nat.reduceLeDiff, Nat.reduceEqDiff, Nat.reduceLT, Int.reduceLT, Int.reduceLE, Int.reduceEq, Int.reduceNeg, true_or, or_true, false_or, or_false, not_false_eq_true, not_true_eq_false, false_implies, true_implies, forall_const, implies_true, Nat.zero_le, Nat.le_refl]
      exact ⟨⟨by omega, by omega⟩, ih (h + 1) 0 (by omega) (by omega) (Or.inl ⟨rfl, q⟩)⟩
    refine go_141_67 ?_
    simp only [sg_141_67, cl_I, cl_L, cl_R, e_aload_n, e_cv3, e_get0, e_goto, e_icmp_ge, e_iconst, e_if_eq, e_if_ne, e_iload, e_nil, fl_0, fl_I, fl_L, fl_R, l_ld4, l_ld5, l_ld6, l_ld7, l_ldA0, rk_1, wRef_some, EE_n, EE_s69, e10, lc_lt, lc_le, lc_gt, lc_ge, lc_eq, true_and, and_true, List.length_cons, List.length_nil, ab_ia, Nat.reduceAdd, Nat.reduceLeDiff, Nat.reduceEqDiff, Nat.reduceLT, Int.reduceLT, Int.reduceLE, Int.reduceEq, Int.reduceNeg, true_or, or_true, false_or, or_false, not_false_eq_true, not_true_eq_false, false_implies, true_implies, forall_const, implies_true, Nat.zero_le, Nat.le_refl]
    refine ⟨fun hc => absurd hc (by omega), fun _ => ⟨fun h1 => ?_, fun h1 => ?_⟩⟩
    · rcases hi with hi | hi
      · exact hbad hi.2
      · exact absurd hi.1 (by omega)
    · rcases hi with hi | hi
      · exact absurd hi.1 h1
      · refine CB.use (m_covers hV k h0 (by omega) (by omega)) (fun h2 => ?_) (fun h2 => ?_)
        · try simp only [lc_lt, lc_le, lc_gt, lc_ge, lc_eq, true_and, and_true, List.length_cons, List.length_nil, ab_ia, Nat.reduceAdd, Nat.reduceLeDiff, Nat.reduceEqDiff, Nat.reduceLT, Int.reduceLT, Int.reduceLE, Int.reduceEq, Int.reduceNeg, true_or, or_true, false_or, or_false, not_false_eq_true, not_true_eq_false, false_implies, true_implies, forall_const, implies_true, Nat.zero_le, Nat.le_refl]
          exact hbad ⟨h, h0, by omega, h2⟩
        · try simp only [lc_lt, lc_le, lc_gt, lc_ge, lc_eq, true_and, and_true, List.length_cons, List.length_nil, ab_ia, Nat.reduceAdd, Nat.reduceLeDiff, Nat.reduceEqDiff, Nat.reduceLT, Int.reduceLT, Int.reduceLE, Int.reduceEq, Int.reduceNeg, true_or, or_true, false_or, or_false, not_false_eq_true, not_true_eq_false, false_implies, true_implies, forall_const, implies_true, Nat.zero_le, Nat.le_refl]
          refine go_141_83 ?_
          simp only [sg_141_83, cl_I, cl_L, cl_R, e_goto, e_iinc, e_istore, e_nil, l_inc7, l_st4, lc_lt, lc_le, lc_gt, lc_ge, lc_eq, true_and, and_true, List.length_cons, List.length_nil, ab_ia, Nat.reduceAdd, Nat.reduceLeDiff, Nat.reduceEqDiff, Nat.reduceLT, Int.reduceLT, Int.reduceLE, Int.reduceEq, Int.reduceNeg, true_or, or_true, false_or, or_false, not_false_eq_true, not_true_eq_false, false_implies, true_implies, forall_const, implies_true, Nat.zero_le, Nat.le_refl]
          refine ⟨⟨by omega, by omega⟩, ih (h + 1) 1 (by omega) (by omega) (Or.inr ⟨rfl, fun h' q0 q1 => ?_⟩)⟩
          by_cases z : h' = h
          · subst z; exact h2
          · exact hi.2 h' q0 (by omega)
theorem m_house_out {Q : Option ab_V → ab_H → Prop} {a b w : Int} (g : gOK G) (hg : gM D G) (hV : vM D V) (k : vOK G V) (ha : isCl G.n a) (hb : isCl G.n b) (ho : a / 10 ≤ b / 10 ∧ a % 10 ≤ b % 10)
    (hq : ∀ may c x6 x7, ((may = 0 ∧ ovl V a b) ∨ (may = 1 ∧ ¬ ovl V a b)) → Sx 141 88 [vR 69, vI a, vI b, vI w, vI may, c, x6, x7] [] (EE L, D) (0, 0) Q) :
    ∀ (t : Nat) (c may : Int) (x6 x7 : ab_V), a ≤ c → c + t = b + 1 → ((may = 0 ∧ ovl V a b) ∨ (may = 1 ∧ ∀ x h, cov a b x → x < c → 0 ≤ h → h < V.nh → ¬ cov (V.h h 0) (V.h h 1) x)) → Sx 141 38 [vR 69, vI a, vI b, vI w, vI may, vI c, x6, x7] [] (EE L, D) (0, 0) Q := by
  have hn : D 71 0 = G.n := hg.1.1
  have hn6 := g.1
  have e10 := hV.1.2.1
  have kk := k.1
  unfold isCl at ha hb
  intro t
  induction t with
  | zero =>
    intro c may x6 x7 h0 ht hi
    refine go_141_38 ?_
    simp only [sg_141_38, cl_I, cl_L, cl_R, e_aload_n, e_bipush, e_cs3, e_cv2, e_goto, e_i2l, e_icmp_gt, e_iconst, e_if_eq, e_iload, e_iload_n, e_irem, e_nil, fl_0, fl_I, fl_L, fl_R, l_ld1, l_ld2, l_ld4, l_ld5, l_ldA0, rk_1, EE_n, EE_s69, lc_lt, lc_le, lc_gt, lc_ge, lc_eq, true_and, and_true, List.length_cons, List.length_nil, ab_ia, Nat.reduceAdd, Nat.reduceLeDiff, Nat.reduceEqDiff, Nat.reduceLT, Int.reduceLT, Int.reduceLE, Int.reduceEq, Int.reduceNeg, true_or, or_true, false_or, or_false, not_false_eq_true, not_true_eq_false, false_implies, true_implies, forall_const, implies_true, Nat.zero_le, Nat.le_refl]
    refine ⟨fun _ => hq may _ _ _ ?_, fun hc => absurd hc (by omega)⟩
    rcases hi with hi | ⟨h1, h2⟩
    · exact Or.inl hi
    · refine Or.inr ⟨h1, ?_⟩
      rintro ⟨x, h, q1, q2, q3, q4⟩
      refine h2 x h q1 ?_ q2 q3 q4
      unfold cov at q1
      omega
  | succ t ih =>
    intro c may x6 x7 h0 ht hi
    have skip : (may = 1 ∧ ∀ x h, cov a b x → x < c → 0 ≤ h → h < V.nh → ¬ cov (V.h h 0) (V.h h 1) x) → ¬ cov a b c → Sx 141 63 [vR 69, vI a, vI b, vI w, vI may, vI c, x6, x7] [] (EE L, D) (0, 0) Q := by
      intro h1 hnc
      have up : ∀ x7, Sx 141 86 [vR 69, vI a, vI b, vI w, vI may, vI c, vI 0, x7] [] (EE L, D) (0, 0) Q := by
        intro x7
        refine go_141_86 ?_
        simp only [sg_141_86, cl_I, cl_L, cl_R, e_goto, e_iinc, e_nil, l_inc5, lc_lt, lc_le, lc_gt, lc_ge, lc_eq, true_and, and_true, List.length_cons, List.length_nil, ab_ia, Nat.reduceAdd, Nat.reduceLeDiff, Nat.reduceEqDiff, Nat.reduceLT, Int.reduceLT, Int.reduceLE, Int.reduceEq, Int.reduceNeg, true_or, or_true, false_or, or_false, not_false_eq_true, not_true_eq_false, false_implies, true_implies, forall_const, implies_true, Nat.zero_le, Nat.le_refl]
        refine ⟨⟨by omega, by omega⟩, ih (c + 1) may _ _ (by omega) (by omega) (Or.inr ⟨h1.1, fun x h q1 q2 => ?_⟩)⟩
        by_cases z : x = c
        · subst z; exact absurd q1 hnc
        · exact h1.2 x h q1 (by omega)
      refine go_141_63 ?_
      simp only [sg_141_63, cl_I, cl_L, cl_R, e_iconst, e_istore, e_nil, l_st6, l_st7, lc_lt, lc_le, lc_gt, lc_ge, lc_eq, true_and, and_true, List.length_cons, List.length_nil, ab_ia, Nat.reduceAdd, Nat.reduceLeDiff, Nat.reduceEqDiff, Nat.reduceLT, Int.reduceLT, Int.reduceLE, Int.reduceEq, Int.reduceNeg, true_or, or_true, false_or, or_false, not_false_eq_true, not_true_eq_false, false_implies, true_implies, forall_const, implies_true, Nat.zero_le, Nat.le_refl]
      refine go_141_67 ?_
      simp only [sg_141_67, cl_I, cl_L, cl_R, e_aload_n, e_cv3, e_get0, e_goto, e_icmp_ge, e_iconst, e_if_eq, e_if_ne, e_iload, e_nil, fl_0, fl_I, fl_L, fl_R, l_ld4, l_ld5, l_ld6, l_ld7, l_ldA0, rk_1, wRef_some, EE_n, EE_s69, e10, lc_lt, lc_le, lc_gt, lc_ge, lc_eq, true_and, and_true, List.length_cons, List.length_nil, ab_ia, Nat.reduceAdd, Nat.reduceLeDiff, Nat.reduceEqDiff, Nat.reduceLT, Int.reduceLT, Int.reduceLE, Int.reduceEq, Int.reduceNeg, true_or, or_true, false_or, or_false, not_false_eq_true, not_true_eq_false, false_implies, true_implies, forall_const, implies_true, Nat.zero_le, Nat.le_refl]
      exact ⟨fun _ => up _, fun _ => up _⟩
    refine go_141_38 ?_
    simp only [sg_141_38, cl_I, cl_L, cl_R, e_aload_n, e_bipush, e_cs3, e_cv2, e_goto, e_i2l, e_icmp_gt, e_iconst, e_if_eq, e_iload, e_iload_n, e_irem, e_nil, fl_0, fl_I, fl_L, fl_R, l_ld1, l_ld2, l_ld4, l_ld5, l_ldA0, rk_1, EE_n, EE_s69, lc_lt, lc_le, lc_gt, lc_ge, lc_eq, true_and, and_true, List.length_cons, List.length_nil, ab_ia, Nat.reduceAdd, Nat.reduceLeDiff, Nat.reduceEqDiff, Nat.reduceLT, Int.reduceLT, Int.reduceLE, Int.reduceEq, Int.reduceNeg, true_or, or_true, false_or, or_false, not_false_eq_true, not_true_eq_false, false_implies, true_implies, forall_const, implies_true, Nat.zero_le, Nat.le_refl]
    refine ⟨fun hc => absurd hc (by omega), fun _ => ⟨fun h1 => ?_, fun h1 => ?_⟩⟩
    · refine hq may _ _ _ (Or.inl ⟨h1, ?_⟩)
      rcases hi with hi | hi
      · exact hi.2
      · exact absurd hi.1 (by omega)
    · rcases hi with hi | hi
      · exact absurd hi.1 h1
      · refine CB.use m_isCell (fun h2 => ?_) (fun h2 => ?_)
        · try simp only [lc_lt, lc_le, lc_gt, lc_ge, lc_eq, true_and, and_true, List.length_cons, List.length_nil, ab_ia, Nat.reduceAdd, Nat.reduceLeDiff, Nat.reduceEqDiff, Nat.reduceLT, Int.reduceLT, Int.reduceLE, Int.reduceEq, Int.reduceNeg, true_or, or_true, false_or, or_false, not_false_eq_true, not_true_eq_false, false_implies, true_implies, forall_const, implies_true, Nat.zero_le, Nat.le_refl]
          rw [hn] at h2
          unfold isCl at h2
          refine ⟨by omega, by omega, by omega, ?_⟩
          refine CB.use m_in (fun h3 => ?_) (fun h3 => ?_)
          · try simp only [lc_lt, lc_le, lc_gt, lc_ge, lc_eq, true_and, and_true, List.length_cons, List.length_nil, ab_ia, Nat.reduceAdd, Nat.reduceLeDiff, Nat.reduceEqDiff, Nat.reduceLT, Int.reduceLT, Int.reduceLE, Int.reduceEq, Int.reduceNeg, true_or, or_true, false_or, or_false, not_false_eq_true, not_true_eq_false, false_implies, true_implies, forall_const, implies_true, Nat.zero_le, Nat.le_refl]
            have hcv : cov a b c := by unfold cov; omega
            refine go_141_64 ?_
            simp only [sg_141_64, cl_I, cl_L, cl_R, e_iconst, e_istore, e_nil, l_st6, l_st7, lc_lt, lc_le, lc_gt, lc_ge, lc_eq, true_and, and_true, List.length_cons, List.length_nil, ab_ia, Nat.reduceAdd, Nat.reduceLeDiff, Nat.reduceEqDiff, Nat.reduceLT, Int.reduceLT, Int.reduceLE, Int.reduceEq, Int.reduceNeg, true_or, or_true, false_or, or_false, not_false_eq_true, not_true_eq_false, false_implies, true_implies, forall_const, implies_true, Nat.zero_le, Nat.le_refl]
            refine m_house_in hV k (by omega) (fun may' x7 hm => ?_) V.nh.toNat 0 may (by omega) (by omega) (Or.inr ⟨hi.1, fun h' q0 q1 => absurd q1 (by omega)⟩)
            refine go_141_86 ?_
            simp only [sg_141_86, cl_I, cl_L, cl_R, e_goto, e_iinc, e_nil, l_inc5, lc_lt, lc_le, lc_gt, lc_ge, lc_eq, true_and, and_true, List.length_cons, List.length_nil, ab_ia, Nat.reduceAdd, Nat.reduceLeDiff, Nat.reduceEqDiff, Nat.reduceLT, Int.reduceLT, Int.reduceLE, Int.reduceEq, Int.reduceNeg, true_or, or_true, false_or, or_false, not_false_eq_true, not_true_eq_false, false_implies, true_implies, forall_const, implies_true, Nat.zero_le, Nat.le_refl]
            refine ⟨⟨by omega, by omega⟩, ih (c + 1) may' _ _ (by omega) (by omega) ?_⟩
            rcases hm with ⟨m1, h, m2, m3, m4⟩ | ⟨m1, m2⟩
            · exact Or.inl ⟨m1, c, h, hcv, m2, m3, m4⟩
            · refine Or.inr ⟨m1, fun x h q1 q2 => ?_⟩
              by_cases z : x = c
              · subst z; exact m2 h
              · exact hi.2 x h q1 (by omega)
          · try simp only [lc_lt, lc_le, lc_gt, lc_ge, lc_eq, true_and, and_true, List.length_cons, List.length_nil, ab_ia, Nat.reduceAdd, Nat.reduceLeDiff, Nat.reduceEqDiff, Nat.reduceLT, Int.reduceLT, Int.reduceLE, Int.reduceEq, Int.reduceNeg, true_or, or_true, false_or, or_false, not_false_eq_true, not_true_eq_false, false_implies, true_implies, forall_const, implies_true, Nat.zero_le, Nat.le_refl]
            exact skip hi (fun q => h3 (by unfold cov at q; omega))
        · try simp only [lc_lt, lc_le, lc_gt, lc_ge, lc_eq, true_and, and_true, List.length_cons, List.length_nil, ab_ia, Nat.reduceAdd, Nat.reduceLeDiff, Nat.reduceEqDiff, Nat.reduceLT, Int.reduceLT, Int.reduceLE, Int.reduceEq, Int.reduceNeg, true_or, or_true, false_or, or_false, not_false_eq_true, not_true_eq_false, false_implies, true_implies, forall_const, implies_true, Nat.zero_le, Nat.le_refl]
          rw [hn] at h2
          refine skip hi (fun q => h2 ?_)
          unfold cov at q
          unfold isCl
          omega
theorem m_house {a b w : Int} (g : gOK G) (hg : gM D G) (hV : vM D V) (k : vOK G V) : CI 141 [vR 69, vI a, vI b, vI w] (EE L, D) (fun r D' => ∃ W, hcA G V a b w r W ∧ frM D D' ∧ vM D' W) := by
  have hn : D 71 0 = G.n := hg.1.1
  have e10 := hV.1.2.1
  have kk := k.1
  refine Sx.un (y := 141) (n := 0) (lo := [vR 69, vI a, vI b, vI w, vU, vU, vU, vU]) (st := []) (u := (0, 0)) ?_
  refine go_141_0 ?_
  simp only [sg_141_0, cl_I, cl_L, cl_R, e_aload_n, e_cv2, e_iconst, e_if_eq, e_if_ne, e_iload_n, e_iret0, e_nil, fl_0, fl_I, fl_L, fl_R, l_ld1, l_ld2, l_ldA0, rk_1, EE_n, EE_s69, lc_lt, lc_le, lc_gt, lc_ge, lc_eq, true_and, and_true, List.length_cons, List.length_nil, ab_ia, Nat.reduceAdd, Nat.reduceLeDiff, Nat.reduceEqDiff, Nat.reduceLT, Int.reduceLT, Int.reduceLE, Int.reduceEq, Int.reduceNeg, true_or, or_true, false_or, or_false, not_false_eq_true, not_true_eq_false, false_implies, true_implies, forall_const, implies_true, Nat.zero_le, Nat.le_refl]
  refine CB.use m_isCell (fun h1 => ?_) (fun h1 => ?_)
  · try simp only [lc_lt, lc_le, lc_gt, lc_ge, lc_eq, true_and, and_true, List.length_cons, List.length_nil, ab_ia, Nat.reduceAdd, Nat.reduceLeDiff, Nat.reduceEqDiff, Nat.reduceLT, Int.reduceLT, Int.reduceLE, Int.reduceEq, Int.reduceNeg, true_or, or_true, false_or, or_false, not_false_eq_true, not_true_eq_false, false_implies, true_implies, forall_const, implies_true, Nat.zero_le, Nat.le_refl]
    rw [hn] at h1
    refine CB.use m_isCell (fun h2 => ?_) (fun h2 => ?_)
    · try simp only [lc_lt, lc_le, lc_gt, lc_ge, lc_eq, true_and, and_true, List.length_cons, List.length_nil, ab_ia, Nat.reduceAdd, Nat.reduceLeDiff, Nat.reduceEqDiff, Nat.reduceLT, Int.reduceLT, Int.reduceLE, Int.reduceEq, Int.reduceNeg, true_or, or_true, false_or, or_false, not_false_eq_true, not_true_eq_false, false_implies, true_implies, forall_const, implies_true, Nat.zero_le, Nat.le_refl]
      rw [hn] at h2
      refine go_141_10 ?_
      simp only [sg_141_10, cl_I, cl_L, cl_R, e_bipush, e_cs3, e_i2l, e_if_ne, e_iload_n, e_iret0, e_lconst, e_ldc2, e_nil, fl_0, fl_I, fl_L, fl_R, l_ld3, rk_1, lc_lt, lc_le, lc_gt, lc_ge, lc_eq, true_and, and_true, List.length_cons, List.length_nil, ab_ia, Nat.reduceAdd, Nat.reduceLeDiff, Nat.reduceEqDiff, Nat.reduceLT, Int.reduceLT, Int.reduceLE, Int.reduceEq, Int.reduceNeg, true_or, or_true, false_or, or_false, not_false_eq_true, not_true_eq_false, false_implies, true_implies, forall_const, implies_true, Nat.zero_le, Nat.le_refl]
      refine CB.use m_in (fun h3 => ?_) (fun h3 => ?_)
      · try simp only [lc_lt, lc_le, lc_gt, lc_ge, lc_eq, true_and, and_true, List.length_cons, List.length_nil, ab_ia, Nat.reduceAdd, Nat.reduceLeDiff, Nat.reduceEqDiff, Nat.reduceLT, Int.reduceLT, Int.reduceLE, Int.reduceEq, Int.reduceNeg, true_or, or_true, false_or, or_false, not_false_eq_true, not_true_eq_false, false_implies, true_implies, forall_const, implies_true, Nat.zero_le, Nat.le_refl]
        have fin0 : ∀ c x6 x7, (¬ (a / 10 ≤ b / 10 ∧ a % 10 ≤ b % 10) ∨ ovl V a b) → Sx 141 88 [vR 69, vI a, vI b, vI w, vI 0, c, x6, x7] [] (EE L, D) (0, 0) (fun r h' => ∃ x D', r = some (.inl x) ∧ h' = (EE L, D') ∧ ∃ W, hcA G V a b w x W ∧ frM D D' ∧ vM D' W) := by
          intro c x6 x7 q
          refine go_141_88 ?_
          simp only [sg_141_88, cl_I, cl_L, cl_R, e_bipush, e_if_ne, e_iload, e_iret0, e_nil, l_ld4, lc_lt, lc_le, lc_gt, lc_ge, lc_eq, true_and, and_true, List.length_cons, List.length_nil, ab_ia, Nat.reduceAdd, Nat.reduceLeDiff, Nat.reduceEqDiff, Nat.reduceLT, Int.reduceLT, Int.reduceLE, Int.reduceEq, Int.reduceNeg, true_or, or_true, false_or, or_false, not_false_eq_true, not_true_eq_false, false_implies, true_implies, forall_const, implies_true, Nat.zero_le, Nat.le_refl]
          exact retI ⟨V, Or.inr (Or.inr ⟨⟨h1, h2⟩, by omega, Or.inl ⟨q, rfl, rfl⟩⟩), frM.refl, hV⟩
        have fin1 : ∀ c x6 x7, (a / 10 ≤ b / 10 ∧ a % 10 ≤ b % 10) → ¬ ovl V a b → Sx 141 88 [vR 69, vI a, vI b, vI w, vI 1, c, x6, x7] [] (EE L, D) (0, 0) (fun r h' => ∃ x D', r = some (.inl x) ∧ h' = (EE L, D') ∧ ∃ W, hcA G V a b w x W ∧ frM D D' ∧ vM D' W) := by
          intro c x6 x7 q1 q2
          refine go_141_88 ?_
          simp only [sg_141_88, cl_I, cl_L, cl_R, e_bipush, e_if_ne, e_iload, e_iret0, e_nil, l_ld4, lc_lt, lc_le, lc_gt, lc_ge, lc_eq, true_and, and_true, List.length_cons, List.length_nil, ab_ia, Nat.reduceAdd, Nat.reduceLeDiff, Nat.reduceEqDiff, Nat.reduceLT, Int.reduceLT, Int.reduceLE, Int.reduceEq, Int.reduceNeg, true_or, or_true, false_or, or_false, not_false_eq_true, not_true_eq_false, false_implies, true_implies, forall_const, implies_true, Nat.zero_le, Nat.le_refl]
          refine go_141_92 ?_
          simp only [sg_141_92, cl_I, cl_L, cl_R, e_aload_n, e_bipush, e_get0, e_icmp_ne, e_iret0, e_nil, l_ldA0, wRef_some, EE_n, EE_s69, e10, lc_lt, lc_le, lc_gt, lc_ge, lc_eq, true_and, and_true, List.length_cons, List.length_nil, ab_ia, Nat.reduceAdd, Nat.reduceLeDiff, Nat.reduceEqDiff, Nat.reduceLT, Int.reduceLT, Int.reduceLE, Int.reduceEq, Int.reduceNeg, true_or, or_true, false_or, or_false, not_false_eq_true, not_true_eq_false, false_implies, true_implies, forall_const, implies_true, Nat.zero_le, Nat.le_refl]
          refine ⟨fun h4 => ?_, fun h4 => ?_⟩
          · refine go_141_98 ?_
            simp only [sg_141_98, cl_I, cl_L, cl_R, e_aload_n, e_dupI, e_dupR, e_get0, e_get1, e_iadd, e_iastore, e_iconst, e_iload_n, e_imul, e_iret0, e_isub, e_nil, e_put0, l_ld1, l_ld2, l_ld3, l_ldA0, wRef_some, EE_n, EE_r69_11, EE_s69, EE_s75, e10, lc_lt, lc_le, lc_gt, lc_ge, lc_eq, true_and, and_true, List.length_cons, List.length_nil, ab_ia, Nat.reduceAdd, Nat.reduceLeDiff, Nat.reduceEqDiff, Nat.reduceLT, Int.reduceLT, Int.reduceLE, Int.reduceEq, Int.reduceNeg, true_or, or_true, false_or, or_false, not_false_eq_true, not_true_eq_false, false_implies, true_implies, forall_const, implies_true, Nat.zero_le, Nat.le_refl]
            simp (disch := omega) only [ups_ne1, ups_self, e10]
            refine ⟨⟨by omega, by omega⟩, by omega, ⟨by omega, by omega⟩, ⟨by omega, by omega⟩, by omega, ⟨by omega, by omega⟩, ⟨by omega, by omega⟩, by omega, ⟨by omega, by omega⟩, ⟨by omega, by omega⟩, by omega, ⟨by omega, by omega⟩, ⟨by omega, by omega⟩, ?_⟩
            refine retI ⟨hsV V a b w, Or.inr (Or.inr ⟨⟨h1, h2⟩, by omega, Or.inr (Or.inr ⟨⟨q1, q2⟩, by omega, by omega, rfl⟩)⟩), ?_, ?_⟩
            · exact frM_ups (by omega) (frM_ups (by omega) (frM_ups (by omega) (frM_ups (by omega) (frM_ups (by omega) frM.refl))))
            · obtain ⟨⟨a1, a2, a3⟩, hb, hc⟩ := hV
              refine ⟨⟨?_, ?_, ?_⟩, fun p p0 p1 => ?_, fun h h0 h1 => ?_⟩
              · simp (disch := omega) only [ups_ne1, ups_ne2]; exact a1
              · rw [ups_self]; rfl
              · simp (disch := omega) only [ups_ne1, ups_ne2]; exact a3
              · simp (disch := omega) only [ups_ne1, ups_ne2]; exact hb p p0 p1
              · have h1 : h < V.nh + 1 := h1
                by_cases q : h = V.nh
                · subst q
                  have n0 : (hsV V a b w).h V.nh 0 = a := by unfold hsV Vil.h; simp [Vil.nh]
                  have n1 : (hsV V a b w).h V.nh 1 = b := by unfold hsV Vil.h; simp [Vil.nh]
                  have n2 : (hsV V a b w).h V.nh 2 = w := by unfold hsV Vil.h; simp [Vil.nh]
                  have n3 : (hsV V a b w).h V.nh 3 = 0 := by unfold hsV Vil.h; simp [Vil.nh]
                  rw [n0, n1, n2, n3]
                  simp (disch := omega) only [ups_ne1, ups_ne2, ups_self, and_self, if_true]
                · have nn : ∀ i, (hsV V a b w).h h i = V.h h i := fun i => by
                    show (if h = V.nh then _ else V.h h i) = V.h h i
                    rw [if_neg q]
                  rw [nn, nn, nn, nn]
                  simp (disch := omega) only [ups_ne1, ups_ne2]
                  exact hc h h0 (by omega)
          · exact retI ⟨V, Or.inr (Or.inr ⟨⟨h1, h2⟩, by omega, Or.inr (Or.inl ⟨⟨q1, q2⟩, by omega, rfl, rfl⟩)⟩), frM.refl, hV⟩
        have no : ¬ (a / 10 ≤ b / 10 ∧ a % 10 ≤ b % 10) → ∀ x4 x5 x6 x7, Sx 141 34 [vR 69, vI a, vI b, vI w, x4, x5, x6, x7] [] (EE L, D) (0, 0) (fun r h' => ∃ x D', r = some (.inl x) ∧ h' = (EE L, D') ∧ ∃ W, hcA G V a b w x W ∧ frM D D' ∧ vM D' W) := by
          intro q x4 x5 x6 x7
          refine go_141_34 ?_
          simp only [sg_141_34, cl_I, cl_L, cl_R, e_iconst, e_iload_n, e_istore, e_nil, l_ld1, l_st4, l_st5, lc_lt, lc_le, lc_gt, lc_ge, lc_eq, true_and, and_true, List.length_cons, List.length_nil, ab_ia, Nat.reduceAdd, Nat.reduceLeDiff, Nat.reduceEqDiff, Nat.reduceLT, Int.reduceLT, Int.reduceLE, Int.reduceEq, Int.reduceNeg, true_or, or_true, false_or, or_false, not_false_eq_true, not_true_eq_false, false_implies, true_implies, forall_const, implies_true, Nat.zero_le, Nat.le_refl]
          refine go_141_38 ?_
          simp only [sg_141_38, cl_I, cl_L, cl_R, e_aload_n, e_bipush, e_cs3, e_cv2, e_goto, e_i2l, e_icmp_gt, e_iconst, e_if_eq, e_iload, e_iload_n, e_irem, e_nil, fl_0, fl_I, fl_L, fl_R, l_ld1, l_ld2, l_ld4, l_ld5, l_ldA0, rk_1, EE_n, EE_s69, lc_lt, lc_le, lc_gt, lc_ge, lc_eq, true_and, and_true, List.length_cons, List.length_nil, ab_ia, Nat.reduceAdd, Nat.reduceLeDiff, Nat.reduceEqDiff, Nat.reduceLT, Int.reduceLT, Int.reduceLE, Int.reduceEq, Int.reduceNeg, true_or, or_true, false_or, or_false, not_false_eq_true, not_true_eq_false, false_implies, true_implies, forall_const, implies_true, Nat.zero_le, Nat.le_refl]
          exact ⟨fun _ => fin0 _ _ _ (Or.inl q), fun _ => fin0 _ _ _ (Or.inl q)⟩
        have h1' := h1
        have h2' := h2
        unfold isCl at h1' h2'
        refine go_141_18 ?_
        simp only [sg_141_18, cl_I, cl_L, cl_R, e_bipush, e_goto, e_icmp_lt, e_iconst, e_idiv, e_iload_n, e_irem, e_nil, l_ld1, l_ld2, lc_lt, lc_le, lc_gt, lc_ge, lc_eq, true_and, and_true, List.length_cons, List.length_nil, ab_ia, Nat.reduceAdd, Nat.reduceLeDiff, Nat.reduceEqDiff, Nat.reduceLT, Int.reduceLT, Int.reduceLE, Int.reduceEq, Int.reduceNeg, true_or, or_true, false_or, or_false, not_false_eq_true, not_true_eq_false, false_implies, true_implies, forall_const, implies_true, Nat.zero_le, Nat.le_refl]
        refine ⟨by omega, by omega, fun h4 => ?_, fun h4 => ⟨by omega, by omega, fun h5 => ?_, fun h5 => ?_⟩⟩
        · exact no (by omega) _ _ _ _
        · exact no (by omega) _ _ _ _
        · refine go_141_35 ?_
          simp only [sg_141_35, cl_I, cl_L, cl_R, e_iload_n, e_istore, e_nil, l_ld1, l_st4, l_st5, lc_lt, lc_le, lc_gt, lc_ge, lc_eq, true_and, and_true, List.length_cons, List.length_nil, ab_ia, Nat.reduceAdd, Nat.reduceLeDiff, Nat.reduceEqDiff, Nat.reduceLT, Int.reduceLT, Int.reduceLE, Int.reduceEq, Int.reduceNeg, true_or, or_true, false_or, or_false, not_false_eq_true, not_true_eq_false, false_implies, true_implies, forall_const, implies_true, Nat.zero_le, Nat.le_refl]
          refine m_house_out g hg hV k h1 h2 (by omega) (fun may c x6 x7 hm => ?_) (b + 1 - a).toNat a 1 _ _ (by omega) (by omega) (Or.inr ⟨rfl, fun x h q1 q2 => ?_⟩)
          · rcases hm with ⟨rfl, q⟩ | ⟨rfl, q⟩
            · exact fin0 _ _ _ (Or.inr q)
            · exact fin1 _ _ _ (by omega) q
          · unfold cov at q1
            omega
      · try simp only [lc_lt, lc_le, lc_gt, lc_ge, lc_eq, true_and, and_true, List.length_cons, List.length_nil, ab_ia, Nat.reduceAdd, Nat.reduceLeDiff, Nat.reduceEqDiff, Nat.reduceLT, Int.reduceLT, Int.reduceLE, Int.reduceEq, Int.reduceNeg, true_or, or_true, false_or, or_false, not_false_eq_true, not_true_eq_false, false_implies, true_implies, forall_const, implies_true, Nat.zero_le, Nat.le_refl]
        exact retI ⟨V, Or.inr (Or.inl ⟨⟨h1, h2⟩, by omega, rfl, rfl⟩), frM.refl, hV⟩
    · try simp only [lc_lt, lc_le, lc_gt, lc_ge, lc_eq, true_and, and_true, List.length_cons, List.length_nil, ab_ia, Nat.reduceAdd, Nat.reduceLeDiff, Nat.reduceEqDiff, Nat.reduceLT, Int.reduceLT, Int.reduceLE, Int.reduceEq, Int.reduceNeg, true_or, or_true, false_or, or_false, not_false_eq_true, not_true_eq_false, false_implies, true_implies, forall_const, implies_true, Nat.zero_le, Nat.le_refl]
      rw [hn] at h2
      exact retI ⟨V, Or.inl ⟨fun q => h2 q.2, rfl, rfl⟩, frM.refl, hV⟩
  · try simp only [lc_lt, lc_le, lc_gt, lc_ge, lc_eq, true_and, and_true, List.length_cons, List.length_nil, ab_ia, Nat.reduceAdd, Nat.reduceLeDiff, Nat.reduceEqDiff, Nat.reduceLT, Int.reduceLT, Int.reduceLE, Int.reduceEq, Int.reduceNeg, true_or, or_true, false_or, or_false, not_false_eq_true, not_true_eq_false, false_implies, true_implies, forall_const, implies_true, Nat.zero_le, Nat.le_refl]
    rw [hn] at h1
    refine go_141_8 ?_
    simp only [sg_141_8, cl_I, cl_L, cl_R, e_iconst, e_iret0, e_nil, lc_lt, lc_le, lc_gt, lc_ge, lc_eq, true_and, and_true, List.length_cons, List.length_nil, ab_ia, Nat.reduceAdd, Nat.reduceLeDiff, Nat.reduceEqDiff, Nat.reduceLT, Int.reduceLT, Int.reduceLE, Int.reduceEq, Int.reduceNeg, true_or, or_true, false_or, or_false, not_false_eq_true, not_true_eq_false, false_implies, true_implies, forall_const, implies_true, Nat.zero_le, Nat.le_refl]
    exact retI ⟨V, Or.inl ⟨fun q => h1 q.1, rfl, rfl⟩, frM.refl, hV⟩
theorem vP_cg {v : Nat} {D' : ab_D} (h : ∀ a, v ≤ a → a ≤ v + 11 → D' a = D a) (q : vP D v V) : vP D' v V := by
  unfold vP at *
  rw [h v (by omega) (by omega), h (v + 1) (by omega) (by omega), h (v + 2) (by omega) (by omega), h (v + 3) (by omega) (by omega), h (v + 4) (by omega) (by omega), h (v + 5) (by omega) (by omega), h (v + 6) (by omega) (by omega), h (v + 7) (by omega) (by omega), h (v + 8) (by omega) (by omega), h (v + 9) (by omega) (by omega), h (v + 10) (by omega) (by omega), h (v + 11) (by omega) (by omega)]
  exact q
theorem vM_cg {D' : ab_D} (h8 : D' 69 8 = D 69 8) (h10 : D' 69 10 = D 69 10) (h12 : D' 69 12 = D 69 12) (h74 : D' 74 = D 74) (h75 : D' 75 = D 75) (q : vM D V) : vM D' V := by
  unfold vM at *
  rw [h8, h10, h12, h74, h75]
  exact q
/-- a slot of the class is written: place v, flag j -/
def kpD (D D' : ab_D) (v j : Nat) : Prop := (∀ a, ¬ (v ≤ a ∧ a ≤ v + 11) → a ≠ 58 → D' a = D a) ∧ ∀ i, i ≠ j → D' 58 i = D 58 i
theorem p_keep {s : Int} (hV : vP D 9 V) (k : vOK G V) : CI 102 [vR 0, vI s] (EE L, D) (fun r D' => (¬ (0 ≤ s ∧ s ≤ 1) ∧ r = -1 ∧ D' = D) ∨ ∃ v j : Nat, ((s = 0 ∧ v = 34 ∧ j = 0) ∨ (s = 1 ∧ v = 46 ∧ j = 1)) ∧ r = stdg V ∧ kpD D D' v j ∧ vP D' v V ∧ D' 58 j = 1) := by
  refine Sx.un (y := 102) (n := 0) (lo := [vR 0, vI s]) (st := []) (u := (0, 0)) ?_
  refine go_102_0 ?_
  simp only [sg_102_0, cl_I, cl_L, cl_R, e_icmp_lt, e_iconst, e_if_lt, e_iload_n, e_iret0, e_nil, l_ld1, lc_lt, lc_le, lc_gt, lc_ge, lc_eq, true_and, and_true, List.length_cons, List.length_nil, ab_ia, Nat.reduceAdd, Nat.reduceLeDiff, Nat.reduceEqDiff, Nat.reduceLT, Int.reduceLT, Int.reduceLE, Int.reduceEq, Int.reduceNeg, true_or, or_true, false_or, or_false, not_false_eq_true, not_true_eq_false, false_implies, true_implies, forall_const, implies_true, Nat.zero_le, Nat.le_refl]
  refine ⟨fun h1 => ?_, fun h1 => ⟨fun h2 => ?_, fun h2 => ?_⟩⟩
  · refine go_102_5 ?_
    simp only [sg_102_5, cl_I, cl_L, cl_R, e_iconst, e_iret0, e_nil, lc_lt, lc_le, lc_gt, lc_ge, lc_eq, true_and, and_true, List.length_cons, List.length_nil, ab_ia, Nat.reduceAdd, Nat.reduceLeDiff, Nat.reduceEqDiff, Nat.reduceLT, Int.reduceLT, Int.reduceLE, Int.reduceEq, Int.reduceNeg, true_or, or_true, false_or, or_false, not_false_eq_true, not_true_eq_false, false_implies, true_implies, forall_const, implies_true, Nat.zero_le, Nat.le_refl]
    exact retI (Or.inl ⟨by omega, rfl, rfl⟩)
  · have h3 : s = 0 ∨ s = 1 := by omega
    rcases h3 with rfl | rfl
    · refine go_102_7 ?_
      simp only [sg_102_7, cl_I, cl_L, cl_R, e_aaload, e_aload_n, e_bastore, e_cv1, e_cv2, e_get1, e_iconst, e_iload_n, e_iret0, e_nil, fl_0, fl_I, fl_L, fl_R, l_ld1, l_ldA0, rk_0, rk_1, wRef_some, EE_n, EE_r0_4, EE_r0_6, EE_r0_7, EE_s0, EE_s21, EE_s33, EE_s58, EE_s9, EE_s33, EE_r33_0, EE_s34, EE_s9, Int.reduceToNat, wRef_some, lc_lt, lc_le, lc_gt, lc_ge, lc_eq, true_and, and_true, List.length_cons, List.length_nil, ab_ia, Nat.reduceAdd, Nat.reduceLeDiff, Nat.reduceEqDiff, Nat.reduceLT, Int.reduceLT, Int.reduceLE, Int.reduceEq, Int.reduceNeg, true_or, or_true, false_or, or_false, not_false_eq_true, not_true_eq_false, false_implies, true_implies, forall_const, implies_true, Nat.zero_le, Nat.le_refl]
      refine ⟨by decide, ?_⟩
      refine (v_copy isV34 isV9 (by omega) hV k).mono ?_
      rintro D' ⟨hf, hW⟩
      refine ⟨by decide, ?_⟩
      have h9 : vP (ups D' 58 0 1) 9 V := vP_cg (fun a q1 q2 => by
        funext j
        rw [ups_ne1 (by omega), hf a (by omega)]) hV
      refine CI.use (v_standing isV9 h9 k) ?_
      refine retI (Or.inr ⟨34, 0, by omega, rfl, ⟨fun a q1 q2 => ?_, fun i hi => ?_⟩, vP_cg (fun a q1 q2 => ?_) hW, ups_self⟩)
      · funext j
        rw [ups_ne1 q2, hf a q1]
      · rw [ups_ne2 hi, hf 58 (by omega)]
      · funext j
        rw [ups_ne1 (by omega)]
    · refine go_102_7 ?_
      simp only [sg_102_7, cl_I, cl_L, cl_R, e_aaload, e_aload_n, e_bastore, e_cv1, e_cv2, e_get1, e_iconst, e_iload_n, e_iret0, e_nil, fl_0, fl_I, fl_L, fl_R, l_ld1, l_ldA0, rk_0, rk_1, wRef_some, EE_n, EE_r0_4, EE_r0_6, EE_r0_7, EE_s0, EE_s21, EE_s33, EE_s58, EE_s9, EE_s33, EE_r33_1, EE_s46, EE_s9, Int.reduceToNat, wRef_some, lc_lt, lc_le, lc_gt, lc_ge, lc_eq, true_and, and_true, List.length_cons, List.length_nil, ab_ia, Nat.reduceAdd, Nat.reduceLeDiff, Nat.reduceEqDiff, Nat.reduceLT, Int.reduceLT, Int.reduceLE, Int.reduceEq, Int.reduceNeg, true_or, or_true, false_or, or_false, not_false_eq_true, not_true_eq_false, false_implies, true_implies, forall_const, implies_true, Nat.zero_le, Nat.le_refl]
      refine ⟨by decide, ?_⟩
      refine (v_copy isV46 isV9 (by omega) hV k).mono ?_
      rintro D' ⟨hf, hW⟩
      refine ⟨by decide, ?_⟩
      have h9 : vP (ups D' 58 1 1) 9 V := vP_cg (fun a q1 q2 => by
        funext j
        rw [ups_ne1 (by omega), hf a (by omega)]) hV
      refine CI.use (v_standing isV9 h9 k) ?_
      refine retI (Or.inr ⟨46, 1, by omega, rfl, ⟨fun a q1 q2 => ?_, fun i hi => ?_⟩, vP_cg (fun a q1 q2 => ?_) hW, ups_self⟩)
      · funext j
        rw [ups_ne1 q2, hf a q1]
      · rw [ups_ne2 hi, hf 58 (by omega)]
      · funext j
        rw [ups_ne1 (by omega)]
  · exact retI (Or.inl ⟨by omega, rfl, rfl⟩)
theorem p_again {s : Int} {W : Int → Vil} (h0 : D 58 0 ≠ 0 → vP D 34 (W 0) ∧ vOK G (W 0)) (h1' : D 58 1 ≠ 0 → vP D 46 (W 1) ∧ vOK G (W 1)) : CI 103 [vR 0, vI s] (EE L, D) (fun r D' => (¬ (0 ≤ s ∧ s ≤ 1) ∧ r = -1 ∧ D' = D) ∨ ((0 ≤ s ∧ s ≤ 1) ∧ D 58 s.toNat = 0 ∧ r = -3 ∧ D' = D) ∨ ((0 ≤ s ∧ s ≤ 1) ∧ D 58 s.toNat ≠ 0 ∧ r = stdg (W s) ∧ fr 9 D D' ∧ vP D' 9 (W s))) := by
  refine Sx.un (y := 103) (n := 0) (lo := [vR 0, vI s]) (st := []) (u := (0, 0)) ?_
  refine go_103_0 ?_
  simp only [sg_103_0, cl_I, cl_L, cl_R, e_icmp_lt, e_iconst, e_if_lt, e_iload_n, e_iret0, e_nil, l_ld1, lc_lt, lc_le, lc_gt, lc_ge, lc_eq, true_and, and_true, List.length_cons, List.length_nil, ab_ia, Nat.reduceAdd, Nat.reduceLeDiff, Nat.reduceEqDiff, Nat.reduceLT, Int.reduceLT, Int.reduceLE, Int.reduceEq, Int.reduceNeg, true_or, or_true, false_or, or_false, not_false_eq_true, not_true_eq_false, false_implies, true_implies, forall_const, implies_true, Nat.zero_le, Nat.le_refl]
  refine ⟨fun h1 => ?_, fun h1 => ⟨fun h2 => ?_, fun h2 => ?_⟩⟩
  · refine go_103_5 ?_
    simp only [sg_103_5, cl_I, cl_L, cl_R, e_iconst, e_iret0, e_nil, lc_lt, lc_le, lc_gt, lc_ge, lc_eq, true_and, and_true, List.length_cons, List.length_nil, ab_ia, Nat.reduceAdd, Nat.reduceLeDiff, Nat.reduceEqDiff, Nat.reduceLT, Int.reduceLT, Int.reduceLE, Int.reduceEq, Int.reduceNeg, true_or, or_true, false_or, or_false, not_false_eq_true, not_true_eq_false, false_implies, true_implies, forall_const, implies_true, Nat.zero_le, Nat.le_refl]
    exact retI (Or.inl ⟨by omega, rfl, rfl⟩)
  · have h3 : s = 0 ∨ s = 1 := by omega
    rcases h3 with rfl | rfl
    · refine go_103_7 ?_
      simp only [sg_103_7, cl_I, cl_L, cl_R, e_aload_n, e_baload, e_bipush, e_get1, e_if_ne, e_iload_n, e_iret0, e_nil, l_ld1, l_ldA0, wRef_some, EE_n, EE_r0_7, EE_s0, EE_s58, Int.reduceToNat, lc_lt, lc_le, lc_gt, lc_ge, lc_eq, true_and, and_true, List.length_cons, List.length_nil, ab_ia, Nat.reduceAdd, Nat.reduceLeDiff, Nat.reduceEqDiff, Nat.reduceLT, Int.reduceLT, Int.reduceLE, Int.reduceEq, Int.reduceNeg, true_or, or_true, false_or, or_false, not_false_eq_true, not_true_eq_false, false_implies, true_implies, forall_const, implies_true, Nat.zero_le, Nat.le_refl]
      refine ⟨by decide, fun h4 => ?_, fun h4 => ?_⟩
      · obtain ⟨q1, q2⟩ := h0 h4
        refine go_103_14 ?_
        simp only [sg_103_14, cl_I, cl_L, cl_R, e_aaload, e_aload_n, e_cv1, e_cv2, e_get1, e_iload_n, e_iret0, e_nil, fl_0, fl_I, fl_L, fl_R, l_ld1, l_ldA0, rk_0, rk_1, wRef_some, EE_n, EE_r0_4, EE_r0_6, EE_s0, EE_s21, EE_s33, EE_s9, EE_s33, EE_r33_0, EE_s34, EE_s9, Int.reduceToNat, wRef_some, lc_lt, lc_le, lc_gt, lc_ge, lc_eq, true_and, and_true, List.length_cons, List.length_nil, ab_ia, Nat.reduceAdd, Nat.reduceLeDiff, Nat.reduceEqDiff, Nat.reduceLT, Int.reduceLT, Int.reduceLE, Int.reduceEq, Int.reduceNeg, true_or, or_true, false_or, or_false, not_false_eq_true, not_true_eq_false, false_implies, true_implies, forall_const, implies_true, Nat.zero_le, Nat.le_refl]
        refine ⟨by decide, ?_⟩
        refine (v_copy isV9 isV34 (by omega) q1 q2).mono ?_
        rintro D' ⟨hf, hW⟩
        refine CI.use (v_standing isV9 hW q2) ?_
        exact retI (Or.inr (Or.inr ⟨h4, rfl, hf, hW⟩))
      · exact retI (Or.inr (Or.inl ⟨Decidable.not_not.mp h4, rfl, rfl⟩))
    · refine go_103_7 ?_
      simp only [sg_103_7, cl_I, cl_L, cl_R, e_aload_n, e_baload, e_bipush, e_get1, e_if_ne, e_iload_n, e_iret0, e_nil, l_ld1, l_ldA0, wRef_some, EE_n, EE_r0_7, EE_s0, EE_s58, Int.reduceToNat, lc_lt, lc_le, lc_gt, lc_ge, lc_eq, true_and, and_true, List.length_cons, List.length_nil, ab_ia, Nat.reduceAdd, Nat.reduceLeDiff, Nat.reduceEqDiff, Nat.reduceLT, Int.reduceLT, Int.reduceLE, Int.reduceEq, Int.reduceNeg, true_or, or_true, false_or, or_false, not_false_eq_true, not_true_eq_false, false_implies, true_implies, forall_const, implies_true, Nat.zero_le, Nat.le_refl]
      refine ⟨by decide, fun h4 => ?_, fun h4 => ?_⟩
      · obtain ⟨q1, q2⟩ := h1' h4
        refine go_103_14 ?_
        simp only [sg_103_14, cl_I, cl_L, cl_R, e_aaload, e_aload_n, e_cv1, e_cv2, e_get1, e_iload_n, e_iret0, e_nil, fl_0, fl_I, fl_L, fl_R, l_ld1, l_ldA0, rk_0, rk_1, wRef_some, EE_n, EE_r0_4, EE_r0_6, EE_s0, EE_s21, EE_s33, EE_s9, EE_s33, EE_r33_1, EE_s46, EE_s9, Int.reduceToNat, wRef_some, lc_lt, lc_le, lc_gt, lc_ge, lc_eq, true_and, and_true, List.length_cons, List.length_nil, ab_ia, Nat.reduceAdd, Nat.reduceLeDiff, Nat.reduceEqDiff, Nat.reduceLT, Int.reduceLT, Int.reduceLE, Int.reduceEq, Int.reduceNeg, true_or, or_true, false_or, or_false, not_false_eq_true, not_true_eq_false, false_implies, true_implies, forall_const, implies_true, Nat.zero_le, Nat.le_refl]
        refine ⟨by decide, ?_⟩
        refine (v_copy isV9 isV46 (by omega) q1 q2).mono ?_
        rintro D' ⟨hf, hW⟩
        refine CI.use (v_standing isV9 hW q2) ?_
        exact retI (Or.inr (Or.inr ⟨h4, rfl, hf, hW⟩))
      · exact retI (Or.inr (Or.inl ⟨Decidable.not_not.mp h4, rfl, rfl⟩))
  · exact retI (Or.inl ⟨by omega, rfl, rfl⟩)
theorem m_keep {s : Int} (hV : vM D V) (k : vOK G V) : CI 186 [vR 69, vI s] (EE L, D) (fun r D' => (¬ (0 ≤ s ∧ s ≤ 1) ∧ r = -1 ∧ D' = D) ∨ ((0 ≤ s ∧ s ≤ 1) ∧ r = stdg V ∧ frK s D D' ∧ vK D' s V ∧ D' 77 s.toNat = 1)) := by
  refine Sx.un (y := 186) (n := 0) (lo := [vR 69, vI s]) (st := []) (u := (0, 0)) ?_
  refine go_186_0 ?_
  simp only [sg_186_0, cl_I, cl_L, cl_R, e_cs3, e_i2l, e_iconst, e_if_ne, e_iload_n, e_iret0, e_lconst, e_nil, fl_0, fl_I, fl_L, fl_R, l_ld1, rk_1, lc_lt, lc_le, lc_gt, lc_ge, lc_eq, true_and, and_true, List.length_cons, List.length_nil, ab_ia, Nat.reduceAdd, Nat.reduceLeDiff, Nat.reduceEqDiff, Nat.reduceLT, Int.reduceLT, Int.reduceLE, Int.reduceEq, Int.reduceNeg, true_or, or_true, false_or, or_false, not_false_eq_true, not_true_eq_false, false_implies, true_implies, forall_const, implies_true, Nat.zero_le, Nat.le_refl]
  refine CB.use m_in (fun h1 => ?_) (fun h1 => ?_)
  · try simp only [lc_lt, lc_le, lc_gt, lc_ge, lc_eq, true_and, and_true, List.length_cons, List.length_nil, ab_ia, Nat.reduceAdd, Nat.reduceLeDiff, Nat.reduceEqDiff, Nat.reduceLT, Int.reduceLT, Int.reduceLE, Int.reduceEq, Int.reduceNeg, true_or, or_true, false_or, or_false, not_false_eq_true, not_true_eq_false, false_implies, true_implies, forall_const, implies_true, Nat.zero_le, Nat.le_refl]
    refine go_186_8 ?_
    simp only [sg_186_8, cl_I, cl_L, cl_R, e_aload_n, e_cv1, e_cv2, e_iload_n, e_iret0, e_nil, fl_0, fl_I, fl_L, fl_R, l_ld1, l_ldA0, rk_0, rk_1, EE_n, EE_s69, lc_lt, lc_le, lc_gt, lc_ge, lc_eq, true_and, and_true, List.length_cons, List.length_nil, ab_ia, Nat.reduceAdd, Nat.reduceLeDiff, Nat.reduceEqDiff, Nat.reduceLT, Int.reduceLT, Int.reduceLE, Int.reduceEq, Int.reduceNeg, true_or, or_true, false_or, or_false, not_false_eq_true, not_true_eq_false, false_implies, true_implies, forall_const, implies_true, Nat.zero_le, Nat.le_refl]
    refine (m_putBy (by omega) hV).mono ?_
    rintro D' ⟨hf, hK, h77⟩
    have c69 := hf.1 69 (by decide) (by decide) (by decide) (by decide)
    refine CI.use (m_standing (vM_cg (by rw [c69]) (by rw [c69]) (by rw [c69]) (hf.1 74 (by decide) (by decide) (by decide) (by decide)) (hf.1 75 (by decide) (by decide) (by decide) (by decide)) hV) k) ?_
    exact retI (Or.inr ⟨by omega, rfl, hf, hK, h77⟩)
  · try simp only [lc_lt, lc_le, lc_gt, lc_ge, lc_eq, true_and, and_true, List.length_cons, List.length_nil, ab_ia, Nat.reduceAdd, Nat.reduceLeDiff, Nat.reduceEqDiff, Nat.reduceLT, Int.reduceLT, Int.reduceLE, Int.reduceEq, Int.reduceNeg, true_or, or_true, false_or, or_false, not_false_eq_true, not_true_eq_false, false_implies, true_implies, forall_const, implies_true, Nat.zero_le, Nat.le_refl]
    exact retI (Or.inl ⟨by omega, rfl, rfl⟩)
theorem m_again {s : Int} {W : Int → Vil} (h0 : ∀ s, (0 ≤ s ∧ s ≤ 1) → D 77 s.toNat ≠ 0 → vK D s (W s) ∧ vOK G (W s)) : CI 187 [vR 69, vI s] (EE L, D) (fun r D' => (¬ (0 ≤ s ∧ s ≤ 1) ∧ r = -1 ∧ D' = D) ∨ ((0 ≤ s ∧ s ≤ 1) ∧ D 77 s.toNat = 0 ∧ r = -3 ∧ D' = D) ∨ ((0 ≤ s ∧ s ≤ 1) ∧ D 77 s.toNat ≠ 0 ∧ r = stdg (W s) ∧ frB D D' ∧ vM D' (W s))) := by
  refine Sx.un (y := 187) (n := 0) (lo := [vR 69, vI s]) (st := []) (u := (0, 0)) ?_
  refine go_187_0 ?_
  simp only [sg_187_0, cl_I, cl_L, cl_R, e_cs3, e_i2l, e_iconst, e_if_ne, e_iload_n, e_iret0, e_lconst, e_nil, fl_0, fl_I, fl_L, fl_R, l_ld1, rk_1, lc_lt, lc_le, lc_gt, lc_ge, lc_eq, true_and, and_true, List.length_cons, List.length_nil, ab_ia, Nat.reduceAdd, Nat.reduceLeDiff, Nat.reduceEqDiff, Nat.reduceLT, Int.reduceLT, Int.reduceLE, Int.reduceEq, Int.reduceNeg, true_or, or_true, false_or, or_false, not_false_eq_true, not_true_eq_false, false_implies, true_implies, forall_const, implies_true, Nat.zero_le, Nat.le_refl]
  refine CB.use m_in (fun h1 => ?_) (fun h1 => ?_)
  · try simp only [lc_lt, lc_le, lc_gt, lc_ge, lc_eq, true_and, and_true, List.length_cons, List.length_nil, ab_ia, Nat.reduceAdd, Nat.reduceLeDiff, Nat.reduceEqDiff, Nat.reduceLT, Int.reduceLT, Int.reduceLE, Int.reduceEq, Int.reduceNeg, true_or, or_true, false_or, or_false, not_false_eq_true, not_true_eq_false, false_implies, true_implies, forall_const, implies_true, Nat.zero_le, Nat.le_refl]
    refine go_187_8 ?_
    simp only [sg_187_8, cl_I, cl_L, cl_R, e_aload_n, e_baload, e_bipush, e_get1, e_if_ne, e_iload_n, e_iret0, e_nil, l_ld1, l_ldA0, wRef_some, EE_n, EE_r69_14, EE_s69, EE_s77, lc_lt, lc_le, lc_gt, lc_ge, lc_eq, true_and, and_true, List.length_cons, List.length_nil, ab_ia, Nat.reduceAdd, Nat.reduceLeDiff, Nat.reduceEqDiff, Nat.reduceLT, Int.reduceLT, Int.reduceLE, Int.reduceEq, Int.reduceNeg, true_or, or_true, false_or, or_false, not_false_eq_true, not_true_eq_false, false_implies, true_implies, forall_const, implies_true, Nat.zero_le, Nat.le_refl]
    refine ⟨by omega, fun h4 => ?_, fun h4 => ?_⟩
    · obtain ⟨q1, q2⟩ := h0 s (by omega) h4
      refine go_187_15 ?_
      simp only [sg_187_15, cl_I, cl_L, cl_R, e_aload_n, e_cv1, e_cv2, e_iload_n, e_iret0, e_nil, fl_0, fl_I, fl_L, fl_R, l_ld1, l_ldA0, rk_0, rk_1, EE_n, EE_s69, lc_lt, lc_le, lc_gt, lc_ge, lc_eq, true_and, and_true, List.length_cons, List.length_nil, ab_ia, Nat.reduceAdd, Nat.reduceLeDiff, Nat.reduceEqDiff, Nat.reduceLT, Int.reduceLT, Int.reduceLE, Int.reduceEq, Int.reduceNeg, true_or, or_true, false_or, or_false, not_false_eq_true, not_true_eq_false, false_implies, true_implies, forall_const, implies_true, Nat.zero_le, Nat.le_refl]
      refine (m_putBack (by omega) q1 q2).mono ?_
      rintro D' ⟨hf, hW⟩
      refine CI.use (m_standing hW q2) ?_
      exact retI (Or.inr (Or.inr ⟨by omega, h4, rfl, hf, hW⟩))
    · exact retI (Or.inr (Or.inl ⟨by omega, Decidable.not_not.mp h4, rfl, rfl⟩))
  · try simp only [lc_lt, lc_le, lc_gt, lc_ge, lc_eq, true_and, and_true, List.length_cons, List.length_nil, ab_ia, Nat.reduceAdd, Nat.reduceLeDiff, Nat.reduceEqDiff, Nat.reduceLT, Int.reduceLT, Int.reduceLE, Int.reduceEq, Int.reduceNeg, true_or, or_true, false_or, or_false, not_false_eq_true, not_true_eq_false, false_implies, true_implies, forall_const, implies_true, Nat.zero_le, Nat.le_refl]
    exact retI (Or.inl ⟨by omega, rfl, rfl⟩)
end Slots

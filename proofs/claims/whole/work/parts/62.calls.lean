/-! poles, houses, what is told of them -/
def tlF (G : Gr) (V : Vil) (p w : Int) : Int := if 0 ≤ p ∧ p < V.np then (if 0 ≤ w ∧ w ≤ 5 then V.p p w else if w = 6 then (if V.p p 7 = -9 then 1 else 0) else if w = 7 then hlP G V p else -2) else -1
def hmF (V : Vil) (h w : Int) : Int := if 0 ≤ h ∧ h < V.nh then (if w = 0 then plsOf V h else if w = 1 then shr V h else if w = 2 then offv V h else if w = 3 then V.h h 3 else if w = 4 then V.h h 2 else -2) else -1
def plA (G : Gr) (V : Vil) (c w d b r : Int) (W : Vil) : Prop := (¬ (isCl G.n c ∧ 0 ≤ w ∧ w < 3) ∧ r = -1 ∧ W = V) ∨ ((isCl G.n c ∧ 0 ≤ w ∧ w < 3) ∧ ¬ (1 ≤ d ∧ d ≤ 15) ∧ r = -2 ∧ W = V) ∨ ((isCl G.n c ∧ 0 ≤ w ∧ w < 3) ∧ (1 ≤ d ∧ d ≤ 15) ∧ 24 ≤ V.np ∧ r = -4 ∧ W = V) ∨ ((isCl G.n c ∧ 0 ≤ w ∧ w < 3) ∧ (1 ≤ d ∧ d ≤ 15) ∧ V.np < 24 ∧ r = V.np ∧ W = putV V c w d b)
def hcA (G : Gr) (V : Vil) (a b w r : Int) (W : Vil) : Prop := (¬ (isCl G.n a ∧ isCl G.n b) ∧ r = -1 ∧ W = V) ∨ ((isCl G.n a ∧ isCl G.n b) ∧ ¬ (1 ≤ w ∧ w ≤ 999) ∧ r = -2 ∧ W = V) ∨ ((isCl G.n a ∧ isCl G.n b) ∧ (1 ≤ w ∧ w ≤ 999) ∧ hsA V a b w r W)
section Calls
variable {L : Nat} {D : ab_D} {G : Gr} {V W W' : Vil}
theorem plA_uniq {c w d b r r' : Int} (h : plA G V c w d b r W) (h' : plA G V c w d b r' W') : r = r' ∧ W = W' := by
  rcases h with ⟨h1, rfl, rfl⟩ | ⟨h1, h2, rfl, rfl⟩ | ⟨h1, h2, h3, rfl, rfl⟩ | ⟨h1, h2, h3, rfl, rfl⟩ <;> rcases h' with ⟨j1, rfl, rfl⟩ | ⟨j1, j2, rfl, rfl⟩ | ⟨j1, j2, j3, rfl, rfl⟩ | ⟨j1, j2, j3, rfl, rfl⟩ <;> first | exact ⟨rfl, rfl⟩ | exact absurd h1 j1 | exact absurd j1 h1 | exact absurd h2 j2 | exact absurd j2 h2 | omega
theorem plA_ok {c w d b r : Int} (k : vOK G V) (hb : b = 0 ∨ b = 1) (h : plA G V c w d b r W) : vOK G W ∧ W.yr = V.yr := by
  rcases h with ⟨h1, rfl, rfl⟩ | ⟨h1, h2, rfl, rfl⟩ | ⟨h1, h2, h3, rfl, rfl⟩ | ⟨h1, h2, h3, rfl, rfl⟩
  · exact ⟨k, rfl⟩
  · exact ⟨k, rfl⟩
  · exact ⟨k, rfl⟩
  · exact ⟨putV_ok k h3 h1.1 h1.2 h2 hb, rfl⟩
theorem hsA_uniq {a b w r r' : Int} (h : hsA V a b w r W) (h' : hsA V a b w r' W') : r = r' ∧ W = W' := by
  rcases h with ⟨h1, rfl, rfl⟩ | ⟨⟨h1, h2⟩, h3, rfl, rfl⟩ | ⟨⟨h1, h2⟩, h3, rfl, rfl⟩ <;> rcases h' with ⟨j1, rfl, rfl⟩ | ⟨⟨j1, j2⟩, j3, rfl, rfl⟩ | ⟨⟨j1, j2⟩, j3, rfl, rfl⟩
  · exact ⟨rfl, rfl⟩
  · rcases h1 with h1 | h1
    · exact absurd j1 h1
    · exact absurd h1 j2
  · rcases h1 with h1 | h1
    · exact absurd j1 h1
    · exact absurd h1 j2
  · rcases j1 with j1 | j1
    · exact absurd h1 j1
    · exact absurd j1 h2
  · exact ⟨rfl, rfl⟩
  · omega
  · rcases j1 with j1 | j1
    · exact absurd h1 j1
    · exact absurd j1 h2
  · omega
  · exact ⟨rfl, rfl⟩
theorem hcA_uniq {a b w r r' : Int} (h : hcA G V a b w r W) (h' : hcA G V a b w r' W') : r = r' ∧ W = W' := by
  rcases h with ⟨h1, rfl, rfl⟩ | ⟨h1, h2, rfl, rfl⟩ | ⟨h1, h2, h3⟩ <;> rcases h' with ⟨j1, rfl, rfl⟩ | ⟨j1, j2, rfl, rfl⟩ | ⟨j1, j2, j3⟩ <;> first | exact ⟨rfl, rfl⟩ | exact absurd h1 j1 | exact absurd j1 h1 | exact absurd h2 j2 | exact absurd j2 h2 | exact hsA_uniq h3 j3
theorem hcA_ok {a b w r : Int} (k : vOK G V) (h : hcA G V a b w r W) : vOK G W ∧ W.yr = V.yr := by
  rcases h with ⟨h1, rfl, rfl⟩ | ⟨h1, h2, rfl, rfl⟩ | ⟨h1, h2, h3⟩
  · exact ⟨k, rfl⟩
  · exact ⟨k, rfl⟩
  · rcases h3 with ⟨h4, rfl, rfl⟩ | ⟨⟨h3, h4⟩, h5, rfl, rfl⟩ | ⟨⟨h3, h4⟩, h5, rfl, rfl⟩
    · exact ⟨k, rfl⟩
    · exact ⟨k, rfl⟩
    · exact ⟨hsV_ok k h5 h1.1 h1.2 h2 h4, rfl⟩
theorem p_pole {c w d b : Int} (hg : gP D G) (hV : vP D 9 V) (k : vOK G V) (hb : b = 0 ∨ b = 1) : CI 76 [vR 0, vI c, vI w, vI d, vI b] (EE L, D) (fun r D' => ∃ W, plA G V c w d b r W ∧ fr 9 D D' ∧ vP D' 9 W) := by
  have hn : D 7 0 = G.n := hg.1.1
  refine Sx.un (y := 76) (n := 0) (lo := [vR 0, vI c, vI w, vI d, vI b]) (st := []) (u := (0, 0)) ?_
  refine go_76_0 ?_
  simp only [sg_76_0, cl_I, cl_L, cl_R, e_aload_n, e_cs1, e_cv2, e_get1, e_iconst, e_if_eq, e_if_ne, e_iload_n, e_iret0, e_nil, fl_0, fl_I, fl_L, fl_R, l_ld1, l_ld2, l_ldA0, rk_1, wRef_some, EE_n, EE_r0_3, EE_s0, EE_s6, lc_lt, lc_le, lc_gt, lc_ge, lc_eq, true_and, and_true, List.length_cons, List.length_nil, ab_ia, Nat.reduceAdd, Nat.reduceLeDiff, Nat.reduceEqDiff, Nat.reduceLT, Int.reduceLT, Int.reduceLE, Int.reduceEq, Int.reduceNeg, true_or, or_true, false_or, or_false, not_false_eq_true, not_true_eq_false, false_implies, true_implies, forall_const, implies_true, Nat.zero_le, Nat.le_refl]
  refine CB.use (g_hasCell isG6) (fun h1 => ?_) (fun h1 => ?_)
  · try simp only [lc_lt, lc_le, lc_gt, lc_ge, lc_eq, true_and, and_true, List.length_cons, List.length_nil, ab_ia, Nat.reduceAdd, Nat.reduceLeDiff, Nat.reduceEqDiff, Nat.reduceLT, Int.reduceLT, Int.reduceLE, Int.reduceEq, Int.reduceNeg, true_or, or_true, false_or, or_false, not_false_eq_true, not_true_eq_false, false_implies, true_implies, forall_const, implies_true, Nat.zero_le, Nat.le_refl]
    have h1 : isCl (D 7 0) c := h1
    rw [hn] at h1
    refine CB.use p_isWood (fun h2 => ?_) (fun h2 => ?_)
    · try simp only [lc_lt, lc_le, lc_gt, lc_ge, lc_eq, true_and, and_true, List.length_cons, List.length_nil, ab_ia, Nat.reduceAdd, Nat.reduceLeDiff, Nat.reduceEqDiff, Nat.reduceLT, Int.reduceLT, Int.reduceLE, Int.reduceEq, Int.reduceNeg, true_or, or_true, false_or, or_false, not_false_eq_true, not_true_eq_false, false_implies, true_implies, forall_const, implies_true, Nat.zero_le, Nat.le_refl]
      refine go_76_10 ?_
      simp only [sg_76_10, cl_I, cl_L, cl_R, e_bipush, e_icmp_le, e_icmp_lt, e_iconst, e_iload_n, e_iret0, e_nil, l_ld3, lc_lt, lc_le, lc_gt, lc_ge, lc_eq, true_and, and_true, List.length_cons, List.length_nil, ab_ia, Nat.reduceAdd, Nat.reduceLeDiff, Nat.reduceEqDiff, Nat.reduceLT, Int.reduceLT, Int.reduceLE, Int.reduceEq, Int.reduceNeg, true_or, or_true, false_or, or_false, not_false_eq_true, not_true_eq_false, false_implies, true_implies, forall_const, implies_true, Nat.zero_le, Nat.le_refl]
      refine ⟨fun h3 => ?_, fun h3 => ⟨fun h4 => ?_, fun h4 => ?_⟩⟩
      · refine go_76_16 ?_
        simp only [sg_76_16, cl_I, cl_L, cl_R, e_bipush, e_iret0, e_nil, lc_lt, lc_le, lc_gt, lc_ge, lc_eq, true_and, and_true, List.length_cons, List.length_nil, ab_ia, Nat.reduceAdd, Nat.reduceLeDiff, Nat.reduceEqDiff, Nat.reduceLT, Int.reduceLT, Int.reduceLE, Int.reduceEq, Int.reduceNeg, true_or, or_true, false_or, or_false, not_false_eq_true, not_true_eq_false, false_implies, true_implies, forall_const, implies_true, Nat.zero_le, Nat.le_refl]
        exact retI ⟨V, Or.inr (Or.inl ⟨⟨h1, h2⟩, by omega, rfl, rfl⟩), fr.refl, hV⟩
      · refine go_76_18 ?_
        simp only [sg_76_18, cl_I, cl_L, cl_R, e_aload_n, e_cv5, e_get1, e_iload, e_iload_n, e_iret0, e_nil, fl_0, fl_I, fl_L, fl_R, l_ld1, l_ld2, l_ld3, l_ld4, l_ldA0, rk_1, wRef_some, EE_n, EE_r0_4, EE_s0, EE_s21, EE_s9, EE_s9, lc_lt, lc_le, lc_gt, lc_ge, lc_eq, true_and, and_true, List.length_cons, List.length_nil, ab_ia, Nat.reduceAdd, Nat.reduceLeDiff, Nat.reduceEqDiff, Nat.reduceLT, Int.reduceLT, Int.reduceLE, Int.reduceEq, Int.reduceNeg, true_or, or_true, false_or, or_false, not_false_eq_true, not_true_eq_false, false_implies, true_implies, forall_const, implies_true, Nat.zero_le, Nat.le_refl]
        refine (v_put isV9 hV k hb).mono ?_
        rintro r D' (⟨q1, rfl, q3⟩ | ⟨q1, rfl, q3, q4⟩)
        · rw [q3]
          exact retI ⟨V, Or.inr (Or.inr (Or.inl ⟨⟨h1, h2⟩, by omega, q1, rfl, rfl⟩)), fr.refl, hV⟩
        · exact retI ⟨_, Or.inr (Or.inr (Or.inr ⟨⟨h1, h2⟩, by omega, q1, rfl, rfl⟩)), q3, q4⟩
      · exact retI ⟨V, Or.inr (Or.inl ⟨⟨h1, h2⟩, by omega, rfl, rfl⟩), fr.refl, hV⟩
    · try simp only [lc_lt, lc_le, lc_gt, lc_ge, lc_eq, true_and, and_true, List.length_cons, List.length_nil, ab_ia, Nat.reduceAdd, Nat.reduceLeDiff, Nat.reduceEqDiff, Nat.reduceLT, Int.reduceLT, Int.reduceLE, Int.reduceEq, Int.reduceNeg, true_or, or_true, false_or, or_false, not_false_eq_true, not_true_eq_false, false_implies, true_implies, forall_const, implies_true, Nat.zero_le, Nat.le_refl]
      exact retI ⟨V, Or.inl ⟨fun q => h2 q.2, rfl, rfl⟩, fr.refl, hV⟩
  · try simp only [lc_lt, lc_le, lc_gt, lc_ge, lc_eq, true_and, and_true, List.length_cons, List.length_nil, ab_ia, Nat.reduceAdd, Nat.reduceLeDiff, Nat.reduceEqDiff, Nat.reduceLT, Int.reduceLT, Int.reduceLE, Int.reduceEq, Int.reduceNeg, true_or, or_true, false_or, or_false, not_false_eq_true, not_true_eq_false, false_implies, true_implies, forall_const, implies_true, Nat.zero_le, Nat.le_refl]
    have h1 : ¬ isCl (D 7 0) c := h1
    rw [hn] at h1
    refine go_76_8 ?_
    simp only [sg_76_8, cl_I, cl_L, cl_R, e_iconst, e_iret0, e_nil, lc_lt, lc_le, lc_gt, lc_ge, lc_eq, true_and, and_true, List.length_cons, List.length_nil, ab_ia, Nat.reduceAdd, Nat.reduceLeDiff, Nat.reduceEqDiff, Nat.reduceLT, Int.reduceLT, Int.reduceLE, Int.reduceEq, Int.reduceNeg, true_or, or_true, false_or, or_false, not_false_eq_true, not_true_eq_false, false_implies, true_implies, forall_const, implies_true, Nat.zero_le, Nat.le_refl]
    exact retI ⟨V, Or.inl ⟨fun q => h1 q.1, rfl, rfl⟩, fr.refl, hV⟩
theorem m_pole {c w d b : Int} (hg : gM D G) (hV : vM D V) (k : vOK G V) (hb : b = 0 ∨ b = 1) : CI 138 [vR 69, vI c, vI w, vI d, vI b] (EE L, D) (fun r D' => ∃ W, plA G V c w d b r W ∧ frM D D' ∧ vM D' W) := by
  have hn : D 71 0 = G.n := hg.1.1
  have e1 := hV.1.1
  have kk := k.1
  refine Sx.un (y := 138) (n := 0) (lo := [vR 69, vI c, vI w, vI d, vI b]) (st := []) (u := (0, 0)) ?_
  refine go_138_0 ?_
  simp only [sg_138_0, cl_I, cl_L, cl_R, e_aload_n, e_cs1, e_cv2, e_iconst, e_if_eq, e_if_ne, e_iload_n, e_iret0, e_nil, fl_0, fl_I, fl_L, fl_R, l_ld1, l_ld2, l_ldA0, rk_1, EE_n, EE_s69, lc_lt, lc_le, lc_gt, lc_ge, lc_eq, true_and, and_true, List.length_cons, List.length_nil, ab_ia, Nat.reduceAdd, Nat.reduceLeDiff, Nat.reduceEqDiff, Nat.reduceLT, Int.reduceLT, Int.reduceLE, Int.reduceEq, Int.reduceNeg, true_or, or_true, false_or, or_false, not_false_eq_true, not_true_eq_false, false_implies, true_implies, forall_const, implies_true, Nat.zero_le, Nat.le_refl]
  refine CB.use m_isCell (fun h1 => ?_) (fun h1 => ?_)
  · try simp only [lc_lt, lc_le, lc_gt, lc_ge, lc_eq, true_and, and_true, List.length_cons, List.length_nil, ab_ia, Nat.reduceAdd, Nat.reduceLeDiff, Nat.reduceEqDiff, Nat.reduceLT, Int.reduceLT, Int.reduceLE, Int.reduceEq, Int.reduceNeg, true_or, or_true, false_or, or_false, not_false_eq_true, not_true_eq_false, false_implies, true_implies, forall_const, implies_true, Nat.zero_le, Nat.le_refl]
    rw [hn] at h1
    refine CB.use m_isWood (fun h2 => ?_) (fun h2 => ?_)
    · try simp only [lc_lt, lc_le, lc_gt, lc_ge, lc_eq, true_and, and_true, List.length_cons, List.length_nil, ab_ia, Nat.reduceAdd, Nat.reduceLeDiff, Nat.reduceEqDiff, Nat.reduceLT, Int.reduceLT, Int.reduceLE, Int.reduceEq, Int.reduceNeg, true_or, or_true, false_or, or_false, not_false_eq_true, not_true_eq_false, false_implies, true_implies, forall_const, implies_true, Nat.zero_le, Nat.le_refl]
      refine go_138_9 ?_
      simp only [sg_138_9, cl_I, cl_L, cl_R, e_bipush, e_cs3, e_i2l, e_if_ne, e_iload_n, e_iret0, e_lconst, e_ldc2, e_nil, fl_0, fl_I, fl_L, fl_R, l_ld3, rk_1, lc_lt, lc_le, lc_gt, lc_ge, lc_eq, true_and, and_true, List.length_cons, List.length_nil, ab_ia, Nat.reduceAdd, Nat.reduceLeDiff, Nat.reduceEqDiff, Nat.reduceLT, Int.reduceLT, Int.reduceLE, Int.reduceEq, Int.reduceNeg, true_or, or_true, false_or, or_false, not_false_eq_true, not_true_eq_false, false_implies, true_implies, forall_const, implies_true, Nat.zero_le, Nat.le_refl]
      refine CB.use m_in (fun h3 => ?_) (fun h3 => ?_)
      · try simp only [lc_lt, lc_le, lc_gt, lc_ge, lc_eq, true_and, and_true, List.length_cons, List.length_nil, ab_ia, Nat.reduceAdd, Nat.reduceLeDiff, Nat.reduceEqDiff, Nat.reduceLT, Int.reduceLT, Int.reduceLE, Int.reduceEq, Int.reduceNeg, true_or, or_true, false_or, or_false, not_false_eq_true, not_true_eq_false, false_implies, true_implies, forall_const, implies_true, Nat.zero_le, Nat.le_refl]
        refine go_138_17 ?_
        simp only [sg_138_17, cl_I, cl_L, cl_R, e_aload_n, e_bipush, e_get0, e_icmp_ne, e_iret0, e_nil, l_ldA0, wRef_some, EE_n, EE_s69, e1, lc_lt, lc_le, lc_gt, lc_ge, lc_eq, true_and, and_true, List.length_cons, List.length_nil, ab_ia, Nat.reduceAdd, Nat.reduceLeDiff, Nat.reduceEqDiff, Nat.reduceLT, Int.reduceLT, Int.reduceLE, Int.reduceEq, Int.reduceNeg, true_or, or_true, false_or, or_false, not_false_eq_true, not_true_eq_false, false_implies, true_implies, forall_const, implies_true, Nat.zero_le, Nat.le_refl]
        refine ⟨fun h4 => ?_, fun h4 => ?_⟩
        · have fin : ∀ D', frM D D' → vM D' (putV V c w d b) → (i32 (D' 69 8 - 1) ∧ ∃ x D'', some (Sum.inl (D' 69 8 - 1)) = some (Sum.inl x : ab_V) ∧ (EE L, D') = (EE L, D'') ∧ ∃ W, plA G V c w d b x W ∧ frM D D'' ∧ vM D'' W) := by
            intro D' hf hV'
            have e : D' 69 8 = V.np + 1 := hV'.1.1
            rw [e]
            refine ⟨⟨by omega, by omega⟩, retI ⟨_, Or.inr (Or.inr (Or.inr ⟨⟨h1, h2⟩, by omega, by omega, by omega, rfl⟩)), hf, hV'⟩⟩
          refine go_138_23 ?_
          simp only [sg_138_23, cl_I, cl_L, cl_R, e_aload_n, e_goto, e_iconst, e_if_eq, e_iload, e_iload_n, e_nil, l_ld1, l_ld2, l_ld3, l_ld4, l_ldA0, lc_lt, lc_le, lc_gt, lc_ge, lc_eq, true_and, and_true, List.length_cons, List.length_nil, ab_ia, Nat.reduceAdd, Nat.reduceLeDiff, Nat.reduceEqDiff, Nat.reduceLT, Int.reduceLT, Int.reduceLE, Int.reduceEq, Int.reduceNeg, true_or, or_true, false_or, or_false, not_false_eq_true, not_true_eq_false, false_implies, true_implies, forall_const, implies_true, Nat.zero_le, Nat.le_refl]
          refine ⟨fun h5 => ?_, fun h5 => ?_⟩
          · refine go_138_31 ?_
            simp only [sg_138_31, cl_I, cl_L, cl_R, e_aload_n, e_cv5, e_get0, e_iconst, e_iret0, e_isub, e_nil, fl_0, fl_I, fl_L, fl_R, l_ldA0, rk_0, wRef_some, EE_n, EE_s69, lc_lt, lc_le, lc_gt, lc_ge, lc_eq, true_and, and_true, List.length_cons, List.length_nil, ab_ia, Nat.reduceAdd, Nat.reduceLeDiff, Nat.reduceEqDiff, Nat.reduceLT, Int.reduceLT, Int.reduceLE, Int.reduceEq, Int.reduceNeg, true_or, or_true, false_or, or_false, not_false_eq_true, not_true_eq_false, false_implies, true_implies, forall_const, implies_true, Nat.zero_le, Nat.le_refl]
            subst h5
            refine (m_put hV k (by omega)).mono ?_
            rintro D' ⟨hf, hV'⟩
            exact fin D' hf hV'
          · have h5 : b = 1 := by omega
            subst h5
            refine go_138_32 ?_
            simp only [sg_138_32, cl_I, cl_L, cl_R, e_aload_n, e_cv5, e_get0, e_iconst, e_iret0, e_isub, e_nil, fl_0, fl_I, fl_L, fl_R, l_ldA0, rk_0, wRef_some, EE_n, EE_s69, EE_n, EE_s69, lc_lt, lc_le, lc_gt, lc_ge, lc_eq, true_and, and_true, List.length_cons, List.length_nil, ab_ia, Nat.reduceAdd, Nat.reduceLeDiff, Nat.reduceEqDiff, Nat.reduceLT, Int.reduceLT, Int.reduceLE, Int.reduceEq, Int.reduceNeg, true_or, or_true, false_or, or_false, not_false_eq_true, not_true_eq_false, false_implies, true_implies, forall_const, implies_true, Nat.zero_le, Nat.le_refl]
            refine (m_put hV k (by omega)).mono ?_
            rintro D' ⟨hf, hV'⟩
            exact fin D' hf hV'
        · exact retI ⟨V, Or.inr (Or.inr (Or.inl ⟨⟨h1, h2⟩, by omega, by omega, rfl, rfl⟩)), frM.refl, hV⟩
      · try simp only [lc_lt, lc_le, lc_gt, lc_ge, lc_eq, true_and, and_true, List.length_cons, List.length_nil, ab_ia, Nat.reduceAdd, Nat.reduceLeDiff, Nat.reduceEqDiff, Nat.reduceLT, Int.reduceLT, Int.reduceLE, Int.reduceEq, Int.reduceNeg, true_or, or_true, false_or, or_false, not_false_eq_true, not_true_eq_false, false_implies, true_implies, forall_const, implies_true, Nat.zero_le, Nat.le_refl]
        exact retI ⟨V, Or.inr (Or.inl ⟨⟨h1, h2⟩, by omega, rfl, rfl⟩), frM.refl, hV⟩
    · try simp only [lc_lt, lc_le, lc_gt, lc_ge, lc_eq, true_and, and_true, List.length_cons, List.length_nil, ab_ia, Nat.reduceAdd, Nat.reduceLeDiff, Nat.reduceEqDiff, Nat.reduceLT, Int.reduceLT, Int.reduceLE, Int.reduceEq, Int.reduceNeg, true_or, or_true, false_or, or_false, not_false_eq_true, not_true_eq_false, false_implies, true_implies, forall_const, implies_true, Nat.zero_le, Nat.le_refl]
      exact retI ⟨V, Or.inl ⟨fun q => h2 q.2, rfl, rfl⟩, frM.refl, hV⟩
  · try simp only [lc_lt, lc_le, lc_gt, lc_ge, lc_eq, true_and, and_true, List.length_cons, List.length_nil, ab_ia, Nat.reduceAdd, Nat.reduceLeDiff, Nat.reduceEqDiff, Nat.reduceLT, Int.reduceLT, Int.reduceLE, Int.reduceEq, Int.reduceNeg, true_or, or_true, false_or, or_false, not_false_eq_true, not_true_eq_false, false_implies, true_implies, forall_const, implies_true, Nat.zero_le, Nat.le_refl]
    rw [hn] at h1
    refine go_138_7 ?_
    simp only [sg_138_7, cl_I, cl_L, cl_R, e_iconst, e_iret0, e_nil, lc_lt, lc_le, lc_gt, lc_ge, lc_eq, true_and, and_true, List.length_cons, List.length_nil, ab_ia, Nat.reduceAdd, Nat.reduceLeDiff, Nat.reduceEqDiff, Nat.reduceLT, Int.reduceLT, Int.reduceLE, Int.reduceEq, Int.reduceNeg, true_or, or_true, false_or, or_false, not_false_eq_true, not_true_eq_false, false_implies, true_implies, forall_const, implies_true, Nat.zero_le, Nat.le_refl]
    exact retI ⟨V, Or.inl ⟨fun q => h1 q.1, rfl, rfl⟩, frM.refl, hV⟩
theorem p_told {p w : Int} (g : gOK G) (hg : gP D G) (hV : vP D 9 V) (k : vOK G V) : CI 77 [vR 0, vI p, vI w] (EE L, D) (fun r D' => r = tlF G V p w ∧ D' = D) := by
  have e1 := hV.1.1
  have kk := k.1
  refine Sx.un (y := 77) (n := 0) (lo := [vR 0, vI p, vI w]) (st := []) (u := (0, 0)) ?_
  refine go_77_0 ?_
  simp only [sg_77_0, cl_I, cl_L, cl_R, e_aload_n, e_get0, e_get1, e_icmp_lt, e_iconst, e_if_lt, e_iload_n, e_iret0, e_nil, l_ld1, l_ldA0, wRef_some, EE_n, EE_r0_4, EE_s0, EE_s21, EE_s9, EE_s9, e1, lc_lt, lc_le, lc_gt, lc_ge, lc_eq, true_and, and_true, List.length_cons, List.length_nil, ab_ia, Nat.reduceAdd, Nat.reduceLeDiff, Nat.reduceEqDiff, Nat.reduceLT, Int.reduceLT, Int.reduceLE, Int.reduceEq, Int.reduceNeg, true_or, or_true, false_or, or_false, not_false_eq_true, not_true_eq_false, false_implies, true_implies, forall_const, implies_true, Nat.zero_le, Nat.le_refl]
  refine ⟨fun h1 => ?_, fun h1 => ⟨fun h2 => ?_, fun h2 => ?_⟩⟩
  · refine go_77_7 ?_
    simp only [sg_77_7, cl_I, cl_L, cl_R, e_iconst, e_iret0, e_nil, lc_lt, lc_le, lc_gt, lc_ge, lc_eq, true_and, and_true, List.length_cons, List.length_nil, ab_ia, Nat.reduceAdd, Nat.reduceLeDiff, Nat.reduceEqDiff, Nat.reduceLT, Int.reduceLT, Int.reduceLE, Int.reduceEq, Int.reduceNeg, true_or, or_true, false_or, or_false, not_false_eq_true, not_true_eq_false, false_implies, true_implies, forall_const, implies_true, Nat.zero_le, Nat.le_refl]
    exact retI ⟨by unfold tlF; rw [if_neg (by omega)], rfl⟩
  · obtain ⟨w0, w1, w2, w3, w4, w5, w7⟩ := hV.2.1 p (by omega) h2
    obtain ⟨q0, q1, q2, q3, q4, q5, q7⟩ := k.2.1 p (by omega) h2
    have w0 : D 10 p.toNat = V.p p 0 := w0
    have w1 : D 11 p.toNat = V.p p 1 := w1
    have w2 : D 12 p.toNat = V.p p 2 := w2
    have w3 : D 13 p.toNat = V.p p 3 := w3
    have w4 : D 14 p.toNat = V.p p 4 := w4
    have w5 : D 15 p.toNat = V.p p 5 := w5
    have et : tlF G V p w = (if 0 ≤ w ∧ w ≤ 5 then V.p p w else if w = 6 then (if V.p p 7 = -9 then 1 else 0) else if w = 7 then hlP G V p else -2) := by unfold tlF; rw [if_pos (by omega)]
    refine go_77_9 ?_
    simp only [sg_77_9, cl_I, cl_L, cl_R, e_iload_n, e_nil, e_tab, e_tab0, e_tab1, l_ld2, lc_lt, lc_le, lc_gt, lc_ge, lc_eq, true_and, and_true, List.length_cons, List.length_nil, ab_ia, Nat.reduceAdd, Nat.reduceLeDiff, Nat.reduceEqDiff, Nat.reduceLT, Int.reduceLT, Int.reduceLE, Int.reduceEq, Int.reduceNeg, true_or, or_true, false_or, or_false, not_false_eq_true, not_true_eq_false, false_implies, true_implies, forall_const, implies_true, Nat.zero_le, Nat.le_refl]
    refine ⟨fun h3 => ?_, fun h3 => ?_, fun h3 => ?_, fun h3 => ?_, fun h3 => ?_, fun h3 => ?_, fun h3 => ?_, fun h3 => ?_, fun h3 => ?_⟩
    · refine go_77_65 ?_
      simp only [sg_77_65, cl_I, cl_L, cl_R, e_bipush, e_iret0, e_nil, lc_lt, lc_le, lc_gt, lc_ge, lc_eq, true_and, and_true, List.length_cons, List.length_nil, ab_ia, Nat.reduceAdd, Nat.reduceLeDiff, Nat.reduceEqDiff, Nat.reduceLT, Int.reduceLT, Int.reduceLE, Int.reduceEq, Int.reduceNeg, true_or, or_true, false_or, or_false, not_false_eq_true, not_true_eq_false, false_implies, true_implies, forall_const, implies_true, Nat.zero_le, Nat.le_refl]
      exact retI ⟨by rw [et, if_neg (by omega), if_neg (by omega), if_neg (by omega)], rfl⟩
    · subst h3
      refine go_77_11 ?_
      simp only [sg_77_11, cl_I, cl_L, cl_R, e_aload_n, e_get1, e_iaload, e_iload_n, e_iret0, e_nil, l_ld1, l_ldA0, wRef_some, EE_n, EE_r0_4, EE_r21_2, EE_r9_2, EE_s0, EE_s10, EE_s21, EE_s22, EE_s9, EE_s9, EE_r9_2, EE_s10, w0, lc_lt, lc_le, lc_gt, lc_ge, lc_eq, true_and, and_true, List.length_cons, List.length_nil, ab_ia, Nat.reduceAdd, Nat.reduceLeDiff, Nat.reduceEqDiff, Nat.reduceLT, Int.reduceLT, Int.reduceLE, Int.reduceEq, Int.reduceNeg, true_or, or_true, false_or, or_false, not_false_eq_true, not_true_eq_false, false_implies, true_implies, forall_const, implies_true, Nat.zero_le, Nat.le_refl]
      exact ⟨by omega, retI ⟨by rw [et, if_pos (by decide)], rfl⟩⟩
    · have h3 : w = 1 := by omega
      subst h3
      refine go_77_17 ?_
      simp only [sg_77_17, cl_I, cl_L, cl_R, e_aload_n, e_get1, e_iaload, e_iload_n, e_iret0, e_nil, l_ld1, l_ldA0, wRef_some, EE_n, EE_r0_4, EE_r21_3, EE_r9_3, EE_s0, EE_s11, EE_s21, EE_s23, EE_s9, EE_s9, EE_r9_3, EE_s11, w1, lc_lt, lc_le, lc_gt, lc_ge, lc_eq, true_and, and_true, List.length_cons, List.length_nil, ab_ia, Nat.reduceAdd, Nat.reduceLeDiff, Nat.reduceEqDiff, Nat.reduceLT, Int.reduceLT, Int.reduceLE, Int.reduceEq, Int.reduceNeg, true_or, or_true, false_or, or_false, not_false_eq_true, not_true_eq_false, false_implies, true_implies, forall_const, implies_true, Nat.zero_le, Nat.le_refl]
      exact ⟨by omega, retI ⟨by rw [et, if_pos (by decide)], rfl⟩⟩
    · have h3 : w = 2 := by omega
      subst h3
      refine go_77_23 ?_
      simp only [sg_77_23, cl_I, cl_L, cl_R, e_aload_n, e_get1, e_iaload, e_iload_n, e_iret0, e_nil, l_ld1, l_ldA0, wRef_some, EE_n, EE_r0_4, EE_r21_4, EE_r9_4, EE_s0, EE_s12, EE_s21, EE_s24, EE_s9, EE_s9, EE_r9_4, EE_s12, w2, lc_lt, lc_le, lc_gt, lc_ge, lc_eq, true_and, and_true, List.length_cons, List.length_nil, ab_ia, Nat.reduceAdd, Nat.reduceLeDiff, Nat.reduceEqDiff, Nat.reduceLT, Int.reduceLT, Int.reduceLE, Int.reduceEq, Int.reduceNeg, true_or, or_true, false_or, or_false, not_false_eq_true, not_true_eq_false, false_implies, true_implies, forall_const, implies_true, Nat.zero_le, Nat.le_refl]
      exact ⟨by omega, retI ⟨by rw [et, if_pos (by decide)], rfl⟩⟩
    · have h3 : w = 3 := by omega
      subst h3
      refine go_77_29 ?_
      simp only [sg_77_29, cl_I, cl_L, cl_R, e_aload_n, e_get1, e_iaload, e_iload_n, e_iret0, e_nil, l_ld1, l_ldA0, wRef_some, EE_n, EE_r0_4, EE_r21_5, EE_r9_5, EE_s0, EE_s13, EE_s21, EE_s25, EE_s9, EE_s9, EE_r9_5, EE_s13, w3, lc_lt, lc_le, lc_gt, lc_ge, lc_eq, true_and, and_true, List.length_cons, List.length_nil, ab_ia, Nat.reduceAdd, Nat.reduceLeDiff, Nat.reduceEqDiff, Nat.reduceLT, Int.reduceLT, Int.reduceLE, Int.reduceEq, Int.reduceNeg, true_or, or_true, false_or, or_false, not_false_eq_true, not_true_eq_false, false_implies, true_implies, forall_const, implies_true, Nat.zero_le, Nat.le_refl]
      exact ⟨by omega, retI ⟨by rw [et, if_pos (by decide)], rfl⟩⟩
    · have h3 : w = 4 := by omega
      subst h3
      refine go_77_35 ?_
      simp only [sg_77_35, cl_I, cl_L, cl_R, e_aload_n, e_baload, e_get1, e_goto, e_iconst, e_if_eq, e_iload_n, e_nil, l_ld1, l_ldA0, wRef_some, EE_n, EE_r0_4, EE_r21_6, EE_r9_6, EE_s0, EE_s14, EE_s21, EE_s26, EE_s9, EE_s9, EE_r9_6, EE_s14, w4, lc_lt, lc_le, lc_gt, lc_ge, lc_eq, true_and, and_true, List.length_cons, List.length_nil, ab_ia, Nat.reduceAdd, Nat.reduceLeDiff, Nat.reduceEqDiff, Nat.reduceLT, Int.reduceLT, Int.reduceLE, Int.reduceEq, Int.reduceNeg, true_or, or_true, false_or, or_false, not_false_eq_true, not_true_eq_false, false_implies, true_implies, forall_const, implies_true, Nat.zero_le, Nat.le_refl]
      refine ⟨by omega, fun h4 => ?_, fun h4 => ?_⟩
      · refine go_77_43 ?_
        simp only [sg_77_43, cl_I, cl_L, cl_R, e_iconst, e_iret0, e_nil, lc_lt, lc_le, lc_gt, lc_ge, lc_eq, true_and, and_true, List.length_cons, List.length_nil, ab_ia, Nat.reduceAdd, Nat.reduceLeDiff, Nat.reduceEqDiff, Nat.reduceLT, Int.reduceLT, Int.reduceLE, Int.reduceEq, Int.reduceNeg, true_or, or_true, false_or, or_false, not_false_eq_true, not_true_eq_false, false_implies, true_implies, forall_const, implies_true, Nat.zero_le, Nat.le_refl]
        exact retI ⟨by rw [et, if_pos (by decide)]; omega, rfl⟩
      · refine go_77_44 ?_
        simp only [sg_77_44, cl_I, cl_L, cl_R, e_iret0, e_nil, lc_lt, lc_le, lc_gt, lc_ge, lc_eq, true_and, and_true, List.length_cons, List.length_nil, ab_ia, Nat.reduceAdd, Nat.reduceLeDiff, Nat.reduceEqDiff, Nat.reduceLT, Int.reduceLT, Int.reduceLE, Int.reduceEq, Int.reduceNeg, true_or, or_true, false_or, or_false, not_false_eq_true, not_true_eq_false, false_implies, true_implies, forall_const, implies_true, Nat.zero_le, Nat.le_refl]
        exact retI ⟨by rw [et, if_pos (by decide)]; omega, rfl⟩
    · have h3 : w = 5 := by omega
      subst h3
      refine go_77_45 ?_
      simp only [sg_77_45, cl_I, cl_L, cl_R, e_aload_n, e_get1, e_iaload, e_iload_n, e_iret0, e_nil, l_ld1, l_ldA0, wRef_some, EE_n, EE_r0_4, EE_r21_7, EE_r9_7, EE_s0, EE_s15, EE_s21, EE_s27, EE_s9, EE_s9, EE_r9_7, EE_s15, w5, lc_lt, lc_le, lc_gt, lc_ge, lc_eq, true_and, and_true, List.length_cons, List.length_nil, ab_ia, Nat.reduceAdd, Nat.reduceLeDiff, Nat.reduceEqDiff, Nat.reduceLT, Int.reduceLT, Int.reduceLE, Int.reduceEq, Int.reduceNeg, true_or, or_true, false_or, or_false, not_false_eq_true, not_true_eq_false, false_implies, true_implies, forall_const, implies_true, Nat.zero_le, Nat.le_refl]
      exact ⟨by omega, retI ⟨by rw [et, if_pos (by decide)], rfl⟩⟩
    · have h3 : w = 6 := by omega
      subst h3
      refine go_77_51 ?_
      simp only [sg_77_51, cl_I, cl_L, cl_R, e_aload_n, e_cv2, e_get1, e_goto, e_iconst, e_if_eq, e_iload_n, e_nil, fl_0, fl_I, fl_L, fl_R, l_ld1, l_ldA0, rk_1, wRef_some, EE_n, EE_r0_4, EE_s0, EE_s21, EE_s9, EE_s9, lc_lt, lc_le, lc_gt, lc_ge, lc_eq, true_and, and_true, List.length_cons, List.length_nil, ab_ia, Nat.reduceAdd, Nat.reduceLeDiff, Nat.reduceEqDiff, Nat.reduceLT, Int.reduceLT, Int.reduceLE, Int.reduceEq, Int.reduceNeg, true_or, or_true, false_or, or_false, not_false_eq_true, not_true_eq_false, false_implies, true_implies, forall_const, implies_true, Nat.zero_le, Nat.le_refl]
      refine CB.use (v_stands isV9 hV k (by omega) h2) (fun h4 => ?_) (fun h4 => ?_)
      · try simp only [lc_lt, lc_le, lc_gt, lc_ge, lc_eq, true_and, and_true, List.length_cons, List.length_nil, ab_ia, Nat.reduceAdd, Nat.reduceLeDiff, Nat.reduceEqDiff, Nat.reduceLT, Int.reduceLT, Int.reduceLE, Int.reduceEq, Int.reduceNeg, true_or, or_true, false_or, or_false, not_false_eq_true, not_true_eq_false, false_implies, true_implies, forall_const, implies_true, Nat.zero_le, Nat.le_refl]
        refine go_77_59 ?_
        simp only [sg_77_59, cl_I, cl_L, cl_R, e_iret0, e_nil, lc_lt, lc_le, lc_gt, lc_ge, lc_eq, true_and, and_true, List.length_cons, List.length_nil, ab_ia, Nat.reduceAdd, Nat.reduceLeDiff, Nat.reduceEqDiff, Nat.reduceLT, Int.reduceLT, Int.reduceLE, Int.reduceEq, Int.reduceNeg, true_or, or_true, false_or, or_false, not_false_eq_true, not_true_eq_false, false_implies, true_implies, forall_const, implies_true, Nat.zero_le, Nat.le_refl]
        exact retI ⟨by rw [et, if_neg (by decide), if_pos rfl, if_pos h4], rfl⟩
      · try simp only [lc_lt, lc_le, lc_gt, lc_ge, lc_eq, true_and, and_true, List.length_cons, List.length_nil, ab_ia, Nat.reduceAdd, Nat.reduceLeDiff, Nat.reduceEqDiff, Nat.reduceLT, Int.reduceLT, Int.reduceLE, Int.reduceEq, Int.reduceNeg, true_or, or_true, false_or, or_false, not_false_eq_true, not_true_eq_false, false_implies, true_implies, forall_const, implies_true, Nat.zero_le, Nat.le_refl]
        refine go_77_58 ?_
        simp only [sg_77_58, cl_I, cl_L, cl_R, e_iconst, e_iret0, e_nil, lc_lt, lc_le, lc_gt, lc_ge, lc_eq, true_and, and_true, List.length_cons, List.length_nil, ab_ia, Nat.reduceAdd, Nat.reduceLeDiff, Nat.reduceEqDiff, Nat.reduceLT, Int.reduceLT, Int.reduceLE, Int.reduceEq, Int.reduceNeg, true_or, or_true, false_or, or_false, not_false_eq_true, not_true_eq_false, false_implies, true_implies, forall_const, implies_true, Nat.zero_le, Nat.le_refl]
        exact retI ⟨by rw [et, if_neg (by decide), if_pos rfl, if_neg h4], rfl⟩
    · have h3 : w = 7 := by omega
      subst h3
      refine go_77_60 ?_
      simp only [sg_77_60, cl_I, cl_L, cl_R, e_aload_n, e_cv2, e_get1, e_iload_n, e_iret0, e_nil, fl_0, fl_I, fl_L, fl_R, l_ld1, l_ldA0, rk_1, wRef_some, EE_n, EE_r0_4, EE_s0, EE_s21, EE_s9, EE_s9, lc_lt, lc_le, lc_gt, lc_ge, lc_eq, true_and, and_true, List.length_cons, List.length_nil, ab_ia, Nat.reduceAdd, Nat.reduceLeDiff, Nat.reduceEqDiff, Nat.reduceLT, Int.reduceLT, Int.reduceLE, Int.reduceEq, Int.reduceNeg, true_or, or_true, false_or, or_false, not_false_eq_true, not_true_eq_false, false_implies, true_implies, forall_const, implies_true, Nat.zero_le, Nat.le_refl]
      refine CI.use (v_holds isV9 g hg hV k (by omega) h2) ?_
      exact retI ⟨by rw [et, if_neg (by decide), if_neg (by decide), if_pos rfl], rfl⟩
  · exact retI ⟨by unfold tlF; rw [if_neg (by omega)], rfl⟩
theorem m_told {p w : Int} (g : gOK G) (hg : gM D G) (hV : vM D V) (k : vOK G V) : CI 139 [vR 69, vI p, vI w] (EE L, D) (fun r D' => r = tlF G V p w ∧ D' = D) := by
  have kk := k.1
  refine Sx.un (y := 139) (n := 0) (lo := [vR 69, vI p, vI w]) (st := []) (u := (0, 0)) ?_
  refine go_139_0 ?_
  simp only [sg_139_0, cl_I, cl_L, cl_R, e_aload_n, e_cv2, e_iconst, e_if_ne, e_iload_n, e_iret0, e_nil, fl_0, fl_I, fl_L, fl_R, l_ld1, l_ldA0, rk_1, EE_n, EE_s69, lc_lt, lc_le, lc_gt, lc_ge, lc_eq, true_and, and_true, List.length_cons, List.length_nil, ab_ia, Nat.reduceAdd, Nat.reduceLeDiff, Nat.reduceEqDiff, Nat.reduceLT, Int.reduceLT, Int.reduceLE, Int.reduceEq, Int.reduceNeg, true_or, or_true, false_or, or_false, not_false_eq_true, not_true_eq_false, false_implies, true_implies, forall_const, implies_true, Nat.zero_le, Nat.le_refl]
  refine CB.use (m_isPole hV k) (fun h1 => ?_) (fun h1 => ?_)
  · try simp only [lc_lt, lc_le, lc_gt, lc_ge, lc_eq, true_and, and_true, List.length_cons, List.length_nil, ab_ia, Nat.reduceAdd, Nat.reduceLeDiff, Nat.reduceEqDiff, Nat.reduceLT, Int.reduceLT, Int.reduceLE, Int.reduceEq, Int.reduceNeg, true_or, or_true, false_or, or_false, not_false_eq_true, not_true_eq_false, false_implies, true_implies, forall_const, implies_true, Nat.zero_le, Nat.le_refl]
    have et : tlF G V p w = (if 0 ≤ w ∧ w ≤ 5 then V.p p w else if w = 6 then (if V.p p 7 = -9 then 1 else 0) else if w = 7 then hlP G V p else -2) := by unfold tlF; rw [if_pos h1]
    obtain ⟨w0, w1, w2, w3, w4, w5, w6, w7⟩ := hV.2.1 p h1.1 h1.2
    refine go_139_6 ?_
    simp only [sg_139_6, cl_I, cl_L, cl_R, e_aload_n, e_bipush, e_cs3, e_get1, e_goto, e_i2l, e_iadd, e_iaload, e_if_eq, e_iload_n, e_imul, e_lconst, e_ldc2, e_nil, fl_0, fl_I, fl_L, fl_R, l_ld1, l_ld2, l_ldA0, rk_1, wRef_some, EE_n, EE_r69_9, EE_s69, EE_s74, lc_lt, lc_le, lc_gt, lc_ge, lc_eq, true_and, and_true, List.length_cons, List.length_nil, ab_ia, Nat.reduceAdd, Nat.reduceLeDiff, Nat.reduceEqDiff, Nat.reduceLT, Int.reduceLT, Int.reduceLE, Int.reduceEq, Int.reduceNeg, true_or, or_true, false_or, or_false, not_false_eq_true, not_true_eq_false, false_implies, true_implies, forall_const, implies_true, Nat.zero_le, Nat.le_refl]
    refine CB.use m_in (fun h2 => ?_) (fun h2 => ?_)
    · try simp only [EE_n, EE_s69, EE_r69_9, EE_s74, lc_lt, lc_le, lc_gt, lc_ge, lc_eq, true_and, and_true, List.length_cons, List.length_nil, ab_ia, Nat.reduceAdd, Nat.reduceLeDiff, Nat.reduceEqDiff, Nat.reduceLT, Int.reduceLT, Int.reduceLE, Int.reduceEq, Int.reduceNeg, true_or, or_true, false_or, or_false, not_false_eq_true, not_true_eq_false, false_implies, true_implies, forall_const, implies_true, Nat.zero_le, Nat.le_refl]
      refine ⟨⟨by omega, by omega⟩, ⟨by omega, by omega⟩, by omega, ?_⟩
      refine go_139_29 ?_
      simp only [sg_139_29, cl_I, cl_L, cl_R, e_iret0, e_nil, lc_lt, lc_le, lc_gt, lc_ge, lc_eq, true_and, and_true, List.length_cons, List.length_nil, ab_ia, Nat.reduceAdd, Nat.reduceLeDiff, Nat.reduceEqDiff, Nat.reduceLT, Int.reduceLT, Int.reduceLE, Int.reduceEq, Int.reduceNeg, true_or, or_true, false_or, or_false, not_false_eq_true, not_true_eq_false, false_implies, true_implies, forall_const, implies_true, Nat.zero_le, Nat.le_refl]
      refine retI ⟨?_, rfl⟩
      rw [et]
      by_cases z : 0 ≤ w ∧ w ≤ 5
      · rw [if_pos z]
        have : w = 0 ∨ w = 1 ∨ w = 2 ∨ w = 3 ∨ w = 4 ∨ w = 5 := by omega
        rcases this with rfl | rfl | rfl | rfl | rfl | rfl
        · rw [Int.add_zero]; exact w0
        · exact w1
        · exact w2
        · exact w3
        · exact w4
        · exact w5
      · have z : w = 6 := by omega
        subst z
        rw [if_neg (by decide), if_pos rfl]
        exact w6
    · try simp only [lc_lt, lc_le, lc_gt, lc_ge, lc_eq, true_and, and_true, List.length_cons, List.length_nil, ab_ia, Nat.reduceAdd, Nat.reduceLeDiff, Nat.reduceEqDiff, Nat.reduceLT, Int.reduceLT, Int.reduceLE, Int.reduceEq, Int.reduceNeg, true_or, or_true, false_or, or_false, not_false_eq_true, not_true_eq_false, false_implies, true_implies, forall_const, implies_true, Nat.zero_le, Nat.le_refl]
      refine go_139_21 ?_
      simp only [sg_139_21, cl_I, cl_L, cl_R, e_aload_n, e_bipush, e_cv2, e_goto, e_icmp_ne, e_iload_n, e_nil, fl_0, fl_I, fl_L, fl_R, l_ld1, l_ld2, l_ldA0, rk_1, EE_n, EE_s69, lc_lt, lc_le, lc_gt, lc_ge, lc_eq, true_and, and_true, List.length_cons, List.length_nil, ab_ia, Nat.reduceAdd, Nat.reduceLeDiff, Nat.reduceEqDiff, Nat.reduceLT, Int.reduceLT, Int.reduceLE, Int.reduceEq, Int.reduceNeg, true_or, or_true, false_or, or_false, not_false_eq_true, not_true_eq_false, false_implies, true_implies, forall_const, implies_true, Nat.zero_le, Nat.le_refl]
      refine ⟨fun h3 => ?_, fun h3 => ?_⟩
      · refine go_139_28 ?_
        simp only [sg_139_28, cl_I, cl_L, cl_R, e_bipush, e_iret0, e_nil, lc_lt, lc_le, lc_gt, lc_ge, lc_eq, true_and, and_true, List.length_cons, List.length_nil, ab_ia, Nat.reduceAdd, Nat.reduceLeDiff, Nat.reduceEqDiff, Nat.reduceLT, Int.reduceLT, Int.reduceLE, Int.reduceEq, Int.reduceNeg, true_or, or_true, false_or, or_false, not_false_eq_true, not_true_eq_false, false_implies, true_implies, forall_const, implies_true, Nat.zero_le, Nat.le_refl]
        exact retI ⟨by rw [et, if_neg (by omega), if_neg (by omega), if_neg (by omega)], rfl⟩
      · refine CI.use (m_holds g hg hV k h1.1 h1.2) ?_
        try simp only [lc_lt, lc_le, lc_gt, lc_ge, lc_eq, true_and, and_true, List.length_cons, List.length_nil, ab_ia, Nat.reduceAdd, Nat.reduceLeDiff, Nat.reduceEqDiff, Nat.reduceLT, Int.reduceLT, Int.reduceLE, Int.reduceEq, Int.reduceNeg, true_or, or_true, false_or, or_false, not_false_eq_true, not_true_eq_false, false_implies, true_implies, forall_const, implies_true, Nat.zero_le, Nat.le_refl]
        refine go_139_29 ?_
        simp only [sg_139_29, cl_I, cl_L, cl_R, e_iret0, e_nil, lc_lt, lc_le, lc_gt, lc_ge, lc_eq, true_and, and_true, List.length_cons, List.length_nil, ab_ia, Nat.reduceAdd, Nat.reduceLeDiff, Nat.reduceEqDiff, Nat.reduceLT, Int.reduceLT, Int.reduceLE, Int.reduceEq, Int.reduceNeg, true_or, or_true, false_or, or_false, not_false_eq_true, not_true_eq_false, false_implies, true_implies, forall_const, implies_true, Nat.zero_le, Nat.le_refl]
        exact retI ⟨by rw [et, if_neg (by omega), if_neg (by omega), if_pos (by omega)], rfl⟩
  · try simp only [lc_lt, lc_le, lc_gt, lc_ge, lc_eq, true_and, and_true, List.length_cons, List.length_nil, ab_ia, Nat.reduceAdd, Nat.reduceLeDiff, Nat.reduceEqDiff, Nat.reduceLT, Int.reduceLT, Int.reduceLE, Int.reduceEq, Int.reduceNeg, true_or, or_true, false_or, or_false, not_false_eq_true, not_true_eq_false, false_implies, true_implies, forall_const, implies_true, Nat.zero_le, Nat.le_refl]
    exact retI ⟨by unfold tlF; rw [if_neg h1], rfl⟩
theorem p_home {h w : Int} (g : gOK G) (hV : vP D 9 V) (k : vOK G V) : CI 79 [vR 0, vI h, vI w] (EE L, D) (fun r D' => r = hmF V h w ∧ D' = D) := by
  have kk := k.1
  refine Sx.un (y := 79) (n := 0) (lo := [vR 0, vI h, vI w]) (st := []) (u := (0, 0)) ?_
  refine go_79_0 ?_
  simp only [sg_79_0, cl_I, cl_L, cl_R, e_aload_n, e_cv2, e_iconst, e_if_ne, e_iload_n, e_iret0, e_nil, fl_0, fl_I, fl_L, fl_R, l_ld1, l_ldA0, rk_1, EE_n, EE_s0, lc_lt, lc_le, lc_gt, lc_ge, lc_eq, true_and, and_true, List.length_cons, List.length_nil, ab_ia, Nat.reduceAdd, Nat.reduceLeDiff, Nat.reduceEqDiff, Nat.reduceLT, Int.reduceLT, Int.reduceLE, Int.reduceEq, Int.reduceNeg, true_or, or_true, false_or, or_false, not_false_eq_true, not_true_eq_false, false_implies, true_implies, forall_const, implies_true, Nat.zero_le, Nat.le_refl]
  refine CB.use (p_isHouse hV) (fun h1 => ?_) (fun h1 => ?_)
  · try simp only [lc_lt, lc_le, lc_gt, lc_ge, lc_eq, true_and, and_true, List.length_cons, List.length_nil, ab_ia, Nat.reduceAdd, Nat.reduceLeDiff, Nat.reduceEqDiff, Nat.reduceLT, Int.reduceLT, Int.reduceLE, Int.reduceEq, Int.reduceNeg, true_or, or_true, false_or, or_false, not_false_eq_true, not_true_eq_false, false_implies, true_implies, forall_const, implies_true, Nat.zero_le, Nat.le_refl]
    have et : hmF V h w = (if w = 0 then plsOf V h else if w = 1 then shr V h else if w = 2 then offv V h else if w = 3 then V.h h 3 else if w = 4 then V.h h 2 else -2) := by unfold hmF; rw [if_pos h1]
    obtain ⟨c0, c2, c3⟩ := hV.2.2.1 h h1.1 h1.2
    have c2 : D 18 h.toNat = V.h h 2 := c2
    have c3 : D 19 h.toNat = V.h h 3 := c3
    have k3 := (k.2.2.1 h h1.1 h1.2).2.2.2
    refine go_79_6 ?_
    simp only [sg_79_6, cl_I, cl_L, cl_R, e_iload_n, e_nil, e_tab, e_tab0, e_tab1, l_ld2, lc_lt, lc_le, lc_gt, lc_ge, lc_eq, true_and, and_true, List.length_cons, List.length_nil, ab_ia, Nat.reduceAdd, Nat.reduceLeDiff, Nat.reduceEqDiff, Nat.reduceLT, Int.reduceLT, Int.reduceLE, Int.reduceEq, Int.reduceNeg, true_or, or_true, false_or, or_false, not_false_eq_true, not_true_eq_false, false_implies, true_implies, forall_const, implies_true, Nat.zero_le, Nat.le_refl]
    refine ⟨fun h3 => ?_, fun h3 => ?_, fun h3 => ?_, fun h3 => ?_, fun h3 => ?_, fun h3 => ?_⟩
    · refine go_79_39 ?_
      simp only [sg_79_39, cl_I, cl_L, cl_R, e_bipush, e_iret0, e_nil, lc_lt, lc_le, lc_gt, lc_ge, lc_eq, true_and, and_true, List.length_cons, List.length_nil, ab_ia, Nat.reduceAdd, Nat.reduceLeDiff, Nat.reduceEqDiff, Nat.reduceLT, Int.reduceLT, Int.reduceLE, Int.reduceEq, Int.reduceNeg, true_or, or_true, false_or, or_false, not_false_eq_true, not_true_eq_false, false_implies, true_implies, forall_const, implies_true, Nat.zero_le, Nat.le_refl]
      exact retI ⟨by rw [et, if_neg (by omega), if_neg (by omega), if_neg (by omega), if_neg (by omega), if_neg (by omega)], rfl⟩
    · subst h3
      refine go_79_8 ?_
      simp only [sg_79_8, cl_I, cl_L, cl_R, e_aload_n, e_cv2, e_get1, e_iload_n, e_iret0, e_nil, fl_0, fl_I, fl_L, fl_R, l_ld1, l_ldA0, rk_1, wRef_some, EE_n, EE_r0_4, EE_s0, EE_s21, EE_s9, EE_s9, lc_lt, lc_le, lc_gt, lc_ge, lc_eq, true_and, and_true, List.length_cons, List.length_nil, ab_ia, Nat.reduceAdd, Nat.reduceLeDiff, Nat.reduceEqDiff, Nat.reduceLT, Int.reduceLT, Int.reduceLE, Int.reduceEq, Int.reduceNeg, true_or, or_true, false_or, or_false, not_false_eq_true, not_true_eq_false, false_implies, true_implies, forall_const, implies_true, Nat.zero_le, Nat.le_refl]
      refine CI.use (v_plsOf isV9 g hV k h1.1 h1.2) ?_
      exact retI ⟨by rw [et, if_pos rfl], rfl⟩
    · have h3 : w = 1 := by omega
      subst h3
      refine go_79_13 ?_
      simp only [sg_79_13, cl_I, cl_L, cl_R, e_aload_n, e_cv2, e_get1, e_iload_n, e_iret0, e_nil, fl_0, fl_I, fl_L, fl_R, l_ld1, l_ldA0, rk_1, wRef_some, EE_n, EE_r0_4, EE_s0, EE_s21, EE_s9, EE_s9, lc_lt, lc_le, lc_gt, lc_ge, lc_eq, true_and, and_true, List.length_cons, List.length_nil, ab_ia, Nat.reduceAdd, Nat.reduceLeDiff, Nat.reduceEqDiff, Nat.reduceLT, Int.reduceLT, Int.reduceLE, Int.reduceEq, Int.reduceNeg, true_or, or_true, false_or, or_false, not_false_eq_true, not_true_eq_false, false_implies, true_implies, forall_const, implies_true, Nat.zero_le, Nat.le_refl]
      refine CI.use (v_shr isV9 g hV k h1.1 h1.2) ?_
      exact retI ⟨by rw [et, if_neg (by decide), if_pos rfl], rfl⟩
    · have h3 : w = 2 := by omega
      subst h3
      refine go_79_18 ?_
      simp only [sg_79_18, cl_I, cl_L, cl_R, e_aload_n, e_cv2, e_get1, e_iload_n, e_iret0, e_nil, fl_0, fl_I, fl_L, fl_R, l_ld1, l_ldA0, rk_1, wRef_some, EE_n, EE_r0_4, EE_s0, EE_s21, EE_s9, EE_s9, lc_lt, lc_le, lc_gt, lc_ge, lc_eq, true_and, and_true, List.length_cons, List.length_nil, ab_ia, Nat.reduceAdd, Nat.reduceLeDiff, Nat.reduceEqDiff, Nat.reduceLT, Int.reduceLT, Int.reduceLE, Int.reduceEq, Int.reduceNeg, true_or, or_true, false_or, or_false, not_false_eq_true, not_true_eq_false, false_implies, true_implies, forall_const, implies_true, Nat.zero_le, Nat.le_refl]
      refine CI.use (v_off isV9 g hV k h1.1 h1.2) ?_
      exact retI ⟨by rw [et, if_neg (by decide), if_neg (by decide), if_pos rfl], rfl⟩
    · have h3 : w = 3 := by omega
      subst h3
      have et3 : hmF V h 3 = V.h h 3 := by rw [et, if_neg (by decide), if_neg (by decide), if_neg (by decide), if_pos rfl]
      refine go_79_23 ?_
      simp only [sg_79_23, cl_I, cl_L, cl_R, e_aload_n, e_baload, e_get1, e_goto, e_iconst, e_if_eq, e_iload_n, e_nil, l_ld1, l_ldA0, wRef_some, EE_n, EE_r0_4, EE_r21_12, EE_r9_12, EE_s0, EE_s19, EE_s21, EE_s31, EE_s9, EE_s9, EE_r9_12, EE_s19, c3, lc_lt, lc_le, lc_gt, lc_ge, lc_eq, true_and, and_true, List.length_cons, List.length_nil, ab_ia, Nat.reduceAdd, Nat.reduceLeDiff, Nat.reduceEqDiff, Nat.reduceLT, Int.reduceLT, Int.reduceLE, Int.reduceEq, Int.reduceNeg, true_or, or_true, false_or, or_false, not_false_eq_true, not_true_eq_false, false_implies, true_implies, forall_const, implies_true, Nat.zero_le, Nat.le_refl]
      refine ⟨by omega, fun h4 => ?_, fun h4 => ?_⟩
      · refine go_79_31 ?_
        simp only [sg_79_31, cl_I, cl_L, cl_R, e_iconst, e_iret0, e_nil, lc_lt, lc_le, lc_gt, lc_ge, lc_eq, true_and, and_true, List.length_cons, List.length_nil, ab_ia, Nat.reduceAdd, Nat.reduceLeDiff, Nat.reduceEqDiff, Nat.reduceLT, Int.reduceLT, Int.reduceLE, Int.reduceEq, Int.reduceNeg, true_or, or_true, false_or, or_false, not_false_eq_true, not_true_eq_false, false_implies, true_implies, forall_const, implies_true, Nat.zero_le, Nat.le_refl]
        exact retI ⟨by omega, rfl⟩
      · refine go_79_32 ?_
        simp only [sg_79_32, cl_I, cl_L, cl_R, e_iret0, e_nil, lc_lt, lc_le, lc_gt, lc_ge, lc_eq, true_and, and_true, List.length_cons, List.length_nil, ab_ia, Nat.reduceAdd, Nat.reduceLeDiff, Nat.reduceEqDiff, Nat.reduceLT, Int.reduceLT, Int.reduceLE, Int.reduceEq, Int.reduceNeg, true_or, or_true, false_or, or_false, not_false_eq_true, not_true_eq_false, false_implies, true_implies, forall_const, implies_true, Nat.zero_le, Nat.le_refl]
        exact retI ⟨by omega, rfl⟩
    · have h3 : w = 4 := by omega
      subst h3
      refine go_79_33 ?_
      simp only [sg_79_33, cl_I, cl_L, cl_R, e_aload_n, e_get1, e_iaload, e_iload_n, e_iret0, e_nil, l_ld1, l_ldA0, wRef_some, EE_n, EE_r0_4, EE_r21_11, EE_r9_11, EE_s0, EE_s18, EE_s21, EE_s30, EE_s9, EE_s9, EE_r9_11, EE_s18, c2, lc_lt, lc_le, lc_gt, lc_ge, lc_eq, true_and, and_true, List.length_cons, List.length_nil, ab_ia, Nat.reduceAdd, Nat.reduceLeDiff, Nat.reduceEqDiff, Nat.reduceLT, Int.reduceLT, Int.reduceLE, Int.reduceEq, Int.reduceNeg, true_or, or_true, false_or, or_false, not_false_eq_true, not_true_eq_false, false_implies, true_implies, forall_const, implies_true, Nat.zero_le, Nat.le_refl]
      exact ⟨by omega, retI ⟨by rw [et, if_neg (by decide), if_neg (by decide), if_neg (by decide), if_neg (by decide), if_pos rfl], rfl⟩⟩
  · try simp only [lc_lt, lc_le, lc_gt, lc_ge, lc_eq, true_and, and_true, List.length_cons, List.length_nil, ab_ia, Nat.reduceAdd, Nat.reduceLeDiff, Nat.reduceEqDiff, Nat.reduceLT, Int.reduceLT, Int.reduceLE, Int.reduceEq, Int.reduceNeg, true_or, or_true, false_or, or_false, not_false_eq_true, not_true_eq_false, false_implies, true_implies, forall_const, implies_true, Nat.zero_le, Nat.le_refl]
    exact retI ⟨by unfold hmF; rw [if_neg h1], rfl⟩
theorem m_home {h w : Int} (g : gOK G) (hV : vM D V) (k : vOK G V) : CI 146 [vR 69, vI h, vI w] (EE L, D) (fun r D' => r = hmF V h w ∧ D' = D) := by
  have kk := k.1
  refine Sx.un (y := 146) (n := 0) (lo := [vR 69, vI h, vI w]) (st := []) (u := (0, 0)) ?_
  refine go_146_0 ?_
  simp only [sg_146_0, cl_I, cl_L, cl_R, e_aload_n, e_cv2, e_iconst, e_if_ne, e_iload_n, e_iret0, e_nil, fl_0, fl_I, fl_L, fl_R, l_ld1, l_ldA0, rk_1, EE_n, EE_s69, lc_lt, lc_le, lc_gt, lc_ge, lc_eq, true_and, and_true, List.length_cons, List.length_nil, ab_ia, Nat.reduceAdd, Nat.reduceLeDiff, Nat.reduceEqDiff, Nat.reduceLT, Int.reduceLT, Int.reduceLE, Int.reduceEq, Int.reduceNeg, true_or, or_true, false_or, or_false, not_false_eq_true, not_true_eq_false, false_implies, true_implies, forall_const, implies_true, Nat.zero_le, Nat.le_refl]
  refine CB.use (m_isHouse hV k) (fun h1 => ?_) (fun h1 => ?_)
  · try simp only [lc_lt, lc_le, lc_gt, lc_ge, lc_eq, true_and, and_true, List.length_cons, List.length_nil, ab_ia, Nat.reduceAdd, Nat.reduceLeDiff, Nat.reduceEqDiff, Nat.reduceLT, Int.reduceLT, Int.reduceLE, Int.reduceEq, Int.reduceNeg, true_or, or_true, false_or, or_false, not_false_eq_true, not_true_eq_false, false_implies, true_implies, forall_const, implies_true, Nat.zero_le, Nat.le_refl]
    have et : hmF V h w = (if w = 0 then plsOf V h else if w = 1 then shr V h else if w = 2 then offv V h else if w = 3 then V.h h 3 else if w = 4 then V.h h 2 else -2) := by unfold hmF; rw [if_pos h1]
    obtain ⟨c0, c1, c2, c3⟩ := hV.2.2 h h1.1 h1.2
    refine go_146_6 ?_
    simp only [sg_146_6, cl_I, cl_L, cl_R, e_iload_n, e_nil, e_tab, e_tab0, e_tab1, l_ld2, lc_lt, lc_le, lc_gt, lc_ge, lc_eq, true_and, and_true, List.length_cons, List.length_nil, ab_ia, Nat.reduceAdd, Nat.reduceLeDiff, Nat.reduceEqDiff, Nat.reduceLT, Int.reduceLT, Int.reduceLE, Int.reduceEq, Int.reduceNeg, true_or, or_true, false_or, or_false, not_false_eq_true, not_true_eq_false, false_implies, true_implies, forall_const, implies_true, Nat.zero_le, Nat.le_refl]
    refine ⟨fun h3 => ?_, fun h3 => ?_, fun h3 => ?_, fun h3 => ?_, fun h3 => ?_, fun h3 => ?_⟩
    · refine go_146_38 ?_
      simp only [sg_146_38, cl_I, cl_L, cl_R, e_bipush, e_iret0, e_nil, lc_lt, lc_le, lc_gt, lc_ge, lc_eq, true_and, and_true, List.length_cons, List.length_nil, ab_ia, Nat.reduceAdd, Nat.reduceLeDiff, Nat.reduceEqDiff, Nat.reduceLT, Int.reduceLT, Int.reduceLE, Int.reduceEq, Int.reduceNeg, true_or, or_true, false_or, or_false, not_false_eq_true, not_true_eq_false, false_implies, true_implies, forall_const, implies_true, Nat.zero_le, Nat.le_refl]
      exact retI ⟨by rw [et, if_neg (by omega), if_neg (by omega), if_neg (by omega), if_neg (by omega), if_neg (by omega)], rfl⟩
    · subst h3
      refine go_146_8 ?_
      simp only [sg_146_8, cl_I, cl_L, cl_R, e_aload_n, e_cv2, e_iload_n, e_iret0, e_nil, fl_0, fl_I, fl_L, fl_R, l_ld1, l_ldA0, rk_1, EE_n, EE_s69, lc_lt, lc_le, lc_gt, lc_ge, lc_eq, true_and, and_true, List.length_cons, List.length_nil, ab_ia, Nat.reduceAdd, Nat.reduceLeDiff, Nat.reduceEqDiff, Nat.reduceLT, Int.reduceLT, Int.reduceLE, Int.reduceEq, Int.reduceNeg, true_or, or_true, false_or, or_false, not_false_eq_true, not_true_eq_false, false_implies, true_implies, forall_const, implies_true, Nat.zero_le, Nat.le_refl]
      refine CI.use (m_plsOf g hV k h1.1 h1.2) ?_
      exact retI ⟨by rw [et, if_pos rfl], rfl⟩
    · have h3 : w = 1 := by omega
      subst h3
      refine go_146_12 ?_
      simp only [sg_146_12, cl_I, cl_L, cl_R, e_aload_n, e_cv2, e_iload_n, e_iret0, e_nil, fl_0, fl_I, fl_L, fl_R, l_ld1, l_ldA0, rk_1, EE_n, EE_s69, lc_lt, lc_le, lc_gt, lc_ge, lc_eq, true_and, and_true, List.length_cons, List.length_nil, ab_ia, Nat.reduceAdd, Nat.reduceLeDiff, Nat.reduceEqDiff, Nat.reduceLT, Int.reduceLT, Int.reduceLE, Int.reduceEq, Int.reduceNeg, true_or, or_true, false_or, or_false, not_false_eq_true, not_true_eq_false, false_implies, true_implies, forall_const, implies_true, Nat.zero_le, Nat.le_refl]
      refine CI.use (m_shr g hV k h1.1 h1.2) ?_
      exact retI ⟨by rw [et, if_neg (by decide), if_pos rfl], rfl⟩
    · have h3 : w = 2 := by omega
      subst h3
      refine go_146_16 ?_
      simp only [sg_146_16, cl_I, cl_L, cl_R, e_aload_n, e_cv2, e_iload_n, e_iret0, e_nil, fl_0, fl_I, fl_L, fl_R, l_ld1, l_ldA0, rk_1, EE_n, EE_s69, lc_lt, lc_le, lc_gt, lc_ge, lc_eq, true_and, and_true, List.length_cons, List.length_nil, ab_ia, Nat.reduceAdd, Nat.reduceLeDiff, Nat.reduceEqDiff, Nat.reduceLT, Int.reduceLT, Int.reduceLE, Int.reduceEq, Int.reduceNeg, true_or, or_true, false_or, or_false, not_false_eq_true, not_true_eq_false, false_implies, true_implies, forall_const, implies_true, Nat.zero_le, Nat.le_refl]
      refine CI.use (m_off g hV k h1.1 h1.2) ?_
      exact retI ⟨by rw [et, if_neg (by decide), if_neg (by decide), if_pos rfl], rfl⟩
    · have h3 : w = 3 := by omega
      subst h3
      refine go_146_20 ?_
      simp only [sg_146_20, cl_I, cl_L, cl_R, e_aload_n, e_get1, e_iadd, e_iaload, e_iconst, e_iload_n, e_imul, e_iret0, e_nil, l_ld1, l_ldA0, wRef_some, EE_n, EE_r69_11, EE_s69, EE_s75, c3, lc_lt, lc_le, lc_gt, lc_ge, lc_eq, true_and, and_true, List.length_cons, List.length_nil, ab_ia, Nat.reduceAdd, Nat.reduceLeDiff, Nat.reduceEqDiff, Nat.reduceLT, Int.reduceLT, Int.reduceLE, Int.reduceEq, Int.reduceNeg, true_or, or_true, false_or, or_false, not_false_eq_true, not_true_eq_false, false_implies, true_implies, forall_const, implies_true, Nat.zero_le, Nat.le_refl]
      exact ⟨⟨by omega, by omega⟩, ⟨by omega, by omega⟩, by omega, retI ⟨by rw [et, if_neg (by decide), if_neg (by decide), if_neg (by decide), if_pos rfl], rfl⟩⟩
    · have h3 : w = 4 := by omega
      subst h3
      refine go_146_29 ?_
      simp only [sg_146_29, cl_I, cl_L, cl_R, e_aload_n, e_get1, e_iadd, e_iaload, e_iconst, e_iload_n, e_imul, e_iret0, e_nil, l_ld1, l_ldA0, wRef_some, EE_n, EE_r69_11, EE_s69, EE_s75, c2, lc_lt, lc_le, lc_gt, lc_ge, lc_eq, true_and, and_true, List.length_cons, List.length_nil, ab_ia, Nat.reduceAdd, Nat.reduceLeDiff, Nat.reduceEqDiff, Nat.reduceLT, Int.reduceLT, Int.reduceLE, Int.reduceEq, Int.reduceNeg, true_or, or_true, false_or, or_false, not_false_eq_true, not_true_eq_false, false_implies, true_implies, forall_const, implies_true, Nat.zero_le, Nat.le_refl]
      exact ⟨⟨by omega, by omega⟩, ⟨by omega, by omega⟩, by omega, retI ⟨by rw [et, if_neg (by decide), if_neg (by decide), if_neg (by decide), if_neg (by decide), if_pos rfl], rfl⟩⟩
  · try simp only [lc_lt, lc_le, lc_gt, lc_ge, lc_eq, true_and, and_true, List.length_cons, List.length_nil, ab_ia, Nat.reduceAdd, Nat.reduceLeDiff, Nat.reduceEqDiff, Nat.reduceLT, Int.reduceLT, Int.reduceLE, Int.reduceEq, Int.reduceNeg, true_or, or_true, false_or, or_false, not_false_eq_true, not_true_eq_false, false_implies, true_implies, forall_const, implies_true, Nat.zero_le, Nat.le_refl]
    exact retI ⟨by unfold hmF; rw [if_neg h1], rfl⟩
theorem p_house {a b w : Int} (g : gOK G) (hg : gP D G) (hV : vP D 9 V) (k : vOK G V) : CI 78 [vR 0, vI a, vI b, vI w] (EE L, D) (fun r D' => ∃ W, hcA G V a b w r W ∧ fr 9 D D' ∧ vP D' 9 W) := by
  have hn : D 7 0 = G.n := hg.1.1
  refine Sx.un (y := 78) (n := 0) (lo := [vR 0, vI a, vI b, vI w]) (st := []) (u := (0, 0)) ?_
  refine go_78_0 ?_
  simp only [sg_78_0, cl_I, cl_L, cl_R, e_aload_n, e_cv2, e_get1, e_iconst, e_if_eq, e_if_ne, e_iload_n, e_iret0, e_nil, fl_0, fl_I, fl_L, fl_R, l_ld1, l_ld2, l_ldA0, rk_1, wRef_some, EE_n, EE_r0_3, EE_s0, EE_s6, lc_lt, lc_le, lc_gt, lc_ge, lc_eq, true_and, and_true, List.length_cons, List.length_nil, ab_ia, Nat.reduceAdd, Nat.reduceLeDiff, Nat.reduceEqDiff, Nat.reduceLT, Int.reduceLT, Int.reduceLE, Int.reduceEq, Int.reduceNeg, true_or, or_true, false_or, or_false, not_false_eq_true, not_true_eq_false, false_implies, true_implies, forall_const, implies_true, Nat.zero_le, Nat.le_refl]
  refine CB.use (g_hasCell isG6) (fun h1 => ?_) (fun h1 => ?_)
  · try simp only [EE_n, EE_s0, EE_r0_3, EE_s6, lc_lt, lc_le, lc_gt, lc_ge, lc_eq, true_and, and_true, List.length_cons, List.length_nil, ab_ia, Nat.reduceAdd, Nat.reduceLeDiff, Nat.reduceEqDiff, Nat.reduceLT, Int.reduceLT, Int.reduceLE, Int.reduceEq, Int.reduceNeg, true_or, or_true, false_or, or_false, not_false_eq_true, not_true_eq_false, false_implies, true_implies, forall_const, implies_true, Nat.zero_le, Nat.le_refl]
    have h1 : isCl (D 7 0) a := h1
    rw [hn] at h1
    refine CB.use (g_hasCell isG6) (fun h2 => ?_) (fun h2 => ?_)
    · try simp only [lc_lt, lc_le, lc_gt, lc_ge, lc_eq, true_and, and_true, List.length_cons, List.length_nil, ab_ia, Nat.reduceAdd, Nat.reduceLeDiff, Nat.reduceEqDiff, Nat.reduceLT, Int.reduceLT, Int.reduceLE, Int.reduceEq, Int.reduceNeg, true_or, or_true, false_or, or_false, not_false_eq_true, not_true_eq_false, false_implies, true_implies, forall_const, implies_true, Nat.zero_le, Nat.le_refl]
      have h2 : isCl (D 7 0) b := h2
      rw [hn] at h2
      refine go_78_12 ?_
      simp only [sg_78_12, cl_I, cl_L, cl_R, e_bipush, e_icmp_le, e_icmp_lt, e_iconst, e_iload_n, e_iret0, e_nil, e_sipush, l_ld3, lc_lt, lc_le, lc_gt, lc_ge, lc_eq, true_and, and_true, List.length_cons, List.length_nil, ab_ia, Nat.reduceAdd, Nat.reduceLeDiff, Nat.reduceEqDiff, Nat.reduceLT, Int.reduceLT, Int.reduceLE, Int.reduceEq, Int.reduceNeg, true_or, or_true, false_or, or_false, not_false_eq_true, not_true_eq_false, false_implies, true_implies, forall_const, implies_true, Nat.zero_le, Nat.le_refl]
      refine ⟨fun h3 => ?_, fun h3 => ⟨fun h4 => ?_, fun h4 => ?_⟩⟩
      · refine go_78_18 ?_
        simp only [sg_78_18, cl_I, cl_L, cl_R, e_bipush, e_iret0, e_nil, lc_lt, lc_le, lc_gt, lc_ge, lc_eq, true_and, and_true, List.length_cons, List.length_nil, ab_ia, Nat.reduceAdd, Nat.reduceLeDiff, Nat.reduceEqDiff, Nat.reduceLT, Int.reduceLT, Int.reduceLE, Int.reduceEq, Int.reduceNeg, true_or, or_true, false_or, or_false, not_false_eq_true, not_true_eq_false, false_implies, true_implies, forall_const, implies_true, Nat.zero_le, Nat.le_refl]
        exact retI ⟨V, Or.inr (Or.inl ⟨⟨h1, h2⟩, by omega, rfl, rfl⟩), fr.refl, hV⟩
      · refine go_78_20 ?_
        simp only [sg_78_20, cl_I, cl_L, cl_R, e_aload_n, e_cv4, e_get1, e_iload_n, e_iret0, e_nil, fl_0, fl_I, fl_L, fl_R, l_ld1, l_ld2, l_ld3, l_ldA0, rk_1, wRef_some, EE_n, EE_r0_4, EE_s0, EE_s21, EE_s9, EE_s9, lc_lt, lc_le, lc_gt, lc_ge, lc_eq, true_and, and_true, List.length_cons, List.length_nil, ab_ia, Nat.reduceAdd, Nat.reduceLeDiff, Nat.reduceEqDiff, Nat.reduceLT, Int.reduceLT, Int.reduceLE, Int.reduceEq, Int.reduceNeg, true_or, or_true, false_or, or_false, not_false_eq_true, not_true_eq_false, false_implies, true_implies, forall_const, implies_true, Nat.zero_le, Nat.le_refl]
        refine (v_house isV9 hV k g.1.2 h1 h2).mono ?_
        rintro r D' ⟨W, q1, q2, q3⟩
        exact retI ⟨W, Or.inr (Or.inr ⟨⟨h1, h2⟩, by omega, q1⟩), q2, q3⟩
      · exact retI ⟨V, Or.inr (Or.inl ⟨⟨h1, h2⟩, by omega, rfl, rfl⟩), fr.refl, hV⟩
    · try simp only [lc_lt, lc_le, lc_gt, lc_ge, lc_eq, true_and, and_true, List.length_cons, List.length_nil, ab_ia, Nat.reduceAdd, Nat.reduceLeDiff, Nat.reduceEqDiff, Nat.reduceLT, Int.reduceLT, Int.reduceLE, Int.reduceEq, Int.reduceNeg, true_or, or_true, false_or, or_false, not_false_eq_true, not_true_eq_false, false_implies, true_implies, forall_const, implies_true, Nat.zero_le, Nat.le_refl]
      have h2 : ¬ isCl (D 7 0) b := h2
      rw [hn] at h2
      exact retI ⟨V, Or.inl ⟨fun q => h2 q.2, rfl, rfl⟩, fr.refl, hV⟩
  · try simp only [lc_lt, lc_le, lc_gt, lc_ge, lc_eq, true_and, and_true, List.length_cons, List.length_nil, ab_ia, Nat.reduceAdd, Nat.reduceLeDiff, Nat.reduceEqDiff, Nat.reduceLT, Int.reduceLT, Int.reduceLE, Int.reduceEq, Int.reduceNeg, true_or, or_true, false_or, or_false, not_false_eq_true, not_true_eq_false, false_implies, true_implies, forall_const, implies_true, Nat.zero_le, Nat.le_refl]
    have h1 : ¬ isCl (D 7 0) a := h1
    rw [hn] at h1
    refine go_78_10 ?_
    simp only [sg_78_10, cl_I, cl_L, cl_R, e_iconst, e_iret0, e_nil, lc_lt, lc_le, lc_gt, lc_ge, lc_eq, true_and, and_true, List.length_cons, List.length_nil, ab_ia, Nat.reduceAdd, Nat.reduceLeDiff, Nat.reduceEqDiff, Nat.reduceLT, Int.reduceLT, Int.reduceLE, Int.reduceEq, Int.reduceNeg, true_or, or_true, false_or, or_false, not_false_eq_true, not_true_eq_false, false_implies, true_implies, forall_const, implies_true, Nat.zero_le, Nat.le_refl]
    exact retI ⟨V, Or.inl ⟨fun q => h1 q.1, rfl, rfl⟩, fr.refl, hV⟩
theorem p_year (g : gOK G) (hg : gP D G) (hV : vP D 9 V) (k : vOK G V) (hy : V.yr < 1000000) : CI 80 [vR 0] (EE L, D) (fun r D' => r = yearC G V ∧ fr 9 D D' ∧ vP D' 9 (yearV G V)) := by
  refine Sx.un (y := 80) (n := 0) (lo := [vR 0]) (st := []) (u := (0, 0)) ?_
  refine go_80_0 ?_
  simp only [sg_80_0, cl_I, cl_L, cl_R, e_aload_n, e_cv1, e_get1, e_iret0, e_nil, fl_0, fl_I, fl_L, fl_R, l_ldA0, rk_1, wRef_some, EE_n, EE_r0_4, EE_s0, EE_s21, EE_s9, EE_s9, lc_lt, lc_le, lc_gt, lc_ge, lc_eq, true_and, and_true, List.length_cons, List.length_nil, ab_ia, Nat.reduceAdd, Nat.reduceLeDiff, Nat.reduceEqDiff, Nat.reduceLT, Int.reduceLT, Int.reduceLE, Int.reduceEq, Int.reduceNeg, true_or, or_true, false_or, or_false, not_false_eq_true, not_true_eq_false, false_implies, true_implies, forall_const, implies_true, Nat.zero_le, Nat.le_refl]
  refine (v_year isV9 g hg hV k hy).mono ?_
  rintro r D' ⟨rfl, q2, q3⟩
  exact retI ⟨rfl, q2, q3⟩
theorem m_year (g : gOK G) (hg : gM D G) (hV : vM D V) (k : vOK G V) (hy : V.yr < 1000000) : CI 149 [vR 69] (EE L, D) (fun r D' => r = yearC G V ∧ frM D D' ∧ vM D' (yearV G V)) := by
  refine Sx.un (y := 149) (n := 0) (lo := [vR 69]) (st := []) (u := (0, 0)) ?_
  refine go_149_0 ?_
  simp only [sg_149_0, cl_I, cl_L, cl_R, e_aload_n, e_cv1, e_iret0, e_nil, fl_0, fl_I, fl_L, fl_R, l_ldA0, rk_1, EE_n, EE_s69, lc_lt, lc_le, lc_gt, lc_ge, lc_eq, true_and, and_true, List.length_cons, List.length_nil, ab_ia, Nat.reduceAdd, Nat.reduceLeDiff, Nat.reduceEqDiff, Nat.reduceLT, Int.reduceLT, Int.reduceLE, Int.reduceEq, Int.reduceNeg, true_or, or_true, false_or, or_false, not_false_eq_true, not_true_eq_false, false_implies, true_implies, forall_const, implies_true, Nat.zero_le, Nat.le_refl]
  refine (m_goBy g hg hV k hy).mono ?_
  rintro r D' ⟨rfl, q2, q3⟩
  exact retI ⟨rfl, q2, q3⟩
def ctF (V : Vil) (l f w : Int) : Int := if w = 0 then l else if w = 1 then V.np else if w = 2 then stdg V else if w = 3 then V.nh else if w = 4 then V.yr else if w = 5 then f else -2
theorem p_count {w : Int} (hV : vP D 9 V) (k : vOK G V) : CI 104 [vR 0, vI w] (EE L, D) (fun r D' => r = ctF V (D 0 1) (D 63 1) w ∧ D' = D) := by
  obtain ⟨e1, e9, e14⟩ := hV.1
  refine Sx.un (y := 104) (n := 0) (lo := [vR 0, vI w]) (st := []) (u := (0, 0)) ?_
  refine go_104_0 ?_
  simp only [sg_104_0, cl_I, cl_L, cl_R, e_iload_n, e_nil, e_tab, e_tab0, e_tab1, l_ld1, lc_lt, lc_le, lc_gt, lc_ge, lc_eq, true_and, and_true, List.length_cons, List.length_nil, ab_ia, Nat.reduceAdd, Nat.reduceLeDiff, Nat.reduceEqDiff, Nat.reduceLT, Int.reduceLT, Int.reduceLE, Int.reduceEq, Int.reduceNeg, true_or, or_true, false_or, or_false, not_false_eq_true, not_true_eq_false, false_implies, true_implies, forall_const, implies_true, Nat.zero_le, Nat.le_refl]
  refine ⟨fun h3 => ?_, fun h3 => ?_, fun h3 => ?_, fun h3 => ?_, fun h3 => ?_, fun h3 => ?_, fun h3 => ?_⟩
  · refine go_104_25 ?_
    simp only [sg_104_25, cl_I, cl_L, cl_R, e_bipush, e_iret0, e_nil, lc_lt, lc_le, lc_gt, lc_ge, lc_eq, true_and, and_true, List.length_cons, List.length_nil, ab_ia, Nat.reduceAdd, Nat.reduceLeDiff, Nat.reduceEqDiff, Nat.reduceLT, Int.reduceLT, Int.reduceLE, Int.reduceEq, Int.reduceNeg, true_or, or_true, false_or, or_false, not_false_eq_true, not_true_eq_false, false_implies, true_implies, forall_const, implies_true, Nat.zero_le, Nat.le_refl]
    exact retI ⟨by unfold ctF; rw [if_neg (by omega), if_neg (by omega), if_neg (by omega), if_neg (by omega), if_neg (by omega), if_neg (by omega)], rfl⟩
  · subst h3
    refine go_104_2 ?_
    simp only [sg_104_2, cl_I, cl_L, cl_R, e_aload_n, e_get0, e_iret0, e_nil, l_ldA0, wRef_some, EE_n, EE_s0, lc_lt, lc_le, lc_gt, lc_ge, lc_eq, true_and, and_true, List.length_cons, List.length_nil, ab_ia, Nat.reduceAdd, Nat.reduceLeDiff, Nat.reduceEqDiff, Nat.reduceLT, Int.reduceLT, Int.reduceLE, Int.reduceEq, Int.reduceNeg, true_or, or_true, false_or, or_false, not_false_eq_true, not_true_eq_false, false_implies, true_implies, forall_const, implies_true, Nat.zero_le, Nat.le_refl]
    exact retI ⟨by unfold ctF; rw [if_pos rfl], rfl⟩
  · have h3 : w = 1 := by omega
    subst h3
    refine go_104_5 ?_
    simp only [sg_104_5, cl_I, cl_L, cl_R, e_aload_n, e_get0, e_get1, e_iret0, e_nil, l_ldA0, wRef_some, EE_n, EE_r0_4, EE_s0, EE_s21, EE_s9, EE_s9, e1, lc_lt, lc_le, lc_gt, lc_ge, lc_eq, true_and, and_true, List.length_cons, List.length_nil, ab_ia, Nat.reduceAdd, Nat.reduceLeDiff, Nat.reduceEqDiff, Nat.reduceLT, Int.reduceLT, Int.reduceLE, Int.reduceEq, Int.reduceNeg, true_or, or_true, false_or, or_false, not_false_eq_true, not_true_eq_false, false_implies, true_implies, forall_const, implies_true, Nat.zero_le, Nat.le_refl]
    exact retI ⟨by unfold ctF; rw [if_neg (by decide), if_pos rfl], rfl⟩
  · have h3 : w = 2 := by omega
    subst h3
    refine go_104_9 ?_
    simp only [sg_104_9, cl_I, cl_L, cl_R, e_aload_n, e_cv1, e_get1, e_iret0, e_nil, fl_0, fl_I, fl_L, fl_R, l_ldA0, rk_1, wRef_some, EE_n, EE_r0_4, EE_s0, EE_s21, EE_s9, EE_s9, lc_lt, lc_le, lc_gt, lc_ge, lc_eq, true_and, and_true, List.length_cons, List.length_nil, ab_ia, Nat.reduceAdd, Nat.reduceLeDiff, Nat.reduceEqDiff, Nat.reduceLT, Int.reduceLT, Int.reduceLE, Int.reduceEq, Int.reduceNeg, true_or, or_true, false_or, or_false, not_false_eq_true, not_true_eq_false, false_implies, true_implies, forall_const, implies_true, Nat.zero_le, Nat.le_refl]
    refine CI.use (v_standing isV9 hV k) ?_
    exact retI ⟨by unfold ctF; rw [if_neg (by decide), if_neg (by decide), if_pos rfl], rfl⟩
  · have h3 : w = 3 := by omega
    subst h3
    refine go_104_13 ?_
    simp only [sg_104_13, cl_I, cl_L, cl_R, e_aload_n, e_get0, e_get1, e_iret0, e_nil, l_ldA0, wRef_some, EE_n, EE_r0_4, EE_s0, EE_s21, EE_s9, EE_s9, e9, lc_lt, lc_le, lc_gt, lc_ge, lc_eq, true_and, and_true, List.length_cons, List.length_nil, ab_ia, Nat.reduceAdd, Nat.reduceLeDiff, Nat.reduceEqDiff, Nat.reduceLT, Int.reduceLT, Int.reduceLE, Int.reduceEq, Int.reduceNeg, true_or, or_true, false_or, or_false, not_false_eq_true, not_true_eq_false, false_implies, true_implies, forall_const, implies_true, Nat.zero_le, Nat.le_refl]
    exact retI ⟨by unfold ctF; rw [if_neg (by decide), if_neg (by decide), if_neg (by decide), if_pos rfl], rfl⟩
  · have h3 : w = 4 := by omega
    subst h3
    refine go_104_17 ?_
    simp only [sg_104_17, cl_I, cl_L, cl_R, e_aload_n, e_get0, e_get1, e_iret0, e_nil, l_ldA0, wRef_some, EE_n, EE_r0_4, EE_s0, EE_s21, EE_s9, EE_s9, e14, lc_lt, lc_le, lc_gt, lc_ge, lc_eq, true_and, and_true, List.length_cons, List.length_nil, ab_ia, Nat.reduceAdd, Nat.reduceLeDiff, Nat.reduceEqDiff, Nat.reduceLT, Int.reduceLT, Int.reduceLE, Int.reduceEq, Int.reduceNeg, true_or, or_true, false_or, or_false, not_false_eq_true, not_true_eq_false, false_implies, true_implies, forall_const, implies_true, Nat.zero_le, Nat.le_refl]
    exact retI ⟨by unfold ctF; rw [if_neg (by decide), if_neg (by decide), if_neg (by decide), if_neg (by decide), if_pos rfl], rfl⟩
  · have h3 : w = 5 := by omega
    subst h3
    refine go_104_21 ?_
    simp only [sg_104_21, cl_I, cl_L, cl_R, e_aload_n, e_get0, e_get1, e_iret0, e_nil, l_ldA0, wRef_some, EE_n, EE_r0_10, EE_s0, EE_s63, EE_s63, lc_lt, lc_le, lc_gt, lc_ge, lc_eq, true_and, and_true, List.length_cons, List.length_nil, ab_ia, Nat.reduceAdd, Nat.reduceLeDiff, Nat.reduceEqDiff, Nat.reduceLT, Int.reduceLT, Int.reduceLE, Int.reduceEq, Int.reduceNeg, true_or, or_true, false_or, or_false, not_false_eq_true, not_true_eq_false, false_implies, true_implies, forall_const, implies_true, Nat.zero_le, Nat.le_refl]
    exact retI ⟨by unfold ctF; rw [if_neg (by decide), if_neg (by decide), if_neg (by decide), if_neg (by decide), if_neg (by decide), if_pos rfl], rfl⟩
theorem m_count {w : Int} (hV : vM D V) (k : vOK G V) : CI 188 [vR 69, vI w] (EE L, D) (fun r D' => r = ctF V (D 69 4) (D 69 22) w ∧ D' = D) := by
  obtain ⟨e1, e9, e14⟩ := hV.1
  refine Sx.un (y := 188) (n := 0) (lo := [vR 69, vI w]) (st := []) (u := (0, 0)) ?_
  refine go_188_0 ?_
  simp only [sg_188_0, cl_I, cl_L, cl_R, e_iload_n, e_nil, e_tab, e_tab0, e_tab1, l_ld1, lc_lt, lc_le, lc_gt, lc_ge, lc_eq, true_and, and_true, List.length_cons, List.length_nil, ab_ia, Nat.reduceAdd, Nat.reduceLeDiff, Nat.reduceEqDiff, Nat.reduceLT, Int.reduceLT, Int.reduceLE, Int.reduceEq, Int.reduceNeg, true_or, or_true, false_or, or_false, not_false_eq_true, not_true_eq_false, false_implies, true_implies, forall_const, implies_true, Nat.zero_le, Nat.le_refl]
  refine ⟨fun h3 => ?_, fun h3 => ?_, fun h3 => ?_, fun h3 => ?_, fun h3 => ?_, fun h3 => ?_, fun h3 => ?_⟩
  · refine go_188_20 ?_
    simp only [sg_188_20, cl_I, cl_L, cl_R, e_bipush, e_iret0, e_nil, lc_lt, lc_le, lc_gt, lc_ge, lc_eq, true_and, and_true, List.length_cons, List.length_nil, ab_ia, Nat.reduceAdd, Nat.reduceLeDiff, Nat.reduceEqDiff, Nat.reduceLT, Int.reduceLT, Int.reduceLE, Int.reduceEq, Int.reduceNeg, true_or, or_true, false_or, or_false, not_false_eq_true, not_true_eq_false, false_implies, true_implies, forall_const, implies_true, Nat.zero_le, Nat.le_refl]
    exact retI ⟨by unfold ctF; rw [if_neg (by omega), if_neg (by omega), if_neg (by omega), if_neg (by omega), if_neg (by omega), if_neg (by omega)], rfl⟩
  · subst h3
    refine go_188_2 ?_
    simp only [sg_188_2, cl_I, cl_L, cl_R, e_aload_n, e_get0, e_iret0, e_nil, l_ldA0, wRef_some, EE_n, EE_s69, lc_lt, lc_le, lc_gt, lc_ge, lc_eq, true_and, and_true, List.length_cons, List.length_nil, ab_ia, Nat.reduceAdd, Nat.reduceLeDiff, Nat.reduceEqDiff, Nat.reduceLT, Int.reduceLT, Int.reduceLE, Int.reduceEq, Int.reduceNeg, true_or, or_true, false_or, or_false, not_false_eq_true, not_true_eq_false, false_implies, true_implies, forall_const, implies_true, Nat.zero_le, Nat.le_refl]
    exact retI ⟨by unfold ctF; rw [if_pos rfl], rfl⟩
  · have h3 : w = 1 := by omega
    subst h3
    refine go_188_5 ?_
    simp only [sg_188_5, cl_I, cl_L, cl_R, e_aload_n, e_get0, e_iret0, e_nil, l_ldA0, wRef_some, EE_n, EE_s69, e1, lc_lt, lc_le, lc_gt, lc_ge, lc_eq, true_and, and_true, List.length_cons, List.length_nil, ab_ia, Nat.reduceAdd, Nat.reduceLeDiff, Nat.reduceEqDiff, Nat.reduceLT, Int.reduceLT, Int.reduceLE, Int.reduceEq, Int.reduceNeg, true_or, or_true, false_or, or_false, not_false_eq_true, not_true_eq_false, false_implies, true_implies, forall_const, implies_true, Nat.zero_le, Nat.le_refl]
    exact retI ⟨by unfold ctF; rw [if_neg (by decide), if_pos rfl], rfl⟩
  · have h3 : w = 2 := by omega
    subst h3
    refine go_188_8 ?_
    simp only [sg_188_8, cl_I, cl_L, cl_R, e_aload_n, e_cv1, e_iret0, e_nil, fl_0, fl_I, fl_L, fl_R, l_ldA0, rk_1, EE_n, EE_s69, lc_lt, lc_le, lc_gt, lc_ge, lc_eq, true_and, and_true, List.length_cons, List.length_nil, ab_ia, Nat.reduceAdd, Nat.reduceLeDiff, Nat.reduceEqDiff, Nat.reduceLT, Int.reduceLT, Int.reduceLE, Int.reduceEq, Int.reduceNeg, true_or, or_true, false_or, or_false, not_false_eq_true, not_true_eq_false, false_implies, true_implies, forall_const, implies_true, Nat.zero_le, Nat.le_refl]
    refine CI.use (m_standing hV k) ?_
    exact retI ⟨by unfold ctF; rw [if_neg (by decide), if_neg (by decide), if_pos rfl], rfl⟩
  · have h3 : w = 3 := by omega
    subst h3
    refine go_188_11 ?_
    simp only [sg_188_11, cl_I, cl_L, cl_R, e_aload_n, e_get0, e_iret0, e_nil, l_ldA0, wRef_some, EE_n, EE_s69, e9, lc_lt, lc_le, lc_gt, lc_ge, lc_eq, true_and, and_true, List.length_cons, List.length_nil, ab_ia, Nat.reduceAdd, Nat.reduceLeDiff, Nat.reduceEqDiff, Nat.reduceLT, Int.reduceLT, Int.reduceLE, Int.reduceEq, Int.reduceNeg, true_or, or_true, false_or, or_false, not_false_eq_true, not_true_eq_false, false_implies, true_implies, forall_const, implies_true, Nat.zero_le, Nat.le_refl]
    exact retI ⟨by unfold ctF; rw [if_neg (by decide), if_neg (by decide), if_neg (by decide), if_pos rfl], rfl⟩
  · have h3 : w = 4 := by omega
    subst h3
    refine go_188_14 ?_
    simp only [sg_188_14, cl_I, cl_L, cl_R, e_aload_n, e_get0, e_iret0, e_nil, l_ldA0, wRef_some, EE_n, EE_s69, e14, lc_lt, lc_le, lc_gt, lc_ge, lc_eq, true_and, and_true, List.length_cons, List.length_nil, ab_ia, Nat.reduceAdd, Nat.reduceLeDiff, Nat.reduceEqDiff, Nat.reduceLT, Int.reduceLT, Int.reduceLE, Int.reduceEq, Int.reduceNeg, true_or, or_true, false_or, or_false, not_false_eq_true, not_true_eq_false, false_implies, true_implies, forall_const, implies_true, Nat.zero_le, Nat.le_refl]
    exact retI ⟨by unfold ctF; rw [if_neg (by decide), if_neg (by decide), if_neg (by decide), if_neg (by decide), if_pos rfl], rfl⟩
  · have h3 : w = 5 := by omega
    subst h3
    refine go_188_17 ?_
    simp only [sg_188_17, cl_I, cl_L, cl_R, e_aload_n, e_get0, e_iret0, e_nil, l_ldA0, wRef_some, EE_n, EE_s69, lc_lt, lc_le, lc_gt, lc_ge, lc_eq, true_and, and_true, List.length_cons, List.length_nil, ab_ia, Nat.reduceAdd, Nat.reduceLeDiff, Nat.reduceEqDiff, Nat.reduceLT, Int.reduceLT, Int.reduceLE, Int.reduceEq, Int.reduceNeg, true_or, or_true, false_or, or_false, not_false_eq_true, not_true_eq_false, false_implies, true_implies, forall_const, implies_true, Nat.zero_le, Nat.le_refl]
    exact retI ⟨by unfold ctF; rw [if_neg (by decide), if_neg (by decide), if_neg (by decide), if_neg (by decide), if_neg (by decide), if_pos rfl], rfl⟩
end Calls

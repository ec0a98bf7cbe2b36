/-! the reference: menders -/
/-- as frM, and the poles that were taken -/
def frT (D D' : ab_D) : Prop := (∀ a, a ≠ 69 → a ≠ 74 → a ≠ 75 → a ≠ 76 → D' a = D a) ∧ ∀ j, j ≠ 8 → j ≠ 10 → j ≠ 12 → j ≠ 18 → D' 69 j = D 69 j
theorem frT.refl {D : ab_D} : frT D D := ⟨fun _ _ _ _ _ => rfl, fun _ _ _ _ _ => rfl⟩
theorem frT.trans {D D' D'' : ab_D} (h : frT D D') (k : frT D' D'') : frT D D'' := ⟨fun a h1 h2 h3 h4 => (k.1 a h1 h2 h3 h4).trans (h.1 a h1 h2 h3 h4), fun j h1 h2 h3 h4 => (k.2 j h1 h2 h3 h4).trans (h.2 j h1 h2 h3 h4)⟩
theorem frM.t {D D' : ab_D} (h : frM D D') : frT D D' := ⟨h.1, fun j h1 h2 h3 _ => h.2 j h1 h2 h3⟩
theorem frT_ups {b i : Nat} {z : Int} {D D' : ab_D} (hb : (b = 74 ∨ b = 75 ∨ b = 76) ∨ (b = 69 ∧ (i = 8 ∨ i = 10 ∨ i = 12 ∨ i = 18))) (h : frT D D') : frT D (ups D' b i z) := ⟨fun a h1 h2 h3 h4 => by
  funext j
  rw [ups_ne1 (by omega), h.1 a h1 h2 h3 h4], fun j h1 h2 h3 h4 => by
  by_cases q : b = 69
  · rw [ups_ne2 (by omega), h.2 j h1 h2 h3 h4]
  · rw [ups_ne1 (by omega), h.2 j h1 h2 h3 h4]⟩
theorem retV' {E : ab_E} {D1 : ab_D} {P : ab_D → Prop} (h : P D1) : ∃ D', (E, D1) = (E, D') ∧ P D' := ⟨D1, rfl, h⟩
section RefMend
variable {L : Nat} {D : ab_D} {G : Gr} {V W : Vil}
theorem gM_frT {D' : ab_D} (hf : frT D D') (hg : gM D G) : gM D' G := hg.congr (hf.1 71 (by decide) (by decide) (by decide) (by decide))
theorem m_put {c w d b : Int} (hV : vM D V) (k : vOK G V) (hn : V.np < 24) : CV 137 [vR 69, vI c, vI w, vI d, vI b] (EE L, D) (fun D' => frM D D' ∧ vM D' (putV V c w d b)) := by
  have e1 := hV.1.1
  have eyr := hV.1.2.2
  have kk := k.1
  refine Sx.un (y := 137) (n := 0) (lo := [vR 69, vI c, vI w, vI d, vI b, vU]) (st := []) (u := (0, 0)) ?_
  refine go_137_0 ?_
  simp only [sg_137_0, cl_I, cl_L, cl_R, e_aload_n, e_bipush, e_dupI, e_dupR, e_get0, e_get1, e_iadd, e_iastore, e_iconst, e_iload, e_iload_n, e_imul, e_istore, e_nil, e_put0, e_vret, l_ld1, l_ld2, l_ld3, l_ld4, l_ld5, l_ldA0, l_st5, wRef_some, EE_n, EE_r69_9, EE_s69, EE_s74, e1, lc_lt, lc_le, lc_gt, lc_ge, lc_eq, true_and, and_true, List.length_cons, List.length_nil, ab_ia, Nat.reduceAdd, Nat.reduceLeDiff, Nat.reduceEqDiff, Nat.reduceLT, Int.reduceLT, Int.reduceLE, Int.reduceEq, Int.reduceNeg, true_or, or_true, false_or, or_false, not_false_eq_true, not_true_eq_false, false_implies, true_implies, forall_const, implies_true, Nat.zero_le, Nat.le_refl]
  simp (disch := omega) only [ups_ne1, e1, eyr]
  refine ⟨⟨by omega, by omega⟩, by omega, ⟨by omega, by omega⟩, by omega, ⟨by omega, by omega⟩, by omega, ⟨by omega, by omega⟩, by omega, ⟨by omega, by omega⟩, by omega, ⟨by omega, by omega⟩, by omega, ⟨by omega, by omega⟩, by omega, ⟨by omega, by omega⟩, by omega, ⟨by omega, by omega⟩, retV' ⟨?_, ?_⟩⟩
  · exact frM_ups (by omega) (frM_ups (by omega) (frM_ups (by omega) (frM_ups (by omega) (frM_ups (by omega) (frM_ups (by omega) (frM_ups (by omega) (frM_ups (by omega) (frM_ups (by omega) frM.refl))))))))
  · obtain ⟨⟨a1, a2, a3⟩, hb, hc⟩ := hV
    refine ⟨⟨?_, ?_, ?_⟩, fun p p0 p1 => ?_, fun h h0 h1 => ?_⟩
    · rw [ups_self]; rfl
    · simp (disch := omega) only [ups_ne1, ups_ne2]; exact a2
    · simp (disch := omega) only [ups_ne1, ups_ne2]; exact a3
    · rw [putV_np] at p1
      by_cases q : p = V.np
      · subst q
        obtain ⟨e0, e1, e2, e3, e4, e5, e7⟩ := putV_new (V := V) (c := c) (w := w) (d := d) (k := b)
        rw [e0, e1, e2, e3, e4, e5, e7]
        simp (disch := omega) only [ups_ne1, ups_ne2, ups_self, and_self, if_true]
      · simp (disch := omega) only [ups_ne1, ups_ne2, putV_old]
        exact hb p p0 (by omega)
    · simp (disch := omega) only [ups_ne1, ups_ne2]; exact hc h h0 h1
theorem m_mend {c : Int} (hV : vM D V) (k : vOK G V) (ht : 0 ≤ D 69 18 ∧ D 69 18 ≤ 1000) : CV 152 [vR 69, vI c] (EE L, D) (fun D' => frT D D' ∧ vM D' (mput V c) ∧ D' 69 18 = D 69 18 + ((mput V c).np - V.np)) := by
  have e1 := hV.1.1
  refine Sx.un (y := 152) (n := 0) (lo := [vR 69, vI c]) (st := []) (u := (0, 0)) ?_
  refine go_152_0 ?_
  simp only [sg_152_0, cl_I, cl_L, cl_R, e_aload_n, e_bipush, e_cv5, e_dupI, e_dupR, e_get0, e_iadd, e_icmp_ge, e_iconst, e_iload_n, e_nil, e_put0, e_vret, fl_0, fl_I, fl_L, fl_R, l_ld1, l_ldA0, rk_0, wRef_some, EE_n, EE_s69, e1, lc_lt, lc_le, lc_gt, lc_ge, lc_eq, true_and, and_true, List.length_cons, List.length_nil, ab_ia, Nat.reduceAdd, Nat.reduceLeDiff, Nat.reduceEqDiff, Nat.reduceLT, Int.reduceLT, Int.reduceLE, Int.reduceEq, Int.reduceNeg, true_or, or_true, false_or, or_false, not_false_eq_true, not_true_eq_false, false_implies, true_implies, forall_const, implies_true, Nat.zero_le, Nat.le_refl]
  refine ⟨fun h1 => ?_, fun h1 => ?_⟩
  · refine go_152_16 ?_
    simp only [sg_152_16, cl_I, cl_L, cl_R, e_nil, e_vret, lc_lt, lc_le, lc_gt, lc_ge, lc_eq, true_and, and_true, List.length_cons, List.length_nil, ab_ia, Nat.reduceAdd, Nat.reduceLeDiff, Nat.reduceEqDiff, Nat.reduceLT, Int.reduceLT, Int.reduceLE, Int.reduceEq, Int.reduceNeg, true_or, or_true, false_or, or_false, not_false_eq_true, not_true_eq_false, false_implies, true_implies, forall_const, implies_true, Nat.zero_le, Nat.le_refl]
    refine retV' ⟨frT.refl, ?_, ?_⟩
    · unfold mput; rw [if_neg (by omega)]; exact hV
    · unfold mput; rw [if_neg (by omega)]; omega
  · refine (m_put hV k (by omega)).mono ?_
    rintro D' ⟨hf, hV'⟩
    have et : D' 69 18 = D 69 18 := hf.2 18 (by decide) (by decide) (by decide)
    rw [et]
    refine ⟨⟨by omega, by omega⟩, retV' ⟨frT_ups (by omega) hf.t, ?_, ?_⟩⟩
    · unfold mput
      rw [if_pos (by omega)]
      obtain ⟨⟨a1, a2, a3⟩, hb, hc⟩ := hV'
      refine ⟨⟨?_, ?_, ?_⟩, fun p p0 p1 => ?_, fun h h0 h1 => ?_⟩
      · rw [ups_ne2 (by decide)]; exact a1
      · rw [ups_ne2 (by decide)]; exact a2
      · rw [ups_ne2 (by decide)]; exact a3
      · simp (disch := omega) only [ups_ne1]
        exact hb p p0 p1
      · simp (disch := omega) only [ups_ne1]
        exact hc h h0 h1
    · rw [ups_self]
      unfold mput
      rw [if_pos (by omega), putV_np]
      omega
theorem m_mh_A {Q : Option ab_V → ab_H → Prop} {rule many h : Int} {x6 : ab_V} (g : gOK G) (k : vOK G W) (hr : 0 ≤ rule ∧ rule % 2 = 1) (hm : many ≤ W.np) (j0 : 0 ≤ h) (j1 : h < W.nh) (hb : 0 ≤ D 69 18 ∧ D 69 18 ≤ 500)
    (hq : ∀ D' x5, frT D D' → vM D' (mfl h W many.toNat) → D' 69 18 = D 69 18 + ((mfl h W many.toNat).np - W.np) → Sx 153 67 [vR 69, vI rule, vI many, vI h, vI 1, x5, x6] [] (EE L, D') (0, 0) Q) :
    ∀ (t : Nat) (p : Int) (D1 : ab_D), 0 ≤ p → p + t = many → frT D D1 → vM D1 (mfl h W p.toNat) → D1 69 18 = D 69 18 + ((mfl h W p.toNat).np - W.np) → Sx 153 24 [vR 69, vI rule, vI many, vI h, vI 1, vI p, x6] [] (EE L, D1) (0, 0) Q := by
  have kk := k.1
  intro t
  induction t with
  | zero =>
    intro p D1 h0 ht hf hV ht1
    refine go_153_24 ?_
    simp only [sg_153_24, cl_I, cl_L, cl_R, e_aload_n, e_bipush, e_cv2, e_cv3, e_get0, e_get1, e_goto, e_iadd, e_iaload, e_icmp_ge, e_icmp_ne, e_iconst, e_if_eq, e_iinc, e_iload, e_iload_n, e_imul, e_irem, e_isub, e_nil, fl_0, fl_I, fl_L, fl_R, l_inc5, l_ld1, l_ld2, l_ld3, l_ld4, l_ld5, l_ldA0, rk_0, rk_1, wRef_some, EE_n, EE_r69_9, EE_s69, EE_s74, lc_lt, lc_le, lc_gt, lc_ge, lc_eq, true_and, and_true, List.length_cons, List.length_nil, ab_ia, Nat.reduceAdd, Nat.reduceLeDiff, Nat.reduceEqDiff, Nat.reduceLT, Int.reduceLT, Int.reduceLE, Int.reduceEq, Int.reduceNeg, true_or, or_true, false_or, or_false, not_false_eq_true, not_true_eq_false, false_implies, true_implies, forall_const, implies_true, Nat.zero_le, Nat.le_refl]
    refine ⟨fun _ => ?_, fun hc => absurd hc (by omega)⟩
    rw [show p.toNat = many.toNat by omega] at hV ht1
    exact hq D1 _ hf hV ht1
  | succ t ih =>
    intro p D1 h0 ht hf hV ht1
    have hgr := (mfl_grew (h := h) (V := W) (k := p.toNat)).1
    have kU : vOK G (mfl h W p.toNat) := mfl_ok k (by omega)
    have ihk := fun D' => ih (p + 1) D' (by omega) (by omega)
    rw [show (p + 1).toNat = p.toNat + 1 by omega, mfl, show ((p.toNat : Nat) : Int) = p by omega] at ihk
    generalize mfl h W p.toNat = U at *
    obtain ⟨w0, w1, w2, w3, w4, w5, w6, w7⟩ := hV.2.1 p h0 (by omega)
    have hcl := kU.cl g h0 (by omega)
    unfold isCl at hcl
    have eyr := hV.1.2.2
    have kw := kU.1
    have no : ¬ (U.p p 7 = U.yr - 1 ∧ cov (U.h h 0) (U.h h 1) (U.p p 0)) → Sx 153 65 [vR 69, vI rule, vI many, vI h, vI 1, vI p, x6] [] (EE L, D1) (0, 0) Q := by
      intro hno
      have eS : mflS U h p = U := by unfold mflS; rw [if_neg hno]
      rw [eS] at ihk
      refine go_153_65 ?_
      simp only [sg_153_65, cl_I, cl_L, cl_R, e_goto, e_iinc, e_nil, l_inc5, lc_lt, lc_le, lc_gt, lc_ge, lc_eq, true_and, and_true, List.length_cons, List.length_nil, ab_ia, Nat.reduceAdd, Nat.reduceLeDiff, Nat.reduceEqDiff, Nat.reduceLT, Int.reduceLT, Int.reduceLE, Int.reduceEq, Int.reduceNeg, true_or, or_true, false_or, or_false, not_false_eq_true, not_true_eq_false, false_implies, true_implies, forall_const, implies_true, Nat.zero_le, Nat.le_refl]
      exact ⟨⟨by omega, by omega⟩, ihk _ hf hV ht1⟩
    refine go_153_24 ?_
    simp only [sg_153_24, cl_I, cl_L, cl_R, e_aload_n, e_bipush, e_cv2, e_cv3, e_get0, e_get1, e_goto, e_iadd, e_iaload, e_icmp_ge, e_icmp_ne, e_iconst, e_if_eq, e_iinc, e_iload, e_iload_n, e_imul, e_irem, e_isub, e_nil, fl_0, fl_I, fl_L, fl_R, l_inc5, l_ld1, l_ld2, l_ld3, l_ld4, l_ld5, l_ldA0, rk_0, rk_1, wRef_some, EE_n, EE_r69_9, EE_s69, EE_s74, w7, eyr, w0, lc_lt, lc_le, lc_gt, lc_ge, lc_eq, true_and, and_true, List.length_cons, List.length_nil, ab_ia, Nat.reduceAdd, Nat.reduceLeDiff, Nat.reduceEqDiff, Nat.reduceLT, Int.reduceLT, Int.reduceLE, Int.reduceEq, Int.reduceNeg, true_or, or_true, false_or, or_false, not_false_eq_true, not_true_eq_false, false_implies, true_implies, forall_const, implies_true, Nat.zero_le, Nat.le_refl]
    refine ⟨fun hc => absurd hc (by omega), fun _ => ⟨by omega, fun hc => absurd hc (by omega), fun _ => ⟨⟨by omega, by omega⟩, ⟨by omega, by omega⟩, by omega, ⟨by omega, by omega⟩, fun h2 => no (fun q => h2 q.1), fun h2 => ⟨⟨by omega, by omega⟩, by omega, ?_⟩⟩⟩⟩
    refine CB.use (m_covers hV kU j0 (by omega) (by omega)) (fun h3 => ?_) (fun h3 => ?_)
    · try simp only [EE_n, EE_s74, EE_s69, w0, lc_lt, lc_le, lc_gt, lc_ge, lc_eq, true_and, and_true, List.length_cons, List.length_nil, ab_ia, Nat.reduceAdd, Nat.reduceLeDiff, Nat.reduceEqDiff, Nat.reduceLT, Int.reduceLT, Int.reduceLE, Int.reduceEq, Int.reduceNeg, true_or, or_true, false_or, or_false, not_false_eq_true, not_true_eq_false, false_implies, true_implies, forall_const, implies_true, Nat.zero_le, Nat.le_refl]
      have hyes : U.p p 7 = U.yr - 1 ∧ cov (U.h h 0) (U.h h 1) (U.p p 0) := ⟨by omega, h3⟩
      have eS : mflS U h p = mput U (U.p p 0) := by unfold mflS; rw [if_pos hyes]
      rw [eS] at ihk
      refine ⟨⟨by omega, by omega⟩, by omega, ?_⟩
      refine (m_mend hV kU (by omega)).mono ?_
      rintro D2 ⟨hf2, hV2, ht2⟩
      exact ⟨⟨by omega, by omega⟩, ihk _ (hf.trans hf2) hV2 (by omega)⟩
    · try simp only [lc_lt, lc_le, lc_gt, lc_ge, lc_eq, true_and, and_true, List.length_cons, List.length_nil, ab_ia, Nat.reduceAdd, Nat.reduceLeDiff, Nat.reduceEqDiff, Nat.reduceLT, Int.reduceLT, Int.reduceLE, Int.reduceEq, Int.reduceNeg, true_or, or_true, false_or, or_false, not_false_eq_true, not_true_eq_false, false_implies, true_implies, forall_const, implies_true, Nat.zero_le, Nat.le_refl]
      exact no (fun q => h3 q.2)
theorem m_mh_B {Q : Option ab_V → ab_H → Prop} {rule many h : Int} (g : gOK G) (hg : gM D G) (hV : vM D W) (k : vOK G W) (hr : 1 < rule) (j0 : 0 ≤ h) (j1 : h < W.nh)
    (hq : ∀ x6, Sx 153 100 [vR 69, vI rule, vI many, vI h, vI 1, vI (if wkb G W h W.np.toNat = true then 1 else 0), x6] [] (EE L, D) (0, 0) Q) :
    ∀ (t : Nat) (p : Int), 0 ≤ p → p + t = W.np → Sx 153 71 [vR 69, vI rule, vI many, vI h, vI 1, vI (if wkb G W h p.toNat = true then 1 else 0), vI p] [] (EE L, D) (0, 0) Q := by
  have kk := k.1
  have e1 := hV.1.1
  intro t
  induction t with
  | zero =>
    intro p h0 ht
    refine go_153_71 ?_
    simp only [sg_153_71, cl_I, cl_L, cl_R, e_aload_n, e_cv2, e_cv3, e_get0, e_goto, e_icmp_ge, e_icmp_le, e_iconst, e_if_eq, e_if_ne, e_iload, e_iload_n, e_nil, fl_0, fl_I, fl_L, fl_R, l_ld1, l_ld3, l_ld4, l_ld5, l_ld6, l_ldA0, rk_1, wRef_some, EE_n, EE_s69, e1, lc_lt, lc_le, lc_gt, lc_ge, lc_eq, true_and, and_true, List.length_cons, List.length_nil, ab_ia, Nat.reduceAdd, Nat.reduceLeDiff, Nat.reduceEqDiff, Nat.reduceLT, Int.reduceLT, Int.reduceLE, Int.reduceEq, Int.reduceNeg, true_or, or_true, false_or, or_false, not_false_eq_true, not_true_eq_false, false_implies, true_implies, forall_const, implies_true, Nat.zero_le, Nat.le_refl]
    refine ⟨fun _ => ?_, fun hc => absurd hc (by omega)⟩
    rw [show p.toNat = W.np.toNat by omega]
    exact hq _
  | succ t ih =>
    intro p h0 ht
    have ihk := ih (p + 1) (by omega) (by omega)
    have ew : wkb G W h (p + 1).toNat = (wkb G W h p.toNat || (plb W h p && decide (hlP G W p < shr W h))) := by
      rw [show (p + 1).toNat = p.toNat + 1 by omega, wkb, show ((p.toNat : Nat) : Int) = p by omega]
    generalize hwk : wkb G W h p.toNat = wk at *
    have nx : wkb G W h (p + 1).toNat = true → ∀ x5 : ab_V, Sx 153 94 [vR 69, vI rule, vI many, vI h, vI 1, x5, vI p] [] (EE L, D) (0, 0) Q := by
      intro q x5
      rw [q] at ihk
      refine go_153_94 ?_
      simp only [sg_153_94, cl_I, cl_L, cl_R, e_goto, e_iconst, e_nil, lc_lt, lc_le, lc_gt, lc_ge, lc_eq, true_and, and_true, List.length_cons, List.length_nil, ab_ia, Nat.reduceAdd, Nat.reduceLeDiff, Nat.reduceEqDiff, Nat.reduceLT, Int.reduceLT, Int.reduceLE, Int.reduceEq, Int.reduceNeg, true_or, or_true, false_or, or_false, not_false_eq_true, not_true_eq_false, false_implies, true_implies, forall_const, implies_true, Nat.zero_le, Nat.le_refl]
      refine go_153_97 ?_
      simp only [sg_153_97, cl_I, cl_L, cl_R, e_goto, e_iinc, e_istore, e_nil, l_inc6, l_st5, lc_lt, lc_le, lc_gt, lc_ge, lc_eq, true_and, and_true, List.length_cons, List.length_nil, ab_ia, Nat.reduceAdd, Nat.reduceLeDiff, Nat.reduceEqDiff, Nat.reduceLT, Int.reduceLT, Int.reduceLE, Int.reduceEq, Int.reduceNeg, true_or, or_true, false_or, or_false, not_false_eq_true, not_true_eq_false, false_implies, true_implies, forall_const, implies_true, Nat.zero_le, Nat.le_refl]
      exact ⟨⟨by omega, by omega⟩, ihk⟩
    have nz : wkb G W h (p + 1).toNat = false → ∀ x5 : ab_V, Sx 153 96 [vR 69, vI rule, vI many, vI h, vI 1, x5, vI p] [] (EE L, D) (0, 0) Q := by
      intro q x5
      rw [q] at ihk
      refine go_153_96 ?_
      simp only [sg_153_96, cl_I, cl_L, cl_R, e_goto, e_iconst, e_iinc, e_istore, e_nil, l_inc6, l_st5, lc_lt, lc_le, lc_gt, lc_ge, lc_eq, true_and, and_true, List.length_cons, List.length_nil, ab_ia, Nat.reduceAdd, Nat.reduceLeDiff, Nat.reduceEqDiff, Nat.reduceLT, Int.reduceLT, Int.reduceLE, Int.reduceEq, Int.reduceNeg, true_or, or_true, false_or, or_false, not_false_eq_true, not_true_eq_false, false_implies, true_implies, forall_const, implies_true, Nat.zero_le, Nat.le_refl]
      exact ⟨⟨by omega, by omega⟩, ihk⟩
    refine go_153_71 ?_
    simp only [sg_153_71, cl_I, cl_L, cl_R, e_aload_n, e_cv2, e_cv3, e_get0, e_goto, e_icmp_ge, e_icmp_le, e_iconst, e_if_eq, e_if_ne, e_iload, e_iload_n, e_nil, fl_0, fl_I, fl_L, fl_R, l_ld1, l_ld3, l_ld4, l_ld5, l_ld6, l_ldA0, rk_1, wRef_some, EE_n, EE_s69, e1, lc_lt, lc_le, lc_gt, lc_ge, lc_eq, true_and, and_true, List.length_cons, List.length_nil, ab_ia, Nat.reduceAdd, Nat.reduceLeDiff, Nat.reduceEqDiff, Nat.reduceLT, Int.reduceLT, Int.reduceLE, Int.reduceEq, Int.reduceNeg, true_or, or_true, false_or, or_false, not_false_eq_true, not_true_eq_false, false_implies, true_implies, forall_const, implies_true, Nat.zero_le, Nat.le_refl]
    refine ⟨fun hc => absurd hc (by omega), fun _ => ⟨fun hc => absurd hc (by omega), fun _ => ⟨fun h1 => ?_, fun h1 => ?_⟩⟩⟩
    · have h1 : wk = true := by
        cases wk
        · exact absurd rfl h1
        · rfl
      exact nx (by rw [ew, h1]; rfl) _
    · have h1 : wk = false := by
        cases wk
        · rfl
        · exact absurd (by decide) h1
      rw [h1, Bool.false_or] at ew
      refine CB.use (m_isOf g hV k h0 (by omega) j0 j1) (fun h2 => ?_) (fun h2 => ?_)
      · try simp only [EE_n, EE_s69, lc_lt, lc_le, lc_gt, lc_ge, lc_eq, true_and, and_true, List.length_cons, List.length_nil, ab_ia, Nat.reduceAdd, Nat.reduceLeDiff, Nat.reduceEqDiff, Nat.reduceLT, Int.reduceLT, Int.reduceLE, Int.reduceEq, Int.reduceNeg, true_or, or_true, false_or, or_false, not_false_eq_true, not_true_eq_false, false_implies, true_implies, forall_const, implies_true, Nat.zero_le, Nat.le_refl]
        rw [plb_t h2, Bool.true_and] at ew
        refine CI.use (m_shr g hV k j0 j1) ?_
        try simp only [EE_n, EE_s69, lc_lt, lc_le, lc_gt, lc_ge, lc_eq, true_and, and_true, List.length_cons, List.length_nil, ab_ia, Nat.reduceAdd, Nat.reduceLeDiff, Nat.reduceEqDiff, Nat.reduceLT, Int.reduceLT, Int.reduceLE, Int.reduceEq, Int.reduceNeg, true_or, or_true, false_or, or_false, not_false_eq_true, not_true_eq_false, false_implies, true_implies, forall_const, implies_true, Nat.zero_le, Nat.le_refl]
        refine CI.use (m_holds g hg hV k h0 (by omega)) ?_
        try simp only [lc_lt, lc_le, lc_gt, lc_ge, lc_eq, true_and, and_true, List.length_cons, List.length_nil, ab_ia, Nat.reduceAdd, Nat.reduceLeDiff, Nat.reduceEqDiff, Nat.reduceLT, Int.reduceLT, Int.reduceLE, Int.reduceEq, Int.reduceNeg, true_or, or_true, false_or, or_false, not_false_eq_true, not_true_eq_false, false_implies, true_implies, forall_const, implies_true, Nat.zero_le, Nat.le_refl]
        refine ⟨fun h3 => nz (by rw [ew]; exact decide_eq_false (by omega)) _, fun h3 => ?_⟩
        have ew2 : wkb G W h (p + 1).toNat = true := by rw [ew]; exact decide_eq_true (by omega)
        rw [ew2] at ihk
        refine go_153_97 ?_
        simp only [sg_153_97, cl_I, cl_L, cl_R, e_goto, e_iinc, e_istore, e_nil, l_inc6, l_st5, lc_lt, lc_le, lc_gt, lc_ge, lc_eq, true_and, and_true, List.length_cons, List.length_nil, ab_ia, Nat.reduceAdd, Nat.reduceLeDiff, Nat.reduceEqDiff, Nat.reduceLT, Int.reduceLT, Int.reduceLE, Int.reduceEq, Int.reduceNeg, true_or, or_true, false_or, or_false, not_false_eq_true, not_true_eq_false, false_implies, true_implies, forall_const, implies_true, Nat.zero_le, Nat.le_refl]
        exact ⟨⟨by omega, by omega⟩, ihk⟩
      · try simp only [lc_lt, lc_le, lc_gt, lc_ge, lc_eq, true_and, and_true, List.length_cons, List.length_nil, ab_ia, Nat.reduceAdd, Nat.reduceLeDiff, Nat.reduceEqDiff, Nat.reduceLT, Int.reduceLT, Int.reduceLE, Int.reduceEq, Int.reduceNeg, true_or, or_true, false_or, or_false, not_false_eq_true, not_true_eq_false, false_implies, true_implies, forall_const, implies_true, Nat.zero_le, Nat.le_refl]
        exact nz (by rw [ew, plb_f h2]; rfl) _
theorem m_mh_C {Q : Option ab_V → ab_H → Prop} {rule many h wk : Int} {x4 x6 : ab_V} (hV : vM D W) (k : vOK G W) (j0 : 0 ≤ h) (j1 : h < W.nh) (hb : 0 ≤ D 69 18 ∧ D 69 18 ≤ 600) {U : Vil} (hU : (wk = 0 ∧ U = W) ∨ (wk = 1 ∧ U = mput W (W.h h 0)))
    (hq : ∀ D', frT D D' → vM D' U → D' 69 18 = D 69 18 + (U.np - W.np) → Sx 153 5 [vR 69, vI rule, vI many, vI (h + 1), x4, vI wk, x6] [] (EE L, D') (0, 0) Q) : Sx 153 100 [vR 69, vI rule, vI many, vI h, x4, vI wk, x6] [] (EE L, D) (0, 0) Q := by
  have c0 := (hV.2.2 h j0 j1).1
  have kk := k.1
  refine go_153_100 ?_
  simp only [sg_153_100, cl_I, cl_L, cl_R, e_aload_n, e_cv2, e_get1, e_goto, e_iaload, e_iconst, e_if_eq, e_iinc, e_iload, e_iload_n, e_imul, e_nil, fl_0, fl_I, fl_L, fl_R, l_inc3, l_ld3, l_ld5, l_ldA0, rk_0, wRef_some, EE_n, EE_r69_11, EE_s69, EE_s75, c0, lc_lt, lc_le, lc_gt, lc_ge, lc_eq, true_and, and_true, List.length_cons, List.length_nil, ab_ia, Nat.reduceAdd, Nat.reduceLeDiff, Nat.reduceEqDiff, Nat.reduceLT, Int.reduceLT, Int.reduceLE, Int.reduceEq, Int.reduceNeg, true_or, or_true, false_or, or_false, not_false_eq_true, not_true_eq_false, false_implies, true_implies, forall_const, implies_true, Nat.zero_le, Nat.le_refl]
  refine ⟨fun h1 => ?_, fun h1 => ⟨⟨by omega, by omega⟩, by omega, ?_⟩⟩
  · refine go_153_110 ?_
    simp only [sg_153_110, cl_I, cl_L, cl_R, e_goto, e_iinc, e_nil, l_inc3, lc_lt, lc_le, lc_gt, lc_ge, lc_eq, true_and, and_true, List.length_cons, List.length_nil, ab_ia, Nat.reduceAdd, Nat.reduceLeDiff, Nat.reduceEqDiff, Nat.reduceLT, Int.reduceLT, Int.reduceLE, Int.reduceEq, Int.reduceNeg, true_or, or_true, false_or, or_false, not_false_eq_true, not_true_eq_false, false_implies, true_implies, forall_const, implies_true, Nat.zero_le, Nat.le_refl]
    rcases hU with ⟨_, rfl⟩ | ⟨q, _⟩
    · exact ⟨⟨by omega, by omega⟩, hq D frT.refl hV (by omega)⟩
    · omega
  · rcases hU with ⟨q, _⟩ | ⟨_, rfl⟩
    · omega
    · refine (m_mend hV k (by omega)).mono ?_
      rintro D2 ⟨hf2, hV2, ht2⟩
      exact ⟨⟨by omega, by omega⟩, hq D2 hf2 hV2 ht2⟩
theorem m_mh_loop {Q : Option ab_V → ab_H → Prop} {rule : Int} (g : gOK G) (hg : gM D G) (k : vOK G V) (hr : 0 ≤ rule ∧ rule < 4) (hb : 0 ≤ D 69 18 ∧ D 69 18 ≤ 300)
    (hq : ∀ D', frT D D' → vM D' (mendV G rule V) → D' 69 18 = D 69 18 + ((mendV G rule V).np - V.np) → Q none (EE L, D')) :
    ∀ (t : Nat) (h : Int) (D1 : ab_D) (x4 x5 x6 : ab_V), 0 ≤ h → h + t = V.nh → frT D D1 → vM D1 (mndV G rule V.np V h.toNat) → D1 69 18 = D 69 18 + ((mndV G rule V.np V h.toNat).np - V.np) → Sx 153 5 [vR 69, vI rule, vI V.np, vI h, x4, x5, x6] [] (EE L, D1) (0, 0) Q := by
  have kk := k.1
  intro t
  induction t with
  | zero =>
    intro h D1 x4 x5 x6 h0 ht hf hV ht1
    have hgr := (mndV_grew (G := G) (V := V) (rule := rule) (many := V.np) (k := h.toNat)).1
    have e1 : D1 69 10 = V.nh := by rw [hV.1.2.1, hgr.2.1]
    refine go_153_5 ?_
    simp only [sg_153_5, cl_I, cl_L, cl_R, e_aload_n, e_get0, e_get1, e_goto, e_iadd, e_iaload, e_icmp_ge, e_iconst, e_if_ne, e_iload_n, e_imul, e_nil, l_ld3, l_ldA0, wRef_some, EE_n, EE_r69_11, EE_s69, EE_s75, e1, lc_lt, lc_le, lc_gt, lc_ge, lc_eq, true_and, and_true, List.length_cons, List.length_nil, ab_ia, Nat.reduceAdd, Nat.reduceLeDiff, Nat.reduceEqDiff, Nat.reduceLT, Int.reduceLT, Int.reduceLE, Int.reduceEq, Int.reduceNeg, true_or, or_true, false_or, or_false, not_false_eq_true, not_true_eq_false, false_implies, true_implies, forall_const, implies_true, Nat.zero_le, Nat.le_refl]
    refine ⟨fun _ => ?_, fun hc => absurd hc (by omega)⟩
    refine go_153_112 ?_
    simp only [sg_153_112, cl_I, cl_L, cl_R, e_nil, e_vret, lc_lt, lc_le, lc_gt, lc_ge, lc_eq, true_and, and_true, List.length_cons, List.length_nil, ab_ia, Nat.reduceAdd, Nat.reduceLeDiff, Nat.reduceEqDiff, Nat.reduceLT, Int.reduceLT, Int.reduceLE, Int.reduceEq, Int.reduceNeg, true_or, or_true, false_or, or_false, not_false_eq_true, not_true_eq_false, false_implies, true_implies, forall_const, implies_true, Nat.zero_le, Nat.le_refl]
    have e : h.toNat = V.nh.toNat := by omega
    rw [e] at hV ht1
    exact hq D1 hf hV ht1
  | succ t ih =>
    intro h D1 x4 x5 x6 h0 ht hf hV ht1
    have hgr := mndV_grew (G := G) (V := V) (rule := rule) (many := V.np) (k := h.toNat)
    have kW : vOK G (mndV G rule V.np V h.toNat) := mndV_ok k (by omega) (Int.le_refl _) (by omega)
    have ihk := fun D' x4 x5 x6 => ih (h + 1) D' x4 x5 x6 (by omega) (by omega)
    rw [show (h + 1).toNat = h.toNat + 1 by omega, mndV, show ((h.toNat : Nat) : Int) = h by omega] at ihk
    generalize mndV G rule V.np V h.toNat = W at *
    have hg1 := gM_frT hf hg
    have e1 : D1 69 10 = V.nh := by rw [hV.1.2.1, hgr.1.2.1]
    have hhn : h < W.nh := by rw [hgr.1.2.1]; omega
    obtain ⟨c0, c1, c2, c3⟩ := hV.2.2 h h0 hhn
    have hgrn := hgr.1.1
    have kw := kW.1
    have k3 := (kW.2.2.1 h h0 hhn).2.2.2
    refine go_153_5 ?_
    simp only [sg_153_5, cl_I, cl_L, cl_R, e_aload_n, e_get0, e_get1, e_goto, e_iadd, e_iaload, e_icmp_ge, e_iconst, e_if_ne, e_iload_n, e_imul, e_nil, l_ld3, l_ldA0, wRef_some, EE_n, EE_r69_11, EE_s69, EE_s75, e1, c3, lc_lt, lc_le, lc_gt, lc_ge, lc_eq, true_and, and_true, List.length_cons, List.length_nil, ab_ia, Nat.reduceAdd, Nat.reduceLeDiff, Nat.reduceEqDiff, Nat.reduceLT, Int.reduceLT, Int.reduceLE, Int.reduceEq, Int.reduceNeg, true_or, or_true, false_or, or_false, not_false_eq_true, not_true_eq_false, false_implies, true_implies, forall_const, implies_true, Nat.zero_le, Nat.le_refl]
    refine ⟨fun hc => absurd hc (by omega), fun _ => ⟨⟨by omega, by omega⟩, ⟨by omega, by omega⟩, by omega, fun h3 => ?_, fun h3 => ?_⟩⟩
    · have em : mhs G rule V.np W h = W := by unfold mhs; rw [if_neg h3]
      rw [em] at ihk
      have lst : ∀ x5 x6 : ab_V, Sx 153 67 [vR 69, vI rule, vI V.np, vI h, vI 0, x5, x6] [] (EE L, D1) (0, 0) Q := by
        intro x5 x6
        refine go_153_67 ?_
        simp only [sg_153_67, cl_I, cl_L, cl_R, e_iconst, e_istore, e_nil, l_st5, l_st6, lc_lt, lc_le, lc_gt, lc_ge, lc_eq, true_and, and_true, List.length_cons, List.length_nil, ab_ia, Nat.reduceAdd, Nat.reduceLeDiff, Nat.reduceEqDiff, Nat.reduceLT, Int.reduceLT, Int.reduceLE, Int.reduceEq, Int.reduceNeg, true_or, or_true, false_or, or_false, not_false_eq_true, not_true_eq_false, false_implies, true_implies, forall_const, implies_true, Nat.zero_le, Nat.le_refl]
        have fin : ∀ x6 : ab_V, Sx 153 100 [vR 69, vI rule, vI V.np, vI h, vI 0, vI 0, x6] [] (EE L, D1) (0, 0) Q := fun x6 => m_mh_C hV kW h0 hhn (by omega) (Or.inl ⟨rfl, rfl⟩) (fun D2 f2 v2 t2 => ihk _ _ _ _ (hf.trans f2) v2 (by omega))
        refine go_153_71 ?_
        simp only [sg_153_71, cl_I, cl_L, cl_R, e_aload_n, e_cv2, e_cv3, e_get0, e_goto, e_icmp_ge, e_icmp_le, e_iconst, e_if_eq, e_if_ne, e_iload, e_iload_n, e_nil, fl_0, fl_I, fl_L, fl_R, l_ld1, l_ld3, l_ld4, l_ld5, l_ld6, l_ldA0, rk_1, wRef_some, EE_n, EE_s69, lc_lt, lc_le, lc_gt, lc_ge, lc_eq, true_and, and_true, List.length_cons, List.length_nil, ab_ia, Nat.reduceAdd, Nat.reduceLeDiff, Nat.reduceEqDiff, Nat.reduceLT, Int.reduceLT, Int.reduceLE, Int.reduceEq, Int.reduceNeg, true_or, or_true, false_or, or_false, not_false_eq_true, not_true_eq_false, false_implies, true_implies, forall_const, implies_true, Nat.zero_le, Nat.le_refl]
        exact ⟨fun _ => fin _, fun _ => fin _⟩
      refine go_153_20 ?_
      simp only [sg_153_20, cl_I, cl_L, cl_R, e_iconst, e_istore, e_nil, l_st4, l_st5, lc_lt, lc_le, lc_gt, lc_ge, lc_eq, true_and, and_true, List.length_cons, List.length_nil, ab_ia, Nat.reduceAdd, Nat.reduceLeDiff, Nat.reduceEqDiff, Nat.reduceLT, Int.reduceLT, Int.reduceLE, Int.reduceEq, Int.reduceNeg, true_or, or_true, false_or, or_false, not_false_eq_true, not_true_eq_false, false_implies, true_implies, forall_const, implies_true, Nat.zero_le, Nat.le_refl]
      refine go_153_24 ?_
      simp only [sg_153_24, cl_I, cl_L, cl_R, e_aload_n, e_bipush, e_cv2, e_cv3, e_get0, e_get1, e_goto, e_iadd, e_iaload, e_icmp_ge, e_icmp_ne, e_iconst, e_if_eq, e_iinc, e_iload, e_iload_n, e_imul, e_irem, e_isub, e_nil, fl_0, fl_I, fl_L, fl_R, l_inc5, l_ld1, l_ld2, l_ld3, l_ld4, l_ld5, l_ldA0, rk_0, rk_1, wRef_some, EE_n, EE_r69_9, EE_s69, EE_s74, lc_lt, lc_le, lc_gt, lc_ge, lc_eq, true_and, and_true, List.length_cons, List.length_nil, ab_ia, Nat.reduceAdd, Nat.reduceLeDiff, Nat.reduceEqDiff, Nat.reduceLT, Int.reduceLT, Int.reduceLE, Int.reduceEq, Int.reduceNeg, true_or, or_true, false_or, or_false, not_false_eq_true, not_true_eq_false, false_implies, true_implies, forall_const, implies_true, Nat.zero_le, Nat.le_refl]
      exact ⟨fun _ => lst _ _, fun _ => lst _ _⟩
    · have h3 : W.h h 3 = 0 := by omega
      have em : mhs G rule V.np W h = mhs2 G rule (mhs1 rule V.np W h) h := by unfold mhs; rw [if_pos h3]
      rw [em] at ihk
      have k1 := mhs1_ok (rule := rule) (many := V.np) (h := h) kW (by omega) hgrn
      have g1 := mhs1_grew (rule := rule) (many := V.np) (W := W) (h := h)
      have lst : ∀ (D2 : ab_D) (x5 x6 : ab_V), frT D D2 → vM D2 (mhs1 rule V.np W h) → D2 69 18 = D 69 18 + ((mhs1 rule V.np W h).np - V.np) → Sx 153 67 [vR 69, vI rule, vI V.np, vI h, vI 1, x5, x6] [] (EE L, D2) (0, 0) Q := by
        intro D2 x5 x6 hf2 hV2 ht2
        have hg2 := gM_frT hf2 hg
        generalize mhs1 rule V.np W h = U at *
        have hhu : h < U.nh := by rw [g1.1.2.1]; exact hhn
        have ku := k1.1
        have gu := g1.1.1
        refine go_153_67 ?_
        simp only [sg_153_67, cl_I, cl_L, cl_R, e_iconst, e_istore, e_nil, l_st5, l_st6, lc_lt, lc_le, lc_gt, lc_ge, lc_eq, true_and, and_true, List.length_cons, List.length_nil, ab_ia, Nat.reduceAdd, Nat.reduceLeDiff, Nat.reduceEqDiff, Nat.reduceLT, Int.reduceLT, Int.reduceLE, Int.reduceEq, Int.reduceNeg, true_or, or_true, false_or, or_false, not_false_eq_true, not_true_eq_false, false_implies, true_implies, forall_const, implies_true, Nat.zero_le, Nat.le_refl]
        by_cases hr1 : 1 < rule
        · have key := m_mh_B (Q := Q) (many := V.np) (L := L) g hg2 hV2 k1 hr1 h0 hhu (fun x6 => ?_) U.np.toNat 0 (by omega) (by omega)
          · have e0 : (if wkb G U h (0 : Int).toNat = true then (1 : Int) else 0) = 0 := rfl
            rw [e0] at key
            exact key
          · refine m_mh_C (U := mhs2 G rule U h) hV2 k1 h0 hhu (by omega) ?_ (fun D3 f3 v3 t3 => ihk _ _ _ _ (hf2.trans f3) v3 (by omega))
            unfold mhs2
            by_cases hw : wkb G U h U.np.toNat = true
            · right
              rw [if_pos hw, if_pos ⟨hr1, hw⟩]
              exact ⟨rfl, rfl⟩
            · left
              rw [if_neg hw, if_neg (fun q => hw q.2)]
              exact ⟨rfl, rfl⟩
        · have em2 : mhs2 G rule U h = U := by unfold mhs2; rw [if_neg (fun q => hr1 q.1)]
          rw [em2] at ihk
          have fin : ∀ x6 : ab_V, Sx 153 100 [vR 69, vI rule, vI V.np, vI h, vI 1, vI 0, x6] [] (EE L, D2) (0, 0) Q := fun x6 => m_mh_C hV2 k1 h0 hhu (by omega) (Or.inl ⟨rfl, rfl⟩) (fun D3 f3 v3 t3 => ihk _ _ _ _ (hf2.trans f3) v3 (by omega))
          refine go_153_71 ?_
          simp only [sg_153_71, cl_I, cl_L, cl_R, e_aload_n, e_cv2, e_cv3, e_get0, e_goto, e_icmp_ge, e_icmp_le, e_iconst, e_if_eq, e_if_ne, e_iload, e_iload_n, e_nil, fl_0, fl_I, fl_L, fl_R, l_ld1, l_ld3, l_ld4, l_ld5, l_ld6, l_ldA0, rk_1, wRef_some, EE_n, EE_s69, lc_lt, lc_le, lc_gt, lc_ge, lc_eq, true_and, and_true, List.length_cons, List.length_nil, ab_ia, Nat.reduceAdd, Nat.reduceLeDiff, Nat.reduceEqDiff, Nat.reduceLT, Int.reduceLT, Int.reduceLE, Int.reduceEq, Int.reduceNeg, true_or, or_true, false_or, or_false, not_false_eq_true, not_true_eq_false, false_implies, true_implies, forall_const, implies_true, Nat.zero_le, Nat.le_refl]
          exact ⟨fun _ => fin _, fun _ => ⟨fun _ => fin _, fun hc => absurd hc (by omega)⟩⟩
      refine go_153_21 ?_
      simp only [sg_153_21, cl_I, cl_L, cl_R, e_iconst, e_istore, e_nil, l_st4, l_st5, lc_lt, lc_le, lc_gt, lc_ge, lc_eq, true_and, and_true, List.length_cons, List.length_nil, ab_ia, Nat.reduceAdd, Nat.reduceLeDiff, Nat.reduceEqDiff, Nat.reduceLT, Int.reduceLT, Int.reduceLE, Int.reduceEq, Int.reduceNeg, true_or, or_true, false_or, or_false, not_false_eq_true, not_true_eq_false, false_implies, true_implies, forall_const, implies_true, Nat.zero_le, Nat.le_refl]
      by_cases hr2 : rule % 2 = 1
      · have em1 : mhs1 rule V.np W h = mfl h W V.np.toNat := by unfold mhs1; rw [if_pos hr2]
        refine m_mh_A (D := D1) g kW ⟨hr.1, hr2⟩ hgrn h0 hhn (by omega) (fun D2 x5 f2 v2 t2 => lst D2 x5 _ (hf.trans f2) (by rw [em1]; exact v2) (by rw [em1]; omega)) V.np.toNat 0 D1 (by omega) (by omega) frT.refl hV (by show D1 69 18 = D1 69 18 + (W.np - W.np); omega)
      · have em1 : mhs1 rule V.np W h = W := by unfold mhs1; rw [if_neg hr2]
        have l2 := fun x5 x6 => lst D1 x5 x6 hf (by rw [em1]; exact hV) (by rw [em1]; exact ht1)
        refine go_153_24 ?_
        simp only [sg_153_24, cl_I, cl_L, cl_R, e_aload_n, e_bipush, e_cv2, e_cv3, e_get0, e_get1, e_goto, e_iadd, e_iaload, e_icmp_ge, e_icmp_ne, e_iconst, e_if_eq, e_iinc, e_iload, e_iload_n, e_imul, e_irem, e_isub, e_nil, fl_0, fl_I, fl_L, fl_R, l_inc5, l_ld1, l_ld2, l_ld3, l_ld4, l_ld5, l_ldA0, rk_0, rk_1, wRef_some, EE_n, EE_r69_9, EE_s69, EE_s74, lc_lt, lc_le, lc_gt, lc_ge, lc_eq, true_and, and_true, List.length_cons, List.length_nil, ab_ia, Nat.reduceAdd, Nat.reduceLeDiff, Nat.reduceEqDiff, Nat.reduceLT, Int.reduceLT, Int.reduceLE, Int.reduceEq, Int.reduceNeg, true_or, or_true, false_or, or_false, not_false_eq_true, not_true_eq_false, false_implies, true_implies, forall_const, implies_true, Nat.zero_le, Nat.le_refl]
        exact ⟨fun _ => l2 _ _, fun _ => ⟨by omega, fun _ => l2 _ _, fun hc => absurd hr2 hc⟩⟩
theorem m_mh {rule : Int} (g : gOK G) (hg : gM D G) (hV : vM D V) (k : vOK G V) (hr : 0 ≤ rule ∧ rule < 4) (hb : 0 ≤ D 69 18 ∧ D 69 18 ≤ 300) : CV 153 [vR 69, vI rule] (EE L, D) (fun D' => frT D D' ∧ vM D' (mendV G rule V) ∧ D' 69 18 = D 69 18 + ((mendV G rule V).np - V.np)) := by
  have kk := k.1
  have e1 := hV.1.1
  refine Sx.un (y := 153) (n := 0) (lo := [vR 69, vI rule, vU, vU, vU, vU, vU]) (st := []) (u := (0, 0)) ?_
  refine go_153_0 ?_
  simp only [sg_153_0, cl_I, cl_L, cl_R, e_aload_n, e_get0, e_iconst, e_istore_n, e_nil, l_ldA0, l_st2, l_st3, wRef_some, EE_n, EE_s69, e1, lc_lt, lc_le, lc_gt, lc_ge, lc_eq, true_and, and_true, List.length_cons, List.length_nil, ab_ia, Nat.reduceAdd, Nat.reduceLeDiff, Nat.reduceEqDiff, Nat.reduceLT, Int.reduceLT, Int.reduceLE, Int.reduceEq, Int.reduceNeg, true_or, or_true, false_or, or_false, not_false_eq_true, not_true_eq_false, false_implies, true_implies, forall_const, implies_true, Nat.zero_le, Nat.le_refl]
  exact m_mh_loop g hg k hr hb (fun D' h1 h2 h3 => retV ⟨h1, h2, h3⟩) V.nh.toNat 0 D vU vU vU (by omega) (by omega) frT.refl hV (by show D 69 18 = D 69 18 + (V.np - V.np); omega)
end RefMend

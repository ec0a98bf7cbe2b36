/-! finds: later -/
section Finds7
variable {L : Nat} {D : ab_D}
def lcand (N : Nat) (c y : Nat → Int) (h : Nat → Nat) (f g : Nat) : Prop := (2 < cnt (gsz h g) N ∧ gmin h y g N < y f) ∧ ∃ o, o < N ∧ h o = g ∧ tch (c f) (c o)
/-- g is no worse than any of the candidates that C allows -/
def lbest (N : Nat) (c y : Nat → Int) (h : Nat → Nat) (f : Nat) (C : Nat → Prop) (r : Int) : Prop := (r = -9 ∧ ∀ g, C g → ¬ lcand N c y h f g) ∨ ∃ b : Nat, r = b ∧ C b ∧ lcand N c y h f b ∧ ∀ g, C g → lcand N c y h f g → gmin h y b N < gmin h y g N ∨ (gmin h y b N = gmin h y g N ∧ b ≤ g)
theorem lbest_uniq {N : Nat} {c y : Nat → Int} {h : Nat → Nat} {f : Nat} {C C' : Nat → Prop} {r r' : Int} (hC : ∀ g, lcand N c y h f g → (C g ∧ C' g)) (k : lbest N c y h f C r) (k' : lbest N c y h f C' r') : r = r' := by
  rcases k with ⟨k1, k2⟩ | ⟨b, k1, k2, k3, k4⟩ <;> rcases k' with ⟨j1, j2⟩ | ⟨b', j1, j2, j3, j4⟩
  · omega
  · exact absurd j3 (k2 b' (hC b' j3).1)
  · exact absurd k3 (j2 b (hC b k3).2)
  · have h1 := k4 b' (hC b' j3).1 j3
    have h2 := j4 b (hC b k3).2 k3
    omega
/-- what later answers of a find f -/
def lateA (N : Nat) (c y : Nat → Int) (h : Nat → Nat) (f : Nat) (C : Nat → Prop) (r : Int) : Prop := (3 ≤ cnt (gsz h (h f)) N ∧ r = -9) ∨ (cnt (gsz h (h f)) N < 3 ∧ lbest N c y h f C r)
theorem f_touches_loop {Q : Option ab_V → ab_H → Prop} {f g : Int} (hk : fOK (D 63 1) (D 64) (D 65)) (hf : 0 ≤ f ∧ f < D 63 1)
    (hq1 : (∃ o : Nat, (o : Int) < D 63 1 ∧ D 66 o = g ∧ tch (D 64 f.toNat) (D 64 o)) → Q (some (.inl 1)) (EE L, D)) (hq0 : ¬ (∃ o : Nat, (o : Int) < D 63 1 ∧ D 66 o = g ∧ tch (D 64 f.toNat) (D 64 o)) → Q (some (.inl 0)) (EE L, D)) :
    ∀ (t : Nat) (o : Int), 0 ≤ o → o + t = D 63 1 → (∀ j : Nat, (j : Int) < o → ¬ (D 66 j = g ∧ tch (D 64 f.toNat) (D 64 j))) → Sx 15 2 [vR 63, vI f, vI g, vI o] [] (EE L, D) (0, 0) Q := by
  have h16 := hk.1
  have hF := hk.2 f.toNat (by omega)
  intro t
  induction t with
  | zero =>
    intro o h0 ht hi
    refine go_15_2 ?_
    simp only [sg_15_2, cl_I, cl_L, cl_R, e_aload_n, e_cs2, e_get0, e_get1, e_iaload, e_icmp_ge, e_icmp_ne, e_iconst, e_if_eq, e_iload_n, e_iret1, e_nil, fl_0, fl_I, fl_L, fl_R, l_ld1, l_ld2, l_ld3, l_ldA0, rk_1, wRef_some, EE_n, EE_r63_2, EE_r63_4, EE_s63, EE_s64, EE_s66, lc_lt, lc_le, lc_gt, lc_ge, lc_eq, true_and, and_true, List.length_cons, List.length_nil, ab_ia, Nat.reduceAdd, Nat.reduceLeDiff, Nat.reduceEqDiff, Nat.reduceLT, Int.reduceLT, Int.reduceLE, Int.reduceEq, Int.reduceNeg, true_or, or_true, false_or, or_false, not_false_eq_true, not_true_eq_false, false_implies, true_implies, forall_const, implies_true, Nat.zero_le, Nat.le_refl]
    refine ⟨fun _ => ?_, fun hc => absurd hc (by omega)⟩
    refine go_15_26 ?_
    simp only [sg_15_26, cl_I, cl_L, cl_R, e_iconst, e_iret1, e_nil, lc_lt, lc_le, lc_gt, lc_ge, lc_eq, true_and, and_true, List.length_cons, List.length_nil, ab_ia, Nat.reduceAdd, Nat.reduceLeDiff, Nat.reduceEqDiff, Nat.reduceLT, Int.reduceLT, Int.reduceLE, Int.reduceEq, Int.reduceNeg, true_or, or_true, false_or, or_false, not_false_eq_true, not_true_eq_false, false_implies, true_implies, forall_const, implies_true, Nat.zero_le, Nat.le_refl]
    refine hq0 ?_
    rintro ⟨j, j1, j2⟩
    exact hi j (by omega) j2
  | succ t ih =>
    intro o h0 ht hi
    have hO := hk.2 o.toNat (by omega)
    have no : ¬ (D 66 o.toNat = g ∧ tch (D 64 f.toNat) (D 64 o.toNat)) → Sx 15 24 [vR 63, vI f, vI g, vI o] [] (EE L, D) (0, 0) Q := by
      intro hno
      refine go_15_24 ?_
      simp only [sg_15_24, cl_I, cl_L, cl_R, e_goto, e_iinc, e_nil, l_inc3, lc_lt, lc_le, lc_gt, lc_ge, lc_eq, true_and, and_true, List.length_cons, List.length_nil, ab_ia, Nat.reduceAdd, Nat.reduceLeDiff, Nat.reduceEqDiff, Nat.reduceLT, Int.reduceLT, Int.reduceLE, Int.reduceEq, Int.reduceNeg, true_or, or_true, false_or, or_false, not_false_eq_true, not_true_eq_false, false_implies, true_implies, forall_const, implies_true, Nat.zero_le, Nat.le_refl]
      refine ⟨⟨by omega, by omega⟩, ih (o + 1) (by omega) (by omega) (fun j hj => ?_)⟩
      by_cases q : j = o.toNat
      · subst q; exact hno
      · exact hi j (by omega)
    refine go_15_2 ?_
    simp only [sg_15_2, cl_I, cl_L, cl_R, e_aload_n, e_cs2, e_get0, e_get1, e_iaload, e_icmp_ge, e_icmp_ne, e_iconst, e_if_eq, e_iload_n, e_iret1, e_nil, fl_0, fl_I, fl_L, fl_R, l_ld1, l_ld2, l_ld3, l_ldA0, rk_1, wRef_some, EE_n, EE_r63_2, EE_r63_4, EE_s63, EE_s64, EE_s66, lc_lt, lc_le, lc_gt, lc_ge, lc_eq, true_and, and_true, List.length_cons, List.length_nil, ab_ia, Nat.reduceAdd, Nat.reduceLeDiff, Nat.reduceEqDiff, Nat.reduceLT, Int.reduceLT, Int.reduceLE, Int.reduceEq, Int.reduceNeg, true_or, or_true, false_or, or_false, not_false_eq_true, not_true_eq_false, false_implies, true_implies, forall_const, implies_true, Nat.zero_le, Nat.le_refl]
    refine ⟨fun hc => absurd hc (by omega), fun _ => ⟨by omega, fun h1 => no (fun q => h1 q.1), fun h1 => ⟨by omega, by omega, ?_⟩⟩⟩
    refine CB.use (f_touch (by omega) (by omega)) (fun h2 => ?_) (fun h2 => ?_)
    · try simp only [lc_lt, lc_le, lc_gt, lc_ge, lc_eq, true_and, and_true, List.length_cons, List.length_nil, ab_ia, Nat.reduceAdd, Nat.reduceLeDiff, Nat.reduceEqDiff, Nat.reduceLT, Int.reduceLT, Int.reduceLE, Int.reduceEq, Int.reduceNeg, true_or, or_true, false_or, or_false, not_false_eq_true, not_true_eq_false, false_implies, true_implies, forall_const, implies_true, Nat.zero_le, Nat.le_refl]
      exact hq1 ⟨o.toNat, by omega, by rw [Classical.not_not] at h1; exact h1, h2⟩
    · try simp only [lc_lt, lc_le, lc_gt, lc_ge, lc_eq, true_and, and_true, List.length_cons, List.length_nil, ab_ia, Nat.reduceAdd, Nat.reduceLeDiff, Nat.reduceEqDiff, Nat.reduceLT, Int.reduceLT, Int.reduceLE, Int.reduceEq, Int.reduceNeg, true_or, or_true, false_or, or_false, not_false_eq_true, not_true_eq_false, false_implies, true_implies, forall_const, implies_true, Nat.zero_le, Nat.le_refl]
      exact no (fun q => h2 q.2)
theorem f_touches {f g : Int} (hk : fOK (D 63 1) (D 64) (D 65)) (hf : 0 ≤ f ∧ f < D 63 1) : CB 15 [vR 63, vI f, vI g] (EE L) D (∃ o : Nat, (o : Int) < D 63 1 ∧ D 66 o = g ∧ tch (D 64 f.toNat) (D 64 o)) := by
  have h16 := hk.1
  refine Sx.un (y := 15) (n := 0) (lo := [vR 63, vI f, vI g, vU]) (st := []) (u := (0, 0)) ?_
  refine go_15_0 ?_
  simp only [sg_15_0, cl_I, cl_L, cl_R, e_iconst, e_istore_n, e_nil, l_st3, lc_lt, lc_le, lc_gt, lc_ge, lc_eq, true_and, and_true, List.length_cons, List.length_nil, ab_ia, Nat.reduceAdd, Nat.reduceLeDiff, Nat.reduceEqDiff, Nat.reduceLT, Int.reduceLT, Int.reduceLE, Int.reduceEq, Int.reduceNeg, true_or, or_true, false_or, or_false, not_false_eq_true, not_true_eq_false, false_implies, true_implies, forall_const, implies_true, Nat.zero_le, Nat.le_refl]
  exact f_touches_loop hk hf (fun q => retB1 q) (fun q => retB0 q) (D 63 1).toNat 0 (by omega) (by omega) (fun j hj => absurd hj (by omega))
theorem f_late_loop {Q : Option ab_V → ab_H → Prop} {f : Int} {h : Nat → Nat} (hk : fOK (D 63 1) (D 64) (D 65)) (hl : isLab (D 63 1).toNat (kin (D 64) (D 65)) h) (hg : grpOK (D 63 1).toNat (D 65) h (D 66) (D 67) (D 68)) (hf : 0 ≤ f ∧ f < D 63 1)
    (hq : ∀ r, lbest (D 63 1).toNat (D 64) (D 65) h f.toNat (fun g => (g : Int) < D 63 1) r → Q (some (.inl r)) (EE L, D)) :
    ∀ (t : Nat) (g first : Int) (x4 : ab_V), 0 ≤ g → g + t = D 63 1 → lbest (D 63 1).toNat (D 64) (D 65) h f.toNat (fun j => (j : Int) < g) first → Sx 14 13 [vR 63, vI f, vI first, vI g, x4] [] (EE L, D) (0, 0) Q := by
  have h16 := hk.1
  intro t
  induction t with
  | zero =>
    intro g first x4 h0 ht hi
    refine go_14_13 ?_
    simp only [sg_14_13, cl_I, cl_L, cl_R, e_aload_n, e_cv2, e_get0, e_get1, e_goto, e_iaload, e_icmp_ge, e_iconst, e_if_eq, e_iload_n, e_nil, fl_0, fl_I, fl_L, fl_R, l_ld1, l_ld3, l_ldA0, rk_1, wRef_some, EE_n, EE_r63_3, EE_r63_6, EE_s63, EE_s65, EE_s68, lc_lt, lc_le, lc_gt, lc_ge, lc_eq, true_and, and_true, List.length_cons, List.length_nil, ab_ia, Nat.reduceAdd, Nat.reduceLeDiff, Nat.reduceEqDiff, Nat.reduceLT, Int.reduceLT, Int.reduceLE, Int.reduceEq, Int.reduceNeg, true_or, or_true, false_or, or_false, not_false_eq_true, not_true_eq_false, false_implies, true_implies, forall_const, implies_true, Nat.zero_le, Nat.le_refl]
    refine ⟨fun _ => ?_, fun hc => absurd hc (by omega)⟩
    refine go_14_57 ?_
    simp only [sg_14_57, cl_I, cl_L, cl_R, e_iload_n, e_iret0, e_nil, l_ld2, lc_lt, lc_le, lc_gt, lc_ge, lc_eq, true_and, and_true, List.length_cons, List.length_nil, ab_ia, Nat.reduceAdd, Nat.reduceLeDiff, Nat.reduceEqDiff, Nat.reduceLT, Int.reduceLT, Int.reduceLE, Int.reduceEq, Int.reduceNeg, true_or, or_true, false_or, or_false, not_false_eq_true, not_true_eq_false, false_implies, true_implies, forall_const, implies_true, Nat.zero_le, Nat.le_refl]
    rw [show g = D 63 1 by omega] at hi
    exact hq first hi
  | succ t ih =>
    intro g first x4 h0 ht hi
    obtain ⟨a1, a2, a3⟩ := hg g.toNat (by omega)
    have hfirst : first ≠ -9 → 0 ≤ first ∧ first < g ∧ D 68 first.toNat = gmin h (D 65) first.toNat (D 63 1).toNat := by
      intro q
      rcases hi with ⟨k1, k2⟩ | ⟨b, k1, k2, k3, k4⟩
      · exact absurd k1 q
      · obtain ⟨b1, b2, b3⟩ := hg b (by omega)
        have := b3 (gsz_root hl (by have := k3.1.1; omega))
        rw [k1]
        exact ⟨by omega, k2, this⟩
    have keep : (lcand (D 63 1).toNat (D 64) (D 65) h f.toNat g.toNat → first ≠ -9 ∧ gmin h (D 65) first.toNat (D 63 1).toNat ≤ gmin h (D 65) g.toNat (D 63 1).toNat) → ∀ x4 : ab_V, Sx 14 55 [vR 63, vI f, vI first, vI g, x4] [] (EE L, D) (0, 0) Q := by
      intro hc x4
      refine go_14_55 ?_
      simp only [sg_14_55, cl_I, cl_L, cl_R, e_goto, e_iinc, e_nil, l_inc3, lc_lt, lc_le, lc_gt, lc_ge, lc_eq, true_and, and_true, List.length_cons, List.length_nil, ab_ia, Nat.reduceAdd, Nat.reduceLeDiff, Nat.reduceEqDiff, Nat.reduceLT, Int.reduceLT, Int.reduceLE, Int.reduceEq, Int.reduceNeg, true_or, or_true, false_or, or_false, not_false_eq_true, not_true_eq_false, false_implies, true_implies, forall_const, implies_true, Nat.zero_le, Nat.le_refl]
      refine ⟨⟨by omega, by omega⟩, ih (g + 1) first _ (by omega) (by omega) ?_⟩
      rcases hi with ⟨k1, k2⟩ | ⟨b, k1, k2, k3, k4⟩
      · refine Or.inl ⟨k1, fun j hj hcj => ?_⟩
        by_cases q : j = g.toNat
        · subst q
          exact (hc hcj).1 k1
        · exact k2 j (by omega) hcj
      · refine Or.inr ⟨b, k1, by omega, k3, fun j hj hcj => ?_⟩
        by_cases q : j = g.toNat
        · have := (hc (q ▸ hcj)).2
          rw [k1] at this
          have e : ((b : Int)).toNat = b := rfl
          rw [e] at this
          rw [q]
          rcases Int.lt_or_eq_of_le this with z | z
          · exact Or.inl z
          · exact Or.inr ⟨z, by omega⟩
        · exact k4 j (by omega) hcj
    have take : lcand (D 63 1).toNat (D 64) (D 65) h f.toNat g.toNat → (first = -9 ∨ gmin h (D 65) g.toNat (D 63 1).toNat < gmin h (D 65) first.toNat (D 63 1).toNat) → lbest (D 63 1).toNat (D 64) (D 65) h f.toNat (fun j => (j : Int) < g + 1) g := by
      intro hc hb
      refine Or.inr ⟨g.toNat, by omega, by omega, hc, fun j hj hcj => ?_⟩
      by_cases q : j = g.toNat
      · subst q; exact Or.inr ⟨rfl, Nat.le_refl _⟩
      · rcases hi with ⟨k1, k2⟩ | ⟨b, k1, k2, k3, k4⟩
        · exact absurd hcj (k2 j (by omega))
        · have h1 := k4 j (by omega) hcj
          rw [k1] at hb
          have e : ((b : Int)).toNat = b := rfl
          rw [e] at hb
          left
          omega
    have mid : ∀ (fl : Int) (x4 : ab_V), ((fl = 1 ∧ (D 66 g.toNat = g ∧ 3 ≤ D 67 g.toNat) ∧ D 68 g.toNat < D 65 f.toNat) ∨ (fl = 0 ∧ ¬ ((D 66 g.toNat = g ∧ 3 ≤ D 67 g.toNat) ∧ D 68 g.toNat < D 65 f.toNat))) → Sx 14 33 [vR 63, vI f, vI first, vI g, x4] [vI fl] (EE L, D) (0, 0) Q := by
      intro fl x4 hfl
      have touchq : (D 66 g.toNat = g ∧ 3 ≤ D 67 g.toNat) ∧ D 68 g.toNat < D 65 f.toNat → (first = -9 ∨ gmin h (D 65) g.toNat (D 63 1).toNat < gmin h (D 65) first.toNat (D 63 1).toNat) → ∀ x4 : ab_V, Sx 14 48 [vR 63, vI f, vI first, vI g, x4] [] (EE L, D) (0, 0) Q := by
        intro he hb x4
        have hroot : h g.toNat = g.toNat := by omega
        have a3 := a3 hroot
        refine go_14_48 ?_
        simp only [sg_14_48, cl_I, cl_L, cl_R, e_aload_n, e_cv3, e_goto, e_if_eq, e_iinc, e_iload_n, e_istore_n, e_nil, fl_0, fl_I, fl_L, fl_R, l_inc3, l_ld1, l_ld3, l_ldA0, l_st2, rk_1, EE_n, EE_s63, lc_lt, lc_le, lc_gt, lc_ge, lc_eq, true_and, and_true, List.length_cons, List.length_nil, ab_ia, Nat.reduceAdd, Nat.reduceLeDiff, Nat.reduceEqDiff, Nat.reduceLT, Int.reduceLT, Int.reduceLE, Int.reduceEq, Int.reduceNeg, true_or, or_true, false_or, or_false, not_false_eq_true, not_true_eq_false, false_implies, true_implies, forall_const, implies_true, Nat.zero_le, Nat.le_refl]
        refine CB.use (f_touches hk hf) (fun h2 => ?_) (fun h2 => ?_)
        · try simp only [lc_lt, lc_le, lc_gt, lc_ge, lc_eq, true_and, and_true, List.length_cons, List.length_nil, ab_ia, Nat.reduceAdd, Nat.reduceLeDiff, Nat.reduceEqDiff, Nat.reduceLT, Int.reduceLT, Int.reduceLE, Int.reduceEq, Int.reduceNeg, true_or, or_true, false_or, or_false, not_false_eq_true, not_true_eq_false, false_implies, true_implies, forall_const, implies_true, Nat.zero_le, Nat.le_refl]
          refine ⟨⟨by omega, by omega⟩, ih (g + 1) g _ (by omega) (by omega) (take ⟨⟨by omega, by omega⟩, ?_⟩ hb)⟩
          obtain ⟨o, o1, o2, o3⟩ := h2
          refine ⟨o, by omega, ?_, o3⟩
          have := (hg o (by omega)).1
          omega
        · try simp only [lc_lt, lc_le, lc_gt, lc_ge, lc_eq, true_and, and_true, List.length_cons, List.length_nil, ab_ia, Nat.reduceAdd, Nat.reduceLeDiff, Nat.reduceEqDiff, Nat.reduceLT, Int.reduceLT, Int.reduceLE, Int.reduceEq, Int.reduceNeg, true_or, or_true, false_or, or_false, not_false_eq_true, not_true_eq_false, false_implies, true_implies, forall_const, implies_true, Nat.zero_le, Nat.le_refl]
          refine keep (fun q => ?_) _
          exfalso
          apply h2
          obtain ⟨o, o1, o2, o3⟩ := q.2
          refine ⟨o, by omega, ?_, o3⟩
          have := (hg o (by omega)).1
          omega
      refine go_14_33 ?_
      simp only [sg_14_33, cl_I, cl_L, cl_R, e_aload_n, e_bipush, e_cv3, e_get1, e_goto, e_iaload, e_icmp_eq, e_icmp_ge, e_if_eq, e_iinc, e_iload, e_iload_n, e_istore, e_istore_n, e_nil, fl_0, fl_I, fl_L, fl_R, l_inc3, l_ld1, l_ld2, l_ld3, l_ld4, l_ldA0, l_st2, l_st4, rk_1, wRef_some, EE_n, EE_r63_6, EE_s63, EE_s68, lc_lt, lc_le, lc_gt, lc_ge, lc_eq, true_and, and_true, List.length_cons, List.length_nil, ab_ia, Nat.reduceAdd, Nat.reduceLeDiff, Nat.reduceEqDiff, Nat.reduceLT, Int.reduceLT, Int.reduceLE, Int.reduceEq, Int.reduceNeg, true_or, or_true, false_or, or_false, not_false_eq_true, not_true_eq_false, false_implies, true_implies, forall_const, implies_true, Nat.zero_le, Nat.le_refl]
      refine ⟨fun q => ?_, fun q => ⟨fun q2 => ?_, fun q2 => ⟨?_, ?_, fun q3 => ?_, fun q3 => ?_⟩⟩⟩
      · refine keep (fun hc => ?_) _
        exfalso
        rcases hfl with ⟨z1, z2⟩ | ⟨z1, z2⟩
        · omega
        · apply z2
          have hr := gsz_root hl (g := g.toNat) (by have := hc.1.1; omega)
          have a3 := a3 hr
          have := hc.1
          omega
      · rcases hfl with ⟨z1, z2⟩ | ⟨z1, z2⟩
        · exact touchq z2 (Or.inl q2) _
        · exact absurd z1 q
      · omega
      · have := hfirst q2; omega
      · refine keep (fun hc => ⟨q2, ?_⟩) _
        have := hfirst q2
        have hr := gsz_root hl (g := g.toNat) (by have := hc.1.1; omega)
        have a3 := a3 hr
        omega
      · rcases hfl with ⟨z1, z2⟩ | ⟨z1, z2⟩
        · have hroot : h g.toNat = g.toNat := by omega
          have a3 := a3 hroot
          have := hfirst q2
          have hb : first = -9 ∨ gmin h (D 65) g.toNat (D 63 1).toNat < gmin h (D 65) first.toNat (D 63 1).toNat := Or.inr (by omega)
          refine CB.use (f_touches hk hf) (fun h2 => ?_) (fun h2 => ?_)
          · try simp only [lc_lt, lc_le, lc_gt, lc_ge, lc_eq, true_and, and_true, List.length_cons, List.length_nil, ab_ia, Nat.reduceAdd, Nat.reduceLeDiff, Nat.reduceEqDiff, Nat.reduceLT, Int.reduceLT, Int.reduceLE, Int.reduceEq, Int.reduceNeg, true_or, or_true, false_or, or_false, not_false_eq_true, not_true_eq_false, false_implies, true_implies, forall_const, implies_true, Nat.zero_le, Nat.le_refl]
            refine ⟨⟨by omega, by omega⟩, ih (g + 1) g _ (by omega) (by omega) (take ⟨⟨by omega, by omega⟩, ?_⟩ hb)⟩
            obtain ⟨o, o1, o2, o3⟩ := h2
            refine ⟨o, by omega, ?_, o3⟩
            have := (hg o (by omega)).1
            omega
          · try simp only [lc_lt, lc_le, lc_gt, lc_ge, lc_eq, true_and, and_true, List.length_cons, List.length_nil, ab_ia, Nat.reduceAdd, Nat.reduceLeDiff, Nat.reduceEqDiff, Nat.reduceLT, Int.reduceLT, Int.reduceLE, Int.reduceEq, Int.reduceNeg, true_or, or_true, false_or, or_false, not_false_eq_true, not_true_eq_false, false_implies, true_implies, forall_const, implies_true, Nat.zero_le, Nat.le_refl]
            refine keep (fun q => ?_) _
            exfalso
            apply h2
            obtain ⟨o, o1, o2, o3⟩ := q.2
            refine ⟨o, by omega, ?_, o3⟩
            have := (hg o (by omega)).1
            omega
        · exact absurd z1 q
    refine go_14_13 ?_
    simp only [sg_14_13, cl_I, cl_L, cl_R, e_aload_n, e_cv2, e_get0, e_get1, e_goto, e_iaload, e_icmp_ge, e_iconst, e_if_eq, e_iload_n, e_nil, fl_0, fl_I, fl_L, fl_R, l_ld1, l_ld3, l_ldA0, rk_1, wRef_some, EE_n, EE_r63_3, EE_r63_6, EE_s63, EE_s65, EE_s68, lc_lt, lc_le, lc_gt, lc_ge, lc_eq, true_and, and_true, List.length_cons, List.length_nil, ab_ia, Nat.reduceAdd, Nat.reduceLeDiff, Nat.reduceEqDiff, Nat.reduceLT, Int.reduceLT, Int.reduceLE, Int.reduceEq, Int.reduceNeg, true_or, or_true, false_or, or_false, not_false_eq_true, not_true_eq_false, false_implies, true_implies, forall_const, implies_true, Nat.zero_le, Nat.le_refl]
    refine ⟨fun hc => absurd hc (by omega), fun _ => ?_⟩
    refine CB.use (f_isHouse h16 (by omega)) (fun h1 => ?_) (fun h1 => ?_)
    · try simp only [lc_lt, lc_le, lc_gt, lc_ge, lc_eq, true_and, and_true, List.length_cons, List.length_nil, ab_ia, Nat.reduceAdd, Nat.reduceLeDiff, Nat.reduceEqDiff, Nat.reduceLT, Int.reduceLT, Int.reduceLE, Int.reduceEq, Int.reduceNeg, true_or, or_true, false_or, or_false, not_false_eq_true, not_true_eq_false, false_implies, true_implies, forall_const, implies_true, Nat.zero_le, Nat.le_refl]
      refine ⟨by omega, by omega, fun h2 => ?_, fun h2 => ?_⟩
      · refine go_14_32 ?_
        simp only [sg_14_32, cl_I, cl_L, cl_R, e_aload_n, e_bipush, e_cv3, e_get1, e_goto, e_iaload, e_icmp_eq, e_icmp_ge, e_iconst, e_if_eq, e_iinc, e_iload, e_iload_n, e_istore, e_istore_n, e_nil, fl_0, fl_I, fl_L, fl_R, l_inc3, l_ld1, l_ld2, l_ld3, l_ld4, l_ldA0, l_st2, l_st4, rk_1, wRef_some, EE_n, EE_r63_6, EE_s63, EE_s68, lc_lt, lc_le, lc_gt, lc_ge, lc_eq, true_and, and_true, List.length_cons, List.length_nil, ab_ia, Nat.reduceAdd, Nat.reduceLeDiff, Nat.reduceEqDiff, Nat.reduceLT, Int.reduceLT, Int.reduceLE, Int.reduceEq, Int.reduceNeg, true_or, or_true, false_or, or_false, not_false_eq_true, not_true_eq_false, false_implies, true_implies, forall_const, implies_true, Nat.zero_le, Nat.le_refl]
        refine keep (fun hc => ?_) _
        exfalso
        have hr := gsz_root hl (g := g.toNat) (by have := hc.1.1; omega)
        have a3 := a3 hr
        have := hc.1
        omega
      · exact mid 1 _ (Or.inl ⟨rfl, h1, by omega⟩)
    · try simp only [lc_lt, lc_le, lc_gt, lc_ge, lc_eq, true_and, and_true, List.length_cons, List.length_nil, ab_ia, Nat.reduceAdd, Nat.reduceLeDiff, Nat.reduceEqDiff, Nat.reduceLT, Int.reduceLT, Int.reduceLE, Int.reduceEq, Int.reduceNeg, true_or, or_true, false_or, or_false, not_false_eq_true, not_true_eq_false, false_implies, true_implies, forall_const, implies_true, Nat.zero_le, Nat.le_refl]
      refine go_14_32 ?_
      simp only [sg_14_32, cl_I, cl_L, cl_R, e_aload_n, e_bipush, e_cv3, e_get1, e_goto, e_iaload, e_icmp_eq, e_icmp_ge, e_iconst, e_if_eq, e_iinc, e_iload, e_iload_n, e_istore, e_istore_n, e_nil, fl_0, fl_I, fl_L, fl_R, l_inc3, l_ld1, l_ld2, l_ld3, l_ld4, l_ldA0, l_st2, l_st4, rk_1, wRef_some, EE_n, EE_r63_6, EE_s63, EE_s68, lc_lt, lc_le, lc_gt, lc_ge, lc_eq, true_and, and_true, List.length_cons, List.length_nil, ab_ia, Nat.reduceAdd, Nat.reduceLeDiff, Nat.reduceEqDiff, Nat.reduceLT, Int.reduceLT, Int.reduceLE, Int.reduceEq, Int.reduceNeg, true_or, or_true, false_or, or_false, not_false_eq_true, not_true_eq_false, false_implies, true_implies, forall_const, implies_true, Nat.zero_le, Nat.le_refl]
      refine keep (fun hc => ?_) _
      exfalso
      apply h1
      have hr := gsz_root hl (g := g.toNat) (by have := hc.1.1; omega)
      have a3 := a3 hr
      have := hc.1
      omega
theorem f_late {f : Int} {h : Nat → Nat} (hk : fOK (D 63 1) (D 64) (D 65)) (hl : isLab (D 63 1).toNat (kin (D 64) (D 65)) h) (hg : grpOK (D 63 1).toNat (D 65) h (D 66) (D 67) (D 68)) (hf : 0 ≤ f ∧ f < D 63 1) : CI 14 [vR 63, vI f] (EE L, D) (fun r D' => lateA (D 63 1).toNat (D 64) (D 65) h f.toNat (fun g => (g : Int) < D 63 1) r ∧ D' = D) := by
  have h16 := hk.1
  obtain ⟨a1, a2, a3⟩ := hg f.toNat (by omega)
  have hle : h f.toNat ≤ f.toNat := hl.1 _ (by omega)
  obtain ⟨b1, b2, b3⟩ := hg (h f.toNat) (by omega)
  have hid := isLab_idem hl (i := f.toNat) (by omega)
  have e : (D 66 f.toNat).toNat = h f.toNat := by omega
  refine Sx.un (y := 14) (n := 0) (lo := [vR 63, vI f, vU, vU, vU]) (st := []) (u := (0, 0)) ?_
  refine go_14_0 ?_
  simp only [sg_14_0, cl_I, cl_L, cl_R, e_aload_n, e_bipush, e_cv2, e_get1, e_iaload, e_if_eq, e_iload_n, e_iret0, e_nil, fl_0, fl_I, fl_L, fl_R, l_ld1, l_ldA0, rk_1, wRef_some, EE_n, EE_r63_4, EE_s63, EE_s66, lc_lt, lc_le, lc_gt, lc_ge, lc_eq, true_and, and_true, List.length_cons, List.length_nil, ab_ia, Nat.reduceAdd, Nat.reduceLeDiff, Nat.reduceEqDiff, Nat.reduceLT, Int.reduceLT, Int.reduceLE, Int.reduceEq, Int.reduceNeg, true_or, or_true, false_or, or_false, not_false_eq_true, not_true_eq_false, false_implies, true_implies, forall_const, implies_true, Nat.zero_le, Nat.le_refl]
  refine ⟨by omega, ?_⟩
  refine CB.use (f_isHouse h16 (by omega)) (fun h1 => ?_) (fun h1 => ?_)
  · try simp only [lc_lt, lc_le, lc_gt, lc_ge, lc_eq, true_and, and_true, List.length_cons, List.length_nil, ab_ia, Nat.reduceAdd, Nat.reduceLeDiff, Nat.reduceEqDiff, Nat.reduceLT, Int.reduceLT, Int.reduceLE, Int.reduceEq, Int.reduceNeg, true_or, or_true, false_or, or_false, not_false_eq_true, not_true_eq_false, false_implies, true_implies, forall_const, implies_true, Nat.zero_le, Nat.le_refl]
    rw [e] at h1
    exact retI ⟨Or.inl ⟨by omega, rfl⟩, rfl⟩
  · try simp only [lc_lt, lc_le, lc_gt, lc_ge, lc_eq, true_and, and_true, List.length_cons, List.length_nil, ab_ia, Nat.reduceAdd, Nat.reduceLeDiff, Nat.reduceEqDiff, Nat.reduceLT, Int.reduceLT, Int.reduceLE, Int.reduceEq, Int.reduceNeg, true_or, or_true, false_or, or_false, not_false_eq_true, not_true_eq_false, false_implies, true_implies, forall_const, implies_true, Nat.zero_le, Nat.le_refl]
    rw [e] at h1
    refine go_14_9 ?_
    simp only [sg_14_9, cl_I, cl_L, cl_R, e_bipush, e_iconst, e_istore_n, e_nil, l_st2, l_st3, lc_lt, lc_le, lc_gt, lc_ge, lc_eq, true_and, and_true, List.length_cons, List.length_nil, ab_ia, Nat.reduceAdd, Nat.reduceLeDiff, Nat.reduceEqDiff, Nat.reduceLT, Int.reduceLT, Int.reduceLE, Int.reduceEq, Int.reduceNeg, true_or, or_true, false_or, or_false, not_false_eq_true, not_true_eq_false, false_implies, true_implies, forall_const, implies_true, Nat.zero_le, Nat.le_refl]
    exact f_late_loop hk hl hg hf (fun r hr => retI ⟨Or.inr ⟨by omega, hr⟩, rfl⟩) (D 63 1).toNat 0 (-9) vU (by omega) (by omega) (Or.inl ⟨rfl, fun g hg => absurd hg (by omega)⟩)
theorem p_later {f : Int} {h : Nat → Nat} (hk : fOK (D 63 1) (D 64) (D 65)) (hl : isLab (D 63 1).toNat (kin (D 64) (D 65)) h) (hg : grpOK (D 63 1).toNat (D 65) h (D 66) (D 67) (D 68)) : CI 99 [vR 0, vI f] (EE L, D) (fun r D' => ((¬ (0 ≤ f ∧ f < D 63 1) ∧ r = -1) ∨ ((0 ≤ f ∧ f < D 63 1) ∧ lateA (D 63 1).toNat (D 64) (D 65) h f.toNat (fun g => (g : Int) < D 63 1) r)) ∧ D' = D) := by
  have h16 := hk.1
  refine Sx.un (y := 99) (n := 0) (lo := [vR 0, vI f]) (st := []) (u := (0, 0)) ?_
  refine go_99_0 ?_
  simp only [sg_99_0, cl_I, cl_L, cl_R, e_aload_n, e_cv2, e_iconst, e_if_ne, e_iload_n, e_iret0, e_nil, fl_0, fl_I, fl_L, fl_R, l_ld1, l_ldA0, rk_1, EE_n, EE_s0, lc_lt, lc_le, lc_gt, lc_ge, lc_eq, true_and, and_true, List.length_cons, List.length_nil, ab_ia, Nat.reduceAdd, Nat.reduceLeDiff, Nat.reduceEqDiff, Nat.reduceLT, Int.reduceLT, Int.reduceLE, Int.reduceEq, Int.reduceNeg, true_or, or_true, false_or, or_false, not_false_eq_true, not_true_eq_false, false_implies, true_implies, forall_const, implies_true, Nat.zero_le, Nat.le_refl]
  refine CB.use p_isFind (fun h1 => ?_) (fun h1 => ?_)
  · try simp only [lc_lt, lc_le, lc_gt, lc_ge, lc_eq, true_and, and_true, List.length_cons, List.length_nil, ab_ia, Nat.reduceAdd, Nat.reduceLeDiff, Nat.reduceEqDiff, Nat.reduceLT, Int.reduceLT, Int.reduceLE, Int.reduceEq, Int.reduceNeg, true_or, or_true, false_or, or_false, not_false_eq_true, not_true_eq_false, false_implies, true_implies, forall_const, implies_true, Nat.zero_le, Nat.le_refl]
    refine go_99_6 ?_
    simp only [sg_99_6, cl_I, cl_L, cl_R, e_aload_n, e_cv2, e_get1, e_iload_n, e_iret0, e_nil, fl_0, fl_I, fl_L, fl_R, l_ld1, l_ldA0, rk_1, wRef_some, EE_n, EE_r0_10, EE_s0, EE_s63, lc_lt, lc_le, lc_gt, lc_ge, lc_eq, true_and, and_true, List.length_cons, List.length_nil, ab_ia, Nat.reduceAdd, Nat.reduceLeDiff, Nat.reduceEqDiff, Nat.reduceLT, Int.reduceLT, Int.reduceLE, Int.reduceEq, Int.reduceNeg, true_or, or_true, false_or, or_false, not_false_eq_true, not_true_eq_false, false_implies, true_implies, forall_const, implies_true, Nat.zero_le, Nat.le_refl]
    refine (f_late hk hl hg h1).mono ?_
    rintro r D' ⟨hr, rfl⟩
    exact retI ⟨Or.inr ⟨h1, hr⟩, rfl⟩
  · try simp only [lc_lt, lc_le, lc_gt, lc_ge, lc_eq, true_and, and_true, List.length_cons, List.length_nil, ab_ia, Nat.reduceAdd, Nat.reduceLeDiff, Nat.reduceEqDiff, Nat.reduceLT, Int.reduceLT, Int.reduceLE, Int.reduceEq, Int.reduceNeg, true_or, or_true, false_or, or_false, not_false_eq_true, not_true_eq_false, false_implies, true_implies, forall_const, implies_true, Nat.zero_le, Nat.le_refl]
    exact retI ⟨Or.inl ⟨h1, rfl⟩, rfl⟩
end Finds7

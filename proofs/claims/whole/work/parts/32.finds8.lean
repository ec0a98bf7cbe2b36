/-! finds: later, the reference -/
section Finds8
variable {L : Nat} {D : ab_D}
def lC (c : Nat → Int) (h : Nat → Nat) (f : Nat) (o : Int) (g : Nat) : Prop := ∃ o' : Nat, (o' : Int) < o ∧ h o' = g ∧ tch (c f) (c o')
theorem m_later_loop {Q : Option ab_V → ab_H → Prop} {f : Int} {h : Nat → Nat} {hd gz bg : Nat → Int} (hk : fOK (D 69 22) (D 83) (D 84)) (hl : isLab (D 69 22).toNat (kin (D 83) (D 84)) h) (hh : ∀ i, i < (D 69 22).toNat → hd i = h i ∧ gz i = cnt (gsz h i) (D 69 22).toNat ∧ bg i = gmin h (D 84) i (D 69 22).toNat) (hf : 0 ≤ f ∧ f < D 69 22) (hs : cnt (gsz h (h f.toNat)) (D 69 22).toNat < 3)
    (hq : ∀ r, lbest (D 69 22).toNat (D 83) (D 84) h f.toNat (lC (D 83) h f.toNat (D 69 22)) r → Q (some (.inl r)) (EE L, up3 D hd gz bg)) :
    ∀ (t : Nat) (o best : Int) (x4 x5 : ab_V), 0 ≤ o → o + t = D 69 22 → lbest (D 69 22).toNat (D 83) (D 84) h f.toNat (lC (D 83) h f.toNat o) best → Sx 182 18 [vR 69, vI f, vI best, vI o, x4, x5] [] (EE L, up3 D hd gz bg) (0, 0) Q := by
  have h16 := hk.1
  have n69 : ∀ a b c : Nat → Int, up3 D a b c 69 22 = D 69 22 := fun a b c => by rw [u3_n (by decide)]
  have n83 : ∀ a b c : Nat → Int, up3 D a b c 83 = D 83 := fun a b c => by rw [u3_n (by decide)]
  have n84 : ∀ a b c : Nat → Int, up3 D a b c 84 = D 84 := fun a b c => by rw [u3_n (by decide)]
  obtain ⟨f1, f2, f3⟩ := hh f.toNat (by omega)
  have fle := hl.1 f.toNat (by omega)
  have fF := hk.2 f.toNat (by omega)
  have ef : (hd f.toNat).toNat = h f.toNat := by omega
  obtain ⟨e1, e2, e3⟩ := hh (h f.toNat) (by omega)
  intro t
  induction t with
  | zero =>
    intro o best x4 x5 h0 ht hi
    refine go_182_18 ?_
    simp only [sg_182_18, cl_I, cl_L, cl_R, e_aload_n, e_cs2, e_get0, e_get1, e_goto, e_iaload, e_icmp_ge, e_icmp_le, e_iconst, e_if_eq, e_iload, e_iload_n, e_istore, e_nil, fl_0, fl_I, fl_L, fl_R, l_ld1, l_ld3, l_ld4, l_ldA0, l_st4, rk_1, wRef_some, EE_n, EE_r69_23, EE_r69_24, EE_r69_25, EE_r69_26, EE_r69_27, EE_s69, EE_s83, EE_s84, EE_s85, EE_s86, EE_s87, n69, u3_85, u3_86, u3_87, lc_lt, lc_le, lc_gt, lc_ge, lc_eq, true_and, and_true, List.length_cons, List.length_nil, ab_ia, Nat.reduceAdd, Nat.reduceLeDiff, Nat.reduceEqDiff, Nat.reduceLT, Int.reduceLT, Int.reduceLE, Int.reduceEq, Int.reduceNeg, true_or, or_true, false_or, or_false, not_false_eq_true, not_true_eq_false, false_implies, true_implies, forall_const, implies_true, Nat.zero_le, Nat.le_refl]
    refine ⟨fun _ => ?_, fun hc => absurd hc (by omega)⟩
    refine go_182_95 ?_
    simp only [sg_182_95, cl_I, cl_L, cl_R, e_iload_n, e_iret0, e_nil, l_ld2, lc_lt, lc_le, lc_gt, lc_ge, lc_eq, true_and, and_true, List.length_cons, List.length_nil, ab_ia, Nat.reduceAdd, Nat.reduceLeDiff, Nat.reduceEqDiff, Nat.reduceLT, Int.reduceLT, Int.reduceLE, Int.reduceEq, Int.reduceNeg, true_or, or_true, false_or, or_false, not_false_eq_true, not_true_eq_false, false_implies, true_implies, forall_const, implies_true, Nat.zero_le, Nat.le_refl]
    rw [show o = D 69 22 by omega] at hi
    exact hq best hi
  | succ t ih =>
    intro o best x4 x5 h0 ht hi
    obtain ⟨a1, a2, a3⟩ := hh o.toNat (by omega)
    have ole := hl.1 o.toNat (by omega)
    have fO := hk.2 o.toNat (by omega)
    have eo : (hd o.toNat).toNat = h o.toNat := by omega
    obtain ⟨b1, b2, b3⟩ := hh (h o.toNat) (by omega)
    have hbest : best ≠ -9 → 0 ≤ best ∧ best < D 69 22 ∧ bg best.toNat = gmin h (D 84) best.toNat (D 69 22).toNat := by
      intro q
      rcases hi with ⟨k1, k2⟩ | ⟨b, k1, ⟨o', o1, o2, o3⟩, k3, k4⟩
      · exact absurd k1 q
      · have := hl.1 o' (by omega)
        have := (hh b (by omega)).2.2
        rw [k1]
        exact ⟨by omega, by omega, this⟩
    have keep : (tch (D 83 f.toNat) (D 83 o.toNat) → lcand (D 69 22).toNat (D 83) (D 84) h f.toNat (h o.toNat) → best ≠ -9 ∧ (gmin h (D 84) best.toNat (D 69 22).toNat < gmin h (D 84) (h o.toNat) (D 69 22).toNat ∨ (gmin h (D 84) best.toNat (D 69 22).toNat = gmin h (D 84) (h o.toNat) (D 69 22).toNat ∧ best.toNat ≤ h o.toNat))) → ∀ x4 x5 : ab_V, Sx 182 93 [vR 69, vI f, vI best, vI o, x4, x5] [] (EE L, up3 D hd gz bg) (0, 0) Q := by
      intro hc x4 x5
      refine go_182_93 ?_
      simp only [sg_182_93, cl_I, cl_L, cl_R, e_goto, e_iinc, e_nil, l_inc3, lc_lt, lc_le, lc_gt, lc_ge, lc_eq, true_and, and_true, List.length_cons, List.length_nil, ab_ia, Nat.reduceAdd, Nat.reduceLeDiff, Nat.reduceEqDiff, Nat.reduceLT, Int.reduceLT, Int.reduceLE, Int.reduceEq, Int.reduceNeg, true_or, or_true, false_or, or_false, not_false_eq_true, not_true_eq_false, false_implies, true_implies, forall_const, implies_true, Nat.zero_le, Nat.le_refl]
      refine ⟨⟨by omega, by omega⟩, ih (o + 1) best _ _ (by omega) (by omega) ?_⟩
      have old : ∀ g, lC (D 83) h f.toNat (o + 1) g → lC (D 83) h f.toNat o g ∨ (g = h o.toNat ∧ tch (D 83 f.toNat) (D 83 o.toNat)) := by
        rintro g ⟨o', o1, o2, o3⟩
        by_cases q : o' = o.toNat
        · subst q; exact Or.inr ⟨o2.symm, o3⟩
        · exact Or.inl ⟨o', by omega, o2, o3⟩
      rcases hi with ⟨k1, k2⟩ | ⟨b, k1, k2, k3, k4⟩
      · refine Or.inl ⟨k1, fun g hg hcg => ?_⟩
        rcases old g hg with q | ⟨q, q2⟩
        · exact k2 g q hcg
        · subst q
          exact (hc q2 hcg).1 k1
      · obtain ⟨o', o1, o2, o3⟩ := k2
        refine Or.inr ⟨b, k1, ⟨o', by omega, o2, o3⟩, k3, fun g hg hcg => ?_⟩
        rcases old g hg with q | ⟨q, q2⟩
        · exact k4 g q hcg
        · subst q
          have := (hc q2 hcg).2
          rw [k1] at this
          exact this
    have take : tch (D 83 f.toNat) (D 83 o.toNat) → lcand (D 69 22).toNat (D 83) (D 84) h f.toNat (h o.toNat) → (best = -9 ∨ gmin h (D 84) (h o.toNat) (D 69 22).toNat < gmin h (D 84) best.toNat (D 69 22).toNat ∨ (gmin h (D 84) (h o.toNat) (D 69 22).toNat = gmin h (D 84) best.toNat (D 69 22).toNat ∧ h o.toNat < best.toNat)) → lbest (D 69 22).toNat (D 83) (D 84) h f.toNat (lC (D 83) h f.toNat (o + 1)) (hd o.toNat) := by
      intro ht hc hb
      refine Or.inr ⟨h o.toNat, a1, ⟨o.toNat, by omega, rfl, ht⟩, hc, ?_⟩
      rintro g ⟨o', o1, o2, o3⟩ hcg
      by_cases q : o' = o.toNat
      · subst q; subst o2; exact Or.inr ⟨rfl, Nat.le_refl _⟩
      · rcases hi with ⟨k1, k2⟩ | ⟨b, k1, k2, k3, k4⟩
        · exact absurd hcg (k2 g ⟨o', by omega, o2, o3⟩)
        · have h1 := k4 g ⟨o', by omega, o2, o3⟩ hcg
          rw [k1] at hb
          have e : ((b : Int)).toNat = b := rfl
          rw [e] at hb
          omega
    have take' : tch (D 83 f.toNat) (D 83 o.toNat) → lcand (D 69 22).toNat (D 83) (D 84) h f.toNat (h o.toNat) → (best = -9 ∨ gmin h (D 84) (h o.toNat) (D 69 22).toNat < gmin h (D 84) best.toNat (D 69 22).toNat ∨ (gmin h (D 84) (h o.toNat) (D 69 22).toNat = gmin h (D 84) best.toNat (D 69 22).toNat ∧ h o.toNat < best.toNat)) → ∀ x5 : ab_V, Sx 182 91 [vR 69, vI f, vI best, vI o, vI (hd o.toNat), x5] [] (EE L, up3 D hd gz bg) (0, 0) Q := by
      intro q1 q2 q3 x5
      refine go_182_91 ?_
      simp only [sg_182_91, cl_I, cl_L, cl_R, e_goto, e_iinc, e_iload, e_istore_n, e_nil, l_inc3, l_ld4, l_st2, lc_lt, lc_le, lc_gt, lc_ge, lc_eq, true_and, and_true, List.length_cons, List.length_nil, ab_ia, Nat.reduceAdd, Nat.reduceLeDiff, Nat.reduceEqDiff, Nat.reduceLT, Int.reduceLT, Int.reduceLE, Int.reduceEq, Int.reduceNeg, true_or, or_true, false_or, or_false, not_false_eq_true, not_true_eq_false, false_implies, true_implies, forall_const, implies_true, Nat.zero_le, Nat.le_refl]
      exact ⟨⟨by omega, by omega⟩, ih (o + 1) _ _ _ (by omega) (by omega) (take q1 q2 q3)⟩
    have mkc : tch (D 83 f.toNat) (D 83 o.toNat) → 2 < gz (h o.toNat) → bg (h o.toNat) < D 84 f.toNat → lcand (D 69 22).toNat (D 83) (D 84) h f.toNat (h o.toNat) := fun q1 q2 q3 => ⟨⟨by omega, by omega⟩, o.toNat, by omega, rfl, q1⟩
    have no : ¬ (2 < gz (h o.toNat) ∧ tch (D 83 f.toNat) (D 83 o.toNat) ∧ bg (h o.toNat) < D 84 f.toNat) → ∀ x5 : ab_V, Sx 182 63 [vR 69, vI f, vI best, vI o, vI (hd o.toNat), x5] [] (EE L, up3 D hd gz bg) (0, 0) Q := by
      intro hno x5
      refine go_182_63 ?_
      simp only [sg_182_63, cl_I, cl_L, cl_R, e_aload_n, e_bipush, e_get1, e_goto, e_iaload, e_icmp_eq, e_icmp_ge, e_icmp_lt, e_icmp_ne, e_iconst, e_if_eq, e_iinc, e_iload, e_iload_n, e_istore, e_istore_n, e_nil, l_inc3, l_ld2, l_ld4, l_ld5, l_ldA0, l_st2, l_st5, wRef_some, EE_n, EE_r69_27, EE_s69, EE_s87, lc_lt, lc_le, lc_gt, lc_ge, lc_eq, true_and, and_true, List.length_cons, List.length_nil, ab_ia, Nat.reduceAdd, Nat.reduceLeDiff, Nat.reduceEqDiff, Nat.reduceLT, Int.reduceLT, Int.reduceLE, Int.reduceEq, Int.reduceNeg, true_or, or_true, false_or, or_false, not_false_eq_true, not_true_eq_false, false_implies, true_implies, forall_const, implies_true, Nat.zero_le, Nat.le_refl]
      exact keep (fun q1 q2 => absurd ⟨by have := q2.1.1; omega, q1, by have := q2.1.2; omega⟩ hno) _ _
    refine go_182_18 ?_
    simp only [sg_182_18, cl_I, cl_L, cl_R, e_aload_n, e_cs2, e_get0, e_get1, e_goto, e_iaload, e_icmp_ge, e_icmp_le, e_iconst, e_if_eq, e_iload, e_iload_n, e_istore, e_nil, fl_0, fl_I, fl_L, fl_R, l_ld1, l_ld3, l_ld4, l_ldA0, l_st4, rk_1, wRef_some, EE_n, EE_r69_23, EE_r69_24, EE_r69_25, EE_r69_26, EE_r69_27, EE_s69, EE_s83, EE_s84, EE_s85, EE_s86, EE_s87, n69, n83, n84, u3_85, u3_86, u3_87, ef, eo, lc_lt, lc_le, lc_gt, lc_ge, lc_eq, true_and, and_true, List.length_cons, List.length_nil, ab_ia, Nat.reduceAdd, Nat.reduceLeDiff, Nat.reduceEqDiff, Nat.reduceLT, Int.reduceLT, Int.reduceLE, Int.reduceEq, Int.reduceNeg, true_or, or_true, false_or, or_false, not_false_eq_true, not_true_eq_false, false_implies, true_implies, forall_const, implies_true, Nat.zero_le, Nat.le_refl]
    refine ⟨fun hc => absurd hc (by omega), fun _ => ⟨by omega, by omega, fun hc => absurd hc (by omega), fun _ => ⟨by omega, by omega, fun h1 => no (by omega) _, fun h1 => ⟨by omega, by omega, ?_⟩⟩⟩⟩
    refine CB.use (m_touch (by omega) (by omega)) (fun h2 => ?_) (fun h2 => ?_)
    · try simp only [n69, n83, n84, u3_85, u3_86, u3_87, ef, eo, lc_lt, lc_le, lc_gt, lc_ge, lc_eq, true_and, and_true, List.length_cons, List.length_nil, ab_ia, Nat.reduceAdd, Nat.reduceLeDiff, Nat.reduceEqDiff, Nat.reduceLT, Int.reduceLT, Int.reduceLE, Int.reduceEq, Int.reduceNeg, true_or, or_true, false_or, or_false, not_false_eq_true, not_true_eq_false, false_implies, true_implies, forall_const, implies_true, Nat.zero_le, Nat.le_refl]
      refine ⟨by omega, by omega, fun h3 => no (fun q => absurd q.2.2 (by omega)) _, fun h3 => ?_⟩
      have hc := mkc h2 (by omega) (by omega)
      refine go_182_64 ?_
      simp only [sg_182_64, cl_I, cl_L, cl_R, e_aload_n, e_bipush, e_get1, e_goto, e_iaload, e_icmp_eq, e_icmp_ge, e_icmp_lt, e_icmp_ne, e_if_eq, e_iinc, e_iload, e_iload_n, e_istore, e_istore_n, e_nil, l_inc3, l_ld2, l_ld4, l_ld5, l_ldA0, l_st2, l_st5, wRef_some, EE_n, EE_r69_27, EE_s69, EE_s87, n69, n83, n84, u3_85, u3_86, u3_87, ef, eo, lc_lt, lc_le, lc_gt, lc_ge, lc_eq, true_and, and_true, List.length_cons, List.length_nil, ab_ia, Nat.reduceAdd, Nat.reduceLeDiff, Nat.reduceEqDiff, Nat.reduceLT, Int.reduceLT, Int.reduceLE, Int.reduceEq, Int.reduceNeg, true_or, or_true, false_or, or_false, not_false_eq_true, not_true_eq_false, false_implies, true_implies, forall_const, implies_true, Nat.zero_le, Nat.le_refl]
      refine ⟨fun q => take' h2 hc (Or.inl q) _, fun q => ?_⟩
      have hb := hbest q
      refine ⟨by omega, by omega, fun q2 => take' h2 hc (Or.inr (Or.inl (by omega))) _, fun q2 => ⟨by omega, by omega, fun q3 => ?_, fun q3 => ⟨fun q4 => ?_, fun q4 => ?_⟩⟩⟩
      · exact keep (fun _ _ => ⟨q, Or.inl (by omega)⟩) _ _
      · exact keep (fun _ _ => ⟨q, by omega⟩) _ _
      · exact ⟨⟨by omega, by omega⟩, ih (o + 1) _ _ _ (by omega) (by omega) (take h2 hc (Or.inr (Or.inr (by omega))))⟩
    · try simp only [n69, n83, n84, u3_85, u3_86, u3_87, ef, eo, lc_lt, lc_le, lc_gt, lc_ge, lc_eq, true_and, and_true, List.length_cons, List.length_nil, ab_ia, Nat.reduceAdd, Nat.reduceLeDiff, Nat.reduceEqDiff, Nat.reduceLT, Int.reduceLT, Int.reduceLE, Int.reduceEq, Int.reduceNeg, true_or, or_true, false_or, or_false, not_false_eq_true, not_true_eq_false, false_implies, true_implies, forall_const, implies_true, Nat.zero_le, Nat.le_refl]
      exact no (fun q => h2 q.2.1) _
theorem m_later {f : Int} {h : Nat → Nat} (hk : fOK (D 69 22) (D 83) (D 84)) (hl : isLab (D 69 22).toNat (kin (D 83) (D 84)) h) : CI 182 [vR 69, vI f] (EE L, D) (fun r D' => ∃ a b c : Nat → Int, D' = up3 D a b c ∧ ((¬ (0 ≤ f ∧ f < D 69 22) ∧ r = -1) ∨ ((0 ≤ f ∧ f < D 69 22) ∧ lateA (D 69 22).toNat (D 83) (D 84) h f.toNat (lC (D 83) h f.toNat (D 69 22)) r))) := by
  have h16 := hk.1
  have n69 : ∀ a b c : Nat → Int, up3 D a b c 69 22 = D 69 22 := fun a b c => by rw [u3_n (by decide)]
  refine Sx.un (y := 182) (n := 0) (lo := [vR 69, vI f, vU, vU, vU, vU]) (st := []) (u := (0, 0)) ?_
  refine go_182_0 ?_
  simp only [sg_182_0, cl_I, cl_L, cl_R, e_aload_n, e_cs3, e_get0, e_i2l, e_iconst, e_if_ne, e_iload_n, e_iret0, e_isub, e_lconst, e_nil, fl_0, fl_I, fl_L, fl_R, l_ld1, l_ldA0, rk_1, wRef_some, EE_n, EE_s69, lc_lt, lc_le, lc_gt, lc_ge, lc_eq, true_and, and_true, List.length_cons, List.length_nil, ab_ia, Nat.reduceAdd, Nat.reduceLeDiff, Nat.reduceEqDiff, Nat.reduceLT, Int.reduceLT, Int.reduceLE, Int.reduceEq, Int.reduceNeg, true_or, or_true, false_or, or_false, not_false_eq_true, not_true_eq_false, false_implies, true_implies, forall_const, implies_true, Nat.zero_le, Nat.le_refl]
  refine ⟨⟨by omega, by omega⟩, ?_⟩
  refine CB.use m_in (fun h1 => ?_) (fun h1 => ?_)
  · try simp only [lc_lt, lc_le, lc_gt, lc_ge, lc_eq, true_and, and_true, List.length_cons, List.length_nil, ab_ia, Nat.reduceAdd, Nat.reduceLeDiff, Nat.reduceEqDiff, Nat.reduceLT, Int.reduceLT, Int.reduceLE, Int.reduceEq, Int.reduceNeg, true_or, or_true, false_or, or_false, not_false_eq_true, not_true_eq_false, false_implies, true_implies, forall_const, implies_true, Nat.zero_le, Nat.le_refl]
    refine go_182_12 ?_
    simp only [sg_182_12, cl_I, cl_L, cl_R, e_aload_n, e_bipush, e_cv1, e_iconst, e_istore_n, e_nil, fl_0, fl_I, fl_L, fl_R, l_ldA0, l_st2, l_st3, rk_0, EE_n, EE_s69, lc_lt, lc_le, lc_gt, lc_ge, lc_eq, true_and, and_true, List.length_cons, List.length_nil, ab_ia, Nat.reduceAdd, Nat.reduceLeDiff, Nat.reduceEqDiff, Nat.reduceLT, Int.reduceLT, Int.reduceLE, Int.reduceEq, Int.reduceNeg, true_or, or_true, false_or, or_false, not_false_eq_true, not_true_eq_false, false_implies, true_implies, forall_const, implies_true, Nat.zero_le, Nat.le_refl]
    refine (m_layGroups hk hl).mono ?_
    rintro D' ⟨a, b, c, rfl, hh⟩
    by_cases hs : cnt (gsz h (h f.toNat)) (D 69 22).toNat < 3
    · exact m_later_loop hk hl hh (by omega) hs (fun r hr => retI ⟨a, b, c, rfl, Or.inr ⟨by omega, Or.inr ⟨hs, hr⟩⟩⟩) (D 69 22).toNat 0 (-9) vU vU (by omega) (by omega) (Or.inl ⟨rfl, fun g hg => by obtain ⟨o, o1, _⟩ := hg; omega⟩)
    · obtain ⟨f1, f2, f3⟩ := hh f.toNat (by omega)
      have fle := hl.1 f.toNat (by omega)
      obtain ⟨e1, e2, e3⟩ := hh (h f.toNat) (by omega)
      have ef : (a f.toNat).toNat = h f.toNat := by omega
      refine go_182_18 ?_
      simp only [sg_182_18, cl_I, cl_L, cl_R, e_aload_n, e_cs2, e_get0, e_get1, e_goto, e_iaload, e_icmp_ge, e_icmp_le, e_iconst, e_if_eq, e_iload, e_iload_n, e_istore, e_nil, fl_0, fl_I, fl_L, fl_R, l_ld1, l_ld3, l_ld4, l_ldA0, l_st4, rk_1, wRef_some, EE_n, EE_r69_23, EE_r69_24, EE_r69_25, EE_r69_26, EE_r69_27, EE_s69, EE_s83, EE_s84, EE_s85, EE_s86, EE_s87, n69, u3_85, u3_86, u3_87, ef, lc_lt, lc_le, lc_gt, lc_ge, lc_eq, true_and, and_true, List.length_cons, List.length_nil, ab_ia, Nat.reduceAdd, Nat.reduceLeDiff, Nat.reduceEqDiff, Nat.reduceLT, Int.reduceLT, Int.reduceLE, Int.reduceEq, Int.reduceNeg, true_or, or_true, false_or, or_false, not_false_eq_true, not_true_eq_false, false_implies, true_implies, forall_const, implies_true, Nat.zero_le, Nat.le_refl]
      refine ⟨fun _ => absurd ‹_› (by omega), fun _ => ⟨by omega, by omega, fun _ => ?_, fun hc => absurd hc (by omega)⟩⟩
      refine go_182_95 ?_
      simp only [sg_182_95, cl_I, cl_L, cl_R, e_iload_n, e_iret0, e_nil, l_ld2, lc_lt, lc_le, lc_gt, lc_ge, lc_eq, true_and, and_true, List.length_cons, List.length_nil, ab_ia, Nat.reduceAdd, Nat.reduceLeDiff, Nat.reduceEqDiff, Nat.reduceLT, Int.reduceLT, Int.reduceLE, Int.reduceEq, Int.reduceNeg, true_or, or_true, false_or, or_false, not_false_eq_true, not_true_eq_false, false_implies, true_implies, forall_const, implies_true, Nat.zero_le, Nat.le_refl]
      exact retI ⟨a, b, c, rfl, Or.inr ⟨by omega, Or.inl ⟨by omega, rfl⟩⟩⟩
  · try simp only [lc_lt, lc_le, lc_gt, lc_ge, lc_eq, true_and, and_true, List.length_cons, List.length_nil, ab_ia, Nat.reduceAdd, Nat.reduceLeDiff, Nat.reduceEqDiff, Nat.reduceLT, Int.reduceLT, Int.reduceLE, Int.reduceEq, Int.reduceNeg, true_or, or_true, false_or, or_false, not_false_eq_true, not_true_eq_false, false_implies, true_implies, forall_const, implies_true, Nat.zero_le, Nat.le_refl]
    exact retI ⟨_, _, _, u3_id.symm, Or.inl ⟨by omega, rfl⟩⟩
theorem later_eq {N : Nat} {c y : Nat → Int} {h : Nat → Nat} {f : Nat} {r r' : Int} (hl : isLab N (kin c y) h) (k : lateA N c y h f (fun g => (g : Int) < N) r) (k' : lateA N c y h f (lC c h f N) r') : r = r' := by
  rcases k with ⟨k1, k2⟩ | ⟨k1, k2⟩ <;> rcases k' with ⟨j1, j2⟩ | ⟨j1, j2⟩
  · omega
  · omega
  · omega
  · refine lbest_uniq (fun g hg => ?_) k2 j2
    obtain ⟨_, o, o1, o2, o3⟩ := hg
    refine ⟨?_, o, by omega, o2, o3⟩
    have := hl.1 o o1
    show (g : Int) < N
    omega
end Finds8

/-! the ground: forget, fill, become -/
section Fill
variable {L : Nat} {D : ab_D}
/-- only the two rows of a ground changed -/
def frG (g : Nat) (D D' : ab_D) : Prop := ∀ a, a ≠ g + 1 → a ≠ g + 2 → D' a = D a
theorem frG.refl {g : Nat} {D : ab_D} : frG g D D := fun _ _ _ => rfl
theorem frG_ups {g b i : Nat} {z : Int} {D D' : ab_D} (hb : b = g + 1 ∨ b = g + 2) (h : frG g D D') : frG g D (ups D' b i z) := fun a h1 h2 => by
  funext j
  rw [ups_ne1 (by omega), h a h1 h2]
theorem g_forget_l1 {E : ab_E} {g : Nat} {Q : Option ab_V → ab_H → Prop} (hg : isG E g)
    (hq : ∀ D', frG g D D' → (∀ j : Int, 0 ≤ j → j < 8 → D' (g + 1) j.toNat = -1) → ∀ x, Sx 19 12 [vR g, x] [] (E, D') (0, 0) Q) :
    ∀ (t : Nat) (p : Int) (D' : ab_D), 0 ≤ p → p + t = 8 → frG g D D' → (∀ j : Int, 0 ≤ j → j < p → D' (g + 1) j.toNat = -1) → Sx 19 2 [vR g, vI p] [] (E, D') (0, 0) Q := by
  obtain ⟨⟨g1, g2⟩, ⟨g3, g4⟩, ⟨g5, g6⟩, g7, g8⟩ := hg
  intro t
  induction t with
  | zero =>
    intro p D' h0 ht hf hi
    refine go_19_2 ?_
    simp only [sg_19_2, cl_I, cl_L, cl_R, e_aload_n, e_bipush, e_get1, e_goto, e_iastore, e_icmp_ge, e_iconst, e_iinc, e_iload_n, e_nil, l_inc1, l_ld1, l_ldA0, wRef_some, g1, g2, g3, g4, g5, g6, g7, g8, lc_lt, lc_le, lc_gt, lc_ge, lc_eq, true_and, and_true, List.length_cons, List.length_nil, ab_ia, Nat.reduceAdd, Nat.reduceLeDiff, Nat.reduceEqDiff, Nat.reduceLT, Int.reduceLT, Int.reduceLE, Int.reduceEq, Int.reduceNeg, true_or, or_true, false_or, or_false, not_false_eq_true, not_true_eq_false, false_implies, true_implies, forall_const, implies_true, Nat.zero_le, Nat.le_refl]
    exact ⟨fun _ => hq D' hf (fun j j0 j1 => hi j j0 (by omega)) _, fun hc => absurd hc (by omega)⟩
  | succ t ih =>
    intro p D' h0 ht hf hi
    refine go_19_2 ?_
    simp only [sg_19_2, cl_I, cl_L, cl_R, e_aload_n, e_bipush, e_get1, e_goto, e_iastore, e_icmp_ge, e_iconst, e_iinc, e_iload_n, e_nil, l_inc1, l_ld1, l_ldA0, wRef_some, g1, g2, g3, g4, g5, g6, g7, g8, lc_lt, lc_le, lc_gt, lc_ge, lc_eq, true_and, and_true, List.length_cons, List.length_nil, ab_ia, Nat.reduceAdd, Nat.reduceLeDiff, Nat.reduceEqDiff, Nat.reduceLT, Int.reduceLT, Int.reduceLE, Int.reduceEq, Int.reduceNeg, true_or, or_true, false_or, or_false, not_false_eq_true, not_true_eq_false, false_implies, true_implies, forall_const, implies_true, Nat.zero_le, Nat.le_refl]
    refine ⟨fun hc => absurd hc (by omega), fun _ => ⟨by omega, ⟨by omega, by omega⟩, ih (p + 1) _ (by omega) (by omega) (frG_ups (Or.inl rfl) hf) (fun j j0 j1 => ?_)⟩⟩
    by_cases z : j = p
    · subst z; rw [ups_self]
    · rw [ups_ne2 (by omega)]; exact hi j j0 (by omega)
theorem g_forget_l2 {E : ab_E} {g : Nat} {Q : Option ab_V → ab_H → Prop} (hg : isG E g)
    (hq : ∀ D', frG g D D' → (∀ j : Int, 0 ≤ j → j < 8 → D' (g + 1) j.toNat = -1) → (∀ j : Int, 0 ≤ j → j < 56 → D' (g + 2) j.toNat = -1) → Q none (E, D')) :
    ∀ (t : Nat) (p : Int) (D' : ab_D), 0 ≤ p → p + t = 56 → frG g D D' → (∀ j : Int, 0 ≤ j → j < 8 → D' (g + 1) j.toNat = -1) → (∀ j : Int, 0 ≤ j → j < p → D' (g + 2) j.toNat = -1) → Sx 19 14 [vR g, vI p] [] (E, D') (0, 0) Q := by
  obtain ⟨⟨g1, g2⟩, ⟨g3, g4⟩, ⟨g5, g6⟩, g7, g8⟩ := hg
  intro t
  induction t with
  | zero =>
    intro p D' h0 ht hf h8 hi
    refine go_19_14 ?_
    simp only [sg_19_14, cl_I, cl_L, cl_R, e_aload_n, e_bipush, e_get1, e_goto, e_iastore, e_icmp_ge, e_iconst, e_iinc, e_iload_n, e_nil, l_inc1, l_ld1, l_ldA0, wRef_some, g1, g2, g3, g4, g5, g6, g7, g8, lc_lt, lc_le, lc_gt, lc_ge, lc_eq, true_and, and_true, List.length_cons, List.length_nil, ab_ia, Nat.reduceAdd, Nat.reduceLeDiff, Nat.reduceEqDiff, Nat.reduceLT, Int.reduceLT, Int.reduceLE, Int.reduceEq, Int.reduceNeg, true_or, or_true, false_or, or_false, not_false_eq_true, not_true_eq_false, false_implies, true_implies, forall_const, implies_true, Nat.zero_le, Nat.le_refl]
    refine ⟨fun _ => ?_, fun hc => absurd hc (by omega)⟩
    refine go_19_24 ?_
    simp only [sg_19_24, cl_I, cl_L, cl_R, e_nil, e_vret, lc_lt, lc_le, lc_gt, lc_ge, lc_eq, true_and, and_true, List.length_cons, List.length_nil, ab_ia, Nat.reduceAdd, Nat.reduceLeDiff, Nat.reduceEqDiff, Nat.reduceLT, Int.reduceLT, Int.reduceLE, Int.reduceEq, Int.reduceNeg, true_or, or_true, false_or, or_false, not_false_eq_true, not_true_eq_false, false_implies, true_implies, forall_const, implies_true, Nat.zero_le, Nat.le_refl]
    exact hq D' hf h8 (fun j j0 j1 => hi j j0 (by omega))
  | succ t ih =>
    intro p D' h0 ht hf h8 hi
    refine go_19_14 ?_
    simp only [sg_19_14, cl_I, cl_L, cl_R, e_aload_n, e_bipush, e_get1, e_goto, e_iastore, e_icmp_ge, e_iconst, e_iinc, e_iload_n, e_nil, l_inc1, l_ld1, l_ldA0, wRef_some, g1, g2, g3, g4, g5, g6, g7, g8, lc_lt, lc_le, lc_gt, lc_ge, lc_eq, true_and, and_true, List.length_cons, List.length_nil, ab_ia, Nat.reduceAdd, Nat.reduceLeDiff, Nat.reduceEqDiff, Nat.reduceLT, Int.reduceLT, Int.reduceLE, Int.reduceEq, Int.reduceNeg, true_or, or_true, false_or, or_false, not_false_eq_true, not_true_eq_false, false_implies, true_implies, forall_const, implies_true, Nat.zero_le, Nat.le_refl]
    refine ⟨fun hc => absurd hc (by omega), fun _ => ⟨by omega, ⟨by omega, by omega⟩, ih (p + 1) _ (by omega) (by omega) (frG_ups (Or.inr rfl) hf) (fun j j0 j1 => ?_) (fun j j0 j1 => ?_)⟩⟩
    · rw [ups_ne1 (by omega)]; exact h8 j j0 j1
    · by_cases z : j = p
      · subst z; rw [ups_self]
      · rw [ups_ne2 (by omega)]; exact hi j j0 (by omega)
theorem g_forget {E : ab_E} {g : Nat} (hg : isG E g) : CV 19 [vR g] (E, D) (fun D' => frG g D D' ∧ (∀ j : Int, 0 ≤ j → j < 8 → D' (g + 1) j.toNat = -1) ∧ ∀ j : Int, 0 ≤ j → j < 56 → D' (g + 2) j.toNat = -1) := by
  refine Sx.un (y := 19) (n := 0) (lo := [vR g, vU]) (st := []) (u := (0, 0)) ?_
  refine go_19_0 ?_
  simp only [sg_19_0, cl_I, cl_L, cl_R, e_iconst, e_istore_n, e_nil, l_st1, lc_lt, lc_le, lc_gt, lc_ge, lc_eq, true_and, and_true, List.length_cons, List.length_nil, ab_ia, Nat.reduceAdd, Nat.reduceLeDiff, Nat.reduceEqDiff, Nat.reduceLT, Int.reduceLT, Int.reduceLE, Int.reduceEq, Int.reduceNeg, true_or, or_true, false_or, or_false, not_false_eq_true, not_true_eq_false, false_implies, true_implies, forall_const, implies_true, Nat.zero_le, Nat.le_refl]
  refine g_forget_l1 hg (fun D' hf h8 x => ?_) 8 0 D (by omega) (by omega) frG.refl (fun j j0 j1 => absurd j1 (by omega))
  refine go_19_12 ?_
  simp only [sg_19_12, cl_I, cl_L, cl_R, e_iconst, e_istore_n, e_nil, l_st1, lc_lt, lc_le, lc_gt, lc_ge, lc_eq, true_and, and_true, List.length_cons, List.length_nil, ab_ia, Nat.reduceAdd, Nat.reduceLeDiff, Nat.reduceEqDiff, Nat.reduceLT, Int.reduceLT, Int.reduceLE, Int.reduceEq, Int.reduceNeg, true_or, or_true, false_or, or_false, not_false_eq_true, not_true_eq_false, false_implies, true_implies, forall_const, implies_true, Nat.zero_le, Nat.le_refl]
  exact g_forget_l2 hg (fun D'' hf' h8' h56 => retV ⟨hf', h8', h56⟩) 56 0 D' (by omega) (by omega) hf h8 (fun j j0 j1 => absurd j1 (by omega))
/-- told or else -/
def els (x e : Int) : Int := if x = -1 then e else x
theorem g_fill_l1 {E : ab_E} {g : Nat} {Q : Option ab_V → ab_H → Prop} (hg : isG E g) (hs : E.2.1 1001 = (5, 8)) (hl : g + 2 < 1000)
    (hq : ∀ D', frG g D D' → (∀ j : Int, 0 ≤ j → j < 8 → D' (g + 1) j.toNat = els (D (g + 1) j.toNat) (D 1001 j.toNat)) → D' (g + 2) = D (g + 2) → ∀ x, Sx 21 20 [vR g, x] [] (E, D') (0, 0) Q) :
    ∀ (t : Nat) (p : Int) (D' : ab_D), 0 ≤ p → p + t = 8 → frG g D D' → (∀ j : Int, 0 ≤ j → j < p → D' (g + 1) j.toNat = els (D (g + 1) j.toNat) (D 1001 j.toNat)) → (∀ j : Int, p ≤ j → D' (g + 1) j.toNat = D (g + 1) j.toNat) → D' (g + 2) = D (g + 2) → Sx 21 2 [vR g, vI p] [] (E, D') (0, 0) Q := by
  obtain ⟨⟨g1, g2⟩, ⟨g3, g4⟩, ⟨g5, g6⟩, g7, g8⟩ := hg
  intro t
  induction t with
  | zero =>
    intro p D' h0 ht hf hi hj h2
    refine go_21_2 ?_
    simp only [sg_21_2, cl_I, cl_L, cl_R, e_aload_n, e_bipush, e_get1, e_gets, e_goto, e_iaload, e_iastore, e_icmp_ge, e_icmp_ne, e_iconst, e_iinc, e_iload_n, e_nil, l_inc1, l_ld1, l_ldA0, wRef_some, g1, g2, g3, g4, g5, g6, g7, g8, hs, lc_lt, lc_le, lc_gt, lc_ge, lc_eq, true_and, and_true, List.length_cons, List.length_nil, ab_ia, Nat.reduceAdd, Nat.reduceLeDiff, Nat.reduceEqDiff, Nat.reduceLT, Int.reduceLT, Int.reduceLE, Int.reduceEq, Int.reduceNeg, true_or, or_true, false_or, or_false, not_false_eq_true, not_true_eq_false, false_implies, true_implies, forall_const, implies_true, Nat.zero_le, Nat.le_refl]
    exact ⟨fun _ => hq D' hf (fun j j0 j1 => hi j j0 (by omega)) h2 _, fun hc => absurd hc (by omega)⟩
  | succ t ih =>
    intro p D' h0 ht hf hi hj h2
    have ep := hj p (by omega)
    have e1 : D' 1001 = D 1001 := hf 1001 (by omega) (by omega)
    refine go_21_2 ?_
    simp only [sg_21_2, cl_I, cl_L, cl_R, e_aload_n, e_bipush, e_get1, e_gets, e_goto, e_iaload, e_iastore, e_icmp_ge, e_icmp_ne, e_iconst, e_iinc, e_iload_n, e_nil, l_inc1, l_ld1, l_ldA0, wRef_some, g1, g2, g3, g4, g5, g6, g7, g8, hs, ep, e1, lc_lt, lc_le, lc_gt, lc_ge, lc_eq, true_and, and_true, List.length_cons, List.length_nil, ab_ia, Nat.reduceAdd, Nat.reduceLeDiff, Nat.reduceEqDiff, Nat.reduceLT, Int.reduceLT, Int.reduceLE, Int.reduceEq, Int.reduceNeg, true_or, or_true, false_or, or_false, not_false_eq_true, not_true_eq_false, false_implies, true_implies, forall_const, implies_true, Nat.zero_le, Nat.le_refl]
    refine ⟨fun hc => absurd hc (by omega), fun _ => ⟨by omega, fun h3 => ?_, fun h3 => ⟨by omega, by omega, ?_⟩⟩⟩
    · refine go_21_18 ?_
      simp only [sg_21_18, cl_I, cl_L, cl_R, e_goto, e_iinc, e_nil, l_inc1, lc_lt, lc_le, lc_gt, lc_ge, lc_eq, true_and, and_true, List.length_cons, List.length_nil, ab_ia, Nat.reduceAdd, Nat.reduceLeDiff, Nat.reduceEqDiff, Nat.reduceLT, Int.reduceLT, Int.reduceLE, Int.reduceEq, Int.reduceNeg, true_or, or_true, false_or, or_false, not_false_eq_true, not_true_eq_false, false_implies, true_implies, forall_const, implies_true, Nat.zero_le, Nat.le_refl]
      refine ⟨⟨by omega, by omega⟩, ih (p + 1) _ (by omega) (by omega) hf (fun j j0 j1 => ?_) (fun j j1 => hj j (by omega)) h2⟩
      by_cases z : j = p
      · subst z; rw [ep]; unfold els; rw [if_neg h3]
      · exact hi j j0 (by omega)
    · refine ⟨⟨by omega, by omega⟩, ih (p + 1) _ (by omega) (by omega) (frG_ups (Or.inl rfl) hf) (fun j j0 j1 => ?_) (fun j j1 => ?_) ?_⟩
      · by_cases z : j = p
        · subst z; rw [ups_self]; unfold els; rw [if_pos (by omega)]
        · rw [ups_ne2 (by omega)]; exact hi j j0 (by omega)
      · rw [ups_ne2 (by omega)]; exact hj j (by omega)
      · funext j
        rw [ups_ne1 (by omega), h2]
theorem g_fill_l2 {E : ab_E} {g : Nat} {Q : Option ab_V → ab_H → Prop} (hg : isG E g) (hl : g + 2 < 1000)
    (hq : ∀ D', frG g D D' → (∀ j : Int, 0 ≤ j → j < 8 → D' (g + 1) j.toNat = els (D (g + 1) j.toNat) (D 1001 j.toNat)) → (∀ j : Int, 0 ≤ j → j < 56 → D' (g + 2) j.toNat = els (D (g + 2) j.toNat) 5) → Q none (E, D')) :
    ∀ (t : Nat) (p : Int) (D' : ab_D), 0 ≤ p → p + t = 56 → frG g D D' → (∀ j : Int, 0 ≤ j → j < 8 → D' (g + 1) j.toNat = els (D (g + 1) j.toNat) (D 1001 j.toNat)) → (∀ j : Int, 0 ≤ j → j < p → D' (g + 2) j.toNat = els (D (g + 2) j.toNat) 5) → (∀ j : Int, p ≤ j → D' (g + 2) j.toNat = D (g + 2) j.toNat) → Sx 21 22 [vR g, vI p] [] (E, D') (0, 0) Q := by
  obtain ⟨⟨g1, g2⟩, ⟨g3, g4⟩, ⟨g5, g6⟩, g7, g8⟩ := hg
  intro t
  induction t with
  | zero =>
    intro p D' h0 ht hf h8 hi hj
    refine go_21_22 ?_
    simp only [sg_21_22, cl_I, cl_L, cl_R, e_aload_n, e_bipush, e_get1, e_goto, e_iaload, e_iastore, e_icmp_ge, e_icmp_ne, e_iconst, e_iinc, e_iload_n, e_nil, l_inc1, l_ld1, l_ldA0, wRef_some, g1, g2, g3, g4, g5, g6, g7, g8, lc_lt, lc_le, lc_gt, lc_ge, lc_eq, true_and, and_true, List.length_cons, List.length_nil, ab_ia, Nat.reduceAdd, Nat.reduceLeDiff, Nat.reduceEqDiff, Nat.reduceLT, Int.reduceLT, Int.reduceLE, Int.reduceEq, Int.reduceNeg, true_or, or_true, false_or, or_false, not_false_eq_true, not_true_eq_false, false_implies, true_implies, forall_const, implies_true, Nat.zero_le, Nat.le_refl]
    refine ⟨fun _ => ?_, fun hc => absurd hc (by omega)⟩
    refine go_21_38 ?_
    simp only [sg_21_38, cl_I, cl_L, cl_R, e_nil, e_vret, lc_lt, lc_le, lc_gt, lc_ge, lc_eq, true_and, and_true, List.length_cons, List.length_nil, ab_ia, Nat.reduceAdd, Nat.reduceLeDiff, Nat.reduceEqDiff, Nat.reduceLT, Int.reduceLT, Int.reduceLE, Int.reduceEq, Int.reduceNeg, true_or, or_true, false_or, or_false, not_false_eq_true, not_true_eq_false, false_implies, true_implies, forall_const, implies_true, Nat.zero_le, Nat.le_refl]
    exact hq D' hf h8 (fun j j0 j1 => hi j j0 (by omega))
  | succ t ih =>
    intro p D' h0 ht hf h8 hi hj
    have ep := hj p (by omega)
    refine go_21_22 ?_
    simp only [sg_21_22, cl_I, cl_L, cl_R, e_aload_n, e_bipush, e_get1, e_goto, e_iaload, e_iastore, e_icmp_ge, e_icmp_ne, e_iconst, e_iinc, e_iload_n, e_nil, l_inc1, l_ld1, l_ldA0, wRef_some, g1, g2, g3, g4, g5, g6, g7, g8, ep, lc_lt, lc_le, lc_gt, lc_ge, lc_eq, true_and, and_true, List.length_cons, List.length_nil, ab_ia, Nat.reduceAdd, Nat.reduceLeDiff, Nat.reduceEqDiff, Nat.reduceLT, Int.reduceLT, Int.reduceLE, Int.reduceEq, Int.reduceNeg, true_or, or_true, false_or, or_false, not_false_eq_true, not_true_eq_false, false_implies, true_implies, forall_const, implies_true, Nat.zero_le, Nat.le_refl]
    refine ⟨fun hc => absurd hc (by omega), fun _ => ⟨by omega, fun h3 => ?_, fun h3 => ⟨by omega, ?_⟩⟩⟩
    · refine go_21_36 ?_
      simp only [sg_21_36, cl_I, cl_L, cl_R, e_goto, e_iinc, e_nil, l_inc1, lc_lt, lc_le, lc_gt, lc_ge, lc_eq, true_and, and_true, List.length_cons, List.length_nil, ab_ia, Nat.reduceAdd, Nat.reduceLeDiff, Nat.reduceEqDiff, Nat.reduceLT, Int.reduceLT, Int.reduceLE, Int.reduceEq, Int.reduceNeg, true_or, or_true, false_or, or_false, not_false_eq_true, not_true_eq_false, false_implies, true_implies, forall_const, implies_true, Nat.zero_le, Nat.le_refl]
      refine ⟨⟨by omega, by omega⟩, ih (p + 1) _ (by omega) (by omega) hf h8 (fun j j0 j1 => ?_) (fun j j1 => hj j (by omega))⟩
      by_cases z : j = p
      · subst z; rw [ep]; unfold els; rw [if_neg h3]
      · exact hi j j0 (by omega)
    · refine ⟨⟨by omega, by omega⟩, ih (p + 1) _ (by omega) (by omega) (frG_ups (Or.inr rfl) hf) (fun j j0 j1 => ?_) (fun j j0 j1 => ?_) (fun j j1 => ?_)⟩
      · rw [ups_ne1 (by omega)]; exact h8 j j0 j1
      · by_cases z : j = p
        · subst z; rw [ups_self]; unfold els; rw [if_pos (by omega)]
        · rw [ups_ne2 (by omega)]; exact hi j j0 (by omega)
      · rw [ups_ne2 (by omega)]; exact hj j (by omega)
theorem g_fill {E : ab_E} {g : Nat} (hg : isG E g) (hs : E.2.1 1001 = (5, 8)) (hl : g + 2 < 1000) : CV 21 [vR g] (E, D) (fun D' => frG g D D' ∧ (∀ j : Int, 0 ≤ j → j < 8 → D' (g + 1) j.toNat = els (D (g + 1) j.toNat) (D 1001 j.toNat)) ∧ ∀ j : Int, 0 ≤ j → j < 56 → D' (g + 2) j.toNat = els (D (g + 2) j.toNat) 5) := by
  refine Sx.un (y := 21) (n := 0) (lo := [vR g, vU]) (st := []) (u := (0, 0)) ?_
  refine go_21_0 ?_
  simp only [sg_21_0, cl_I, cl_L, cl_R, e_iconst, e_istore_n, e_nil, l_st1, lc_lt, lc_le, lc_gt, lc_ge, lc_eq, true_and, and_true, List.length_cons, List.length_nil, ab_ia, Nat.reduceAdd, Nat.reduceLeDiff, Nat.reduceEqDiff, Nat.reduceLT, Int.reduceLT, Int.reduceLE, Int.reduceEq, Int.reduceNeg, true_or, or_true, false_or, or_false, not_false_eq_true, not_true_eq_false, false_implies, true_implies, forall_const, implies_true, Nat.zero_le, Nat.le_refl]
  refine g_fill_l1 hg hs hl (fun D' hf h8 h2 x => ?_) 8 0 D (by omega) (by omega) frG.refl (fun j j0 j1 => absurd j1 (by omega)) (fun _ _ => rfl) rfl
  refine go_21_20 ?_
  simp only [sg_21_20, cl_I, cl_L, cl_R, e_iconst, e_istore_n, e_nil, l_st1, lc_lt, lc_le, lc_gt, lc_ge, lc_eq, true_and, and_true, List.length_cons, List.length_nil, ab_ia, Nat.reduceAdd, Nat.reduceLeDiff, Nat.reduceEqDiff, Nat.reduceLT, Int.reduceLT, Int.reduceLE, Int.reduceEq, Int.reduceNeg, true_or, or_true, false_or, or_false, not_false_eq_true, not_true_eq_false, false_implies, true_implies, forall_const, implies_true, Nat.zero_le, Nat.le_refl]
  exact g_fill_l2 hg hl (fun D'' hf' h8' h56 => retV ⟨hf', h8', h56⟩) 56 0 D' (by omega) (by omega) hf h8 (fun j j0 j1 => absurd j1 (by omega)) (fun j _ => by rw [h2])
theorem g_becomes : CV 20 [vR 6, vR 3] (EE L, D) (fun D' => frG 6 D D' ∧ (∀ j : Int, 0 ≤ j → j < 8 → D' 7 j.toNat = els (D 4 j.toNat) (D 1001 j.toNat)) ∧ ∀ j : Int, 0 ≤ j → j < 56 → D' 8 j.toNat = els (D 5 j.toNat) 5) := by
  refine Sx.un (y := 20) (n := 0) (lo := [vR 6, vR 3]) (st := []) (u := (0, 0)) ?_
  refine go_20_0 ?_
  simp only [sg_20_0, cl_I, cl_L, cl_R, e_aload_n, e_bipush, e_copy, e_cv1, e_get1, e_iconst, e_nil, e_vret, fl_0, fl_I, fl_L, fl_R, l_ldA0, l_ldA1, rk_0, wRef_some, EE_n, EE_s6, EE_r6_0, EE_r6_1, EE_s7, EE_s8, EE_s3, EE_r3_0, EE_r3_1, EE_s4, EE_s5, lc_lt, lc_le, lc_gt, lc_ge, lc_eq, true_and, and_true, List.length_cons, List.length_nil, ab_ia, Nat.reduceAdd, Nat.reduceLeDiff, Nat.reduceEqDiff, Nat.reduceLT, Int.reduceLT, Int.reduceLE, Int.reduceEq, Int.reduceNeg, true_or, or_true, false_or, or_false, not_false_eq_true, not_true_eq_false, false_implies, true_implies, forall_const, implies_true, Nat.zero_le, Nat.le_refl]
  refine ⟨by decide, by decide, ?_⟩
  refine (g_fill isG6 EE_s1001 (by decide)).mono ?_
  rintro D' ⟨h1, h2, h3⟩
  refine retV' ⟨fun a a1 a2 => ?_, fun j j0 j1 => ?_, fun j j0 j1 => ?_⟩
  · rw [h1 a a1 a2, upr_ne a2, upr_ne a1]
  · have e := h2 j j0 j1
    change D' 7 j.toNat = els (upr (upr D 7 _) 8 _ 7 j.toNat) (upr (upr D 7 _) 8 _ 1001 j.toNat) at e
    rw [e, upr_ne (a' := 7) (a := 8) (by decide), upr_ne (a' := 1001) (a := 8) (by decide), upr_ne (a' := 1001) (a := 7) (by decide), upr_self, if_pos (by omega), show Int.toNat 0 + (j.toNat - Int.toNat 0) = j.toNat by omega]
  · have e := h3 j j0 j1
    change D' 8 j.toNat = els (upr (upr D 7 _) 8 _ 8 j.toNat) 5 at e
    rw [e, upr_self, if_pos (by omega), upr_ne (by decide), show Int.toNat 0 + (j.toNat - Int.toNat 0) = j.toNat by omega]
end Fill

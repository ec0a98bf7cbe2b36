/-! the class's reader: what a byte does -/
/-- a row has a cell that isn't told; so has some row -/
def hcIn (n : Int) (C : Int → Int) (r : Int) : Prop := ∃ c, 0 ≤ c ∧ c < n ∧ C (10 * r + c) = -1
def hcAny (n : Int) (C : Int → Int) : Prop := ∃ r, 0 ≤ r ∧ r < n ∧ hcIn n C r
def hwd (N : Int → Int) : Prop := N 5 = -1 ∨ N 6 = -1 ∨ N 7 = -1
def nOf (b : Int) : Int := if b = 77 then 1 else if b = 67 then 2 else if b = 66 then 3 else if b = 73 then 4 else -9
def st1 (f : Int → Int) (i z : Int) : Int → Int := fun j => if j = i then z else f j
theorem nOf_bd {b : Int} : nOf b = -9 ∨ (1 ≤ nOf b ∧ nOf b ≤ 4) := by
  unfold nOf
  repeat' split
  all_goals omega
/-- what the reader has read -/
def rg (D : ab_D) (N C : Int → Int) : Prop := (∀ j : Int, 0 ≤ j → j < 8 → D 4 j.toNat = N j) ∧ ∀ a : Int, 0 ≤ a → a < 56 → D 5 a.toNat = C a
def frR (D D' : ab_D) : Prop := ∀ a, a ≠ 2 → a ≠ 4 → a ≠ 5 → D' a = D a
theorem frR.refl {D : ab_D} : frR D D := fun _ _ _ _ => rfl
theorem frR.trans {D D' D'' : ab_D} (h : frR D D') (k : frR D' D'') : frR D D'' := fun a h1 h2 h3 => (k a h1 h2 h3).trans (h a h1 h2 h3)
theorem frR_ups {b i : Nat} {z : Int} {D D' : ab_D} (hb : b = 2 ∨ b = 4 ∨ b = 5) (h : frR D D') : frR D (ups D' b i z) := fun a h1 h2 h3 => by
  funext j
  rw [ups_ne1 (by omega), h a h1 h2 h3]
section Reader
variable {L : Nat} {D : ab_D} {N C : Int → Int}
theorem rg_u2 {i : Nat} {z : Int} (hr : rg D N C) : rg (ups D 2 i z) N C := ⟨fun j a b => by rw [ups_ne1 (by decide)]; exact hr.1 j a b, fun j a b => by rw [ups_ne1 (by decide)]; exact hr.2 j a b⟩
theorem rg_u4 {i z : Int} (hi : 0 ≤ i) (hr : rg D N C) : rg (ups D 4 i.toNat z) (st1 N i z) C := ⟨fun j a b => by
  unfold st1
  by_cases q : j = i
  · subst q; rw [ups_self, if_pos rfl]
  · rw [ups_ne2 (by omega), if_neg q]; exact hr.1 j a b, fun j a b => by rw [ups_ne1 (by decide)]; exact hr.2 j a b⟩
theorem rg_u5 {i z : Int} (hi : 0 ≤ i) (hr : rg D N C) : rg (ups D 5 i.toNat z) N (st1 C i z) := ⟨fun j a b => by rw [ups_ne1 (by decide)]; exact hr.1 j a b, fun j a b => by
  unfold st1
  by_cases q : j = i
  · subst q; rw [ups_self, if_pos rfl]
  · rw [ups_ne2 (by omega), if_neg q]; exact hr.2 j a b⟩
theorem r_isUntold {j : Int} (hr : rg D N C) : CB 39 [vR 2, vI j] (EE L) D ((0 ≤ j ∧ j < 8) ∧ N j = -1) := by
  refine Sx.un (y := 39) (n := 0) (lo := [vR 2, vI j]) (st := []) (u := (0, 0)) ?_
  refine go_39_0 ?_
  simp only [sg_39_0, cl_I, cl_L, cl_R, e_aload_n, e_bipush, e_get1, e_goto, e_iaload, e_icmp_ge, e_icmp_ne, e_iconst, e_if_lt, e_iload_n, e_nil, l_ld1, l_ldA0, wRef_some, EE_n, EE_r2_0, EE_r3_0, EE_s2, EE_s3, EE_s4, lc_lt, lc_le, lc_gt, lc_ge, lc_eq, true_and, and_true, List.length_cons, List.length_nil, ab_ia, Nat.reduceAdd, Nat.reduceLeDiff, Nat.reduceEqDiff, Nat.reduceLT, Int.reduceLT, Int.reduceLE, Int.reduceEq, Int.reduceNeg, true_or, or_true, false_or, or_false, not_false_eq_true, not_true_eq_false, false_implies, true_implies, forall_const, implies_true, Nat.zero_le, Nat.le_refl]
  refine ⟨fun h1 => ?_, fun h1 => ⟨fun h2 => ?_, fun h2 => ?_⟩⟩
  · refine go_39_14 ?_
    simp only [sg_39_14, cl_I, cl_L, cl_R, e_iconst, e_iret1, e_nil, lc_lt, lc_le, lc_gt, lc_ge, lc_eq, true_and, and_true, List.length_cons, List.length_nil, ab_ia, Nat.reduceAdd, Nat.reduceLeDiff, Nat.reduceEqDiff, Nat.reduceLT, Int.reduceLT, Int.reduceLE, Int.reduceEq, Int.reduceNeg, true_or, or_true, false_or, or_false, not_false_eq_true, not_true_eq_false, false_implies, true_implies, forall_const, implies_true, Nat.zero_le, Nat.le_refl]
    exact retB0 (by omega)
  · refine go_39_14 ?_
    simp only [sg_39_14, cl_I, cl_L, cl_R, e_iconst, e_iret1, e_nil, lc_lt, lc_le, lc_gt, lc_ge, lc_eq, true_and, and_true, List.length_cons, List.length_nil, ab_ia, Nat.reduceAdd, Nat.reduceLeDiff, Nat.reduceEqDiff, Nat.reduceLT, Int.reduceLT, Int.reduceLE, Int.reduceEq, Int.reduceNeg, true_or, or_true, false_or, or_false, not_false_eq_true, not_true_eq_false, false_implies, true_implies, forall_const, implies_true, Nat.zero_le, Nat.le_refl]
    exact retB0 (by omega)
  · rw [hr.1 j (by omega) (by omega)]
    refine ⟨by omega, fun h3 => ?_, fun h3 => ?_⟩
    · refine go_39_14 ?_
      simp only [sg_39_14, cl_I, cl_L, cl_R, e_iconst, e_iret1, e_nil, lc_lt, lc_le, lc_gt, lc_ge, lc_eq, true_and, and_true, List.length_cons, List.length_nil, ab_ia, Nat.reduceAdd, Nat.reduceLeDiff, Nat.reduceEqDiff, Nat.reduceLT, Int.reduceLT, Int.reduceLE, Int.reduceEq, Int.reduceNeg, true_or, or_true, false_or, or_false, not_false_eq_true, not_true_eq_false, false_implies, true_implies, forall_const, implies_true, Nat.zero_le, Nat.le_refl]
      exact retB0 (fun q => h3 q.2)
    · refine go_39_15 ?_
      simp only [sg_39_15, cl_I, cl_L, cl_R, e_iret1, e_nil, lc_lt, lc_le, lc_gt, lc_ge, lc_eq, true_and, and_true, List.length_cons, List.length_nil, ab_ia, Nat.reduceAdd, Nat.reduceLeDiff, Nat.reduceEqDiff, Nat.reduceLT, Int.reduceLT, Int.reduceLE, Int.reduceEq, Int.reduceNeg, true_or, or_true, false_or, or_false, not_false_eq_true, not_true_eq_false, false_implies, true_implies, forall_const, implies_true, Nat.zero_le, Nat.le_refl]
      exact retB1 ⟨by omega, by omega⟩
theorem r_hasWood (hr : rg D N C) : CB 40 [vR 2] (EE L) D (hwd N) := by
  have yes : hwd N → Sx 40 12 [vR 2] [] (EE L, D) (0, 0) (fun r h' => ∃ x D', r = some (.inl x) ∧ h' = (EE L, D') ∧ ((hwd N ∧ x = 1) ∨ (¬ hwd N ∧ x = 0)) ∧ D' = D) := by
    intro q
    refine go_40_12 ?_
    simp only [sg_40_12, cl_I, cl_L, cl_R, e_goto, e_iconst, e_nil, lc_lt, lc_le, lc_gt, lc_ge, lc_eq, true_and, and_true, List.length_cons, List.length_nil, ab_ia, Nat.reduceAdd, Nat.reduceLeDiff, Nat.reduceEqDiff, Nat.reduceLT, Int.reduceLT, Int.reduceLE, Int.reduceEq, Int.reduceNeg, true_or, or_true, false_or, or_false, not_false_eq_true, not_true_eq_false, false_implies, true_implies, forall_const, implies_true, Nat.zero_le, Nat.le_refl]
    refine go_40_15 ?_
    simp only [sg_40_15, cl_I, cl_L, cl_R, e_iret1, e_nil, lc_lt, lc_le, lc_gt, lc_ge, lc_eq, true_and, and_true, List.length_cons, List.length_nil, ab_ia, Nat.reduceAdd, Nat.reduceLeDiff, Nat.reduceEqDiff, Nat.reduceLT, Int.reduceLT, Int.reduceLE, Int.reduceEq, Int.reduceNeg, true_or, or_true, false_or, or_false, not_false_eq_true, not_true_eq_false, false_implies, true_implies, forall_const, implies_true, Nat.zero_le, Nat.le_refl]
    exact retB1 q
  refine Sx.un (y := 40) (n := 0) (lo := [vR 2]) (st := []) (u := (0, 0)) ?_
  refine go_40_0 ?_
  simp only [sg_40_0, cl_I, cl_L, cl_R, e_aload_n, e_bipush, e_cv2, e_goto, e_iconst, e_if_eq, e_if_ne, e_nil, fl_0, fl_I, fl_L, fl_R, l_ldA0, rk_1, EE_n, EE_s2, lc_lt, lc_le, lc_gt, lc_ge, lc_eq, true_and, and_true, List.length_cons, List.length_nil, ab_ia, Nat.reduceAdd, Nat.reduceLeDiff, Nat.reduceEqDiff, Nat.reduceLT, Int.reduceLT, Int.reduceLE, Int.reduceEq, Int.reduceNeg, true_or, or_true, false_or, or_false, not_false_eq_true, not_true_eq_false, false_implies, true_implies, forall_const, implies_true, Nat.zero_le, Nat.le_refl]
  refine CB.use (r_isUntold hr) (fun h1 => ?_) (fun h1 => ?_)
  · try simp only [lc_lt, lc_le, lc_gt, lc_ge, lc_eq, true_and, and_true, List.length_cons, List.length_nil, ab_ia, Nat.reduceAdd, Nat.reduceLeDiff, Nat.reduceEqDiff, Nat.reduceLT, Int.reduceLT, Int.reduceLE, Int.reduceEq, Int.reduceNeg, true_or, or_true, false_or, or_false, not_false_eq_true, not_true_eq_false, false_implies, true_implies, forall_const, implies_true, Nat.zero_le, Nat.le_refl]
    exact yes (Or.inl h1.2)
  · try simp only [EE_n, EE_s2, lc_lt, lc_le, lc_gt, lc_ge, lc_eq, true_and, and_true, List.length_cons, List.length_nil, ab_ia, Nat.reduceAdd, Nat.reduceLeDiff, Nat.reduceEqDiff, Nat.reduceLT, Int.reduceLT, Int.reduceLE, Int.reduceEq, Int.reduceNeg, true_or, or_true, false_or, or_false, not_false_eq_true, not_true_eq_false, false_implies, true_implies, forall_const, implies_true, Nat.zero_le, Nat.le_refl]
    refine CB.use (r_isUntold hr) (fun h2 => ?_) (fun h2 => ?_)
    · try simp only [lc_lt, lc_le, lc_gt, lc_ge, lc_eq, true_and, and_true, List.length_cons, List.length_nil, ab_ia, Nat.reduceAdd, Nat.reduceLeDiff, Nat.reduceEqDiff, Nat.reduceLT, Int.reduceLT, Int.reduceLE, Int.reduceEq, Int.reduceNeg, true_or, or_true, false_or, or_false, not_false_eq_true, not_true_eq_false, false_implies, true_implies, forall_const, implies_true, Nat.zero_le, Nat.le_refl]
      exact yes (Or.inr (Or.inl h2.2))
    · try simp only [EE_n, EE_s2, lc_lt, lc_le, lc_gt, lc_ge, lc_eq, true_and, and_true, List.length_cons, List.length_nil, ab_ia, Nat.reduceAdd, Nat.reduceLeDiff, Nat.reduceEqDiff, Nat.reduceLT, Int.reduceLT, Int.reduceLE, Int.reduceEq, Int.reduceNeg, true_or, or_true, false_or, or_false, not_false_eq_true, not_true_eq_false, false_implies, true_implies, forall_const, implies_true, Nat.zero_le, Nat.le_refl]
      refine CB.use (r_isUntold hr) (fun h3 => ?_) (fun h3 => ?_)
      · try simp only [lc_lt, lc_le, lc_gt, lc_ge, lc_eq, true_and, and_true, List.length_cons, List.length_nil, ab_ia, Nat.reduceAdd, Nat.reduceLeDiff, Nat.reduceEqDiff, Nat.reduceLT, Int.reduceLT, Int.reduceLE, Int.reduceEq, Int.reduceNeg, true_or, or_true, false_or, or_false, not_false_eq_true, not_true_eq_false, false_implies, true_implies, forall_const, implies_true, Nat.zero_le, Nat.le_refl]
        refine go_40_15 ?_
        simp only [sg_40_15, cl_I, cl_L, cl_R, e_iret1, e_nil, lc_lt, lc_le, lc_gt, lc_ge, lc_eq, true_and, and_true, List.length_cons, List.length_nil, ab_ia, Nat.reduceAdd, Nat.reduceLeDiff, Nat.reduceEqDiff, Nat.reduceLT, Int.reduceLT, Int.reduceLE, Int.reduceEq, Int.reduceNeg, true_or, or_true, false_or, or_false, not_false_eq_true, not_true_eq_false, false_implies, true_implies, forall_const, implies_true, Nat.zero_le, Nat.le_refl]
        exact retB1 (Or.inr (Or.inr h3.2))
      · try simp only [lc_lt, lc_le, lc_gt, lc_ge, lc_eq, true_and, and_true, List.length_cons, List.length_nil, ab_ia, Nat.reduceAdd, Nat.reduceLeDiff, Nat.reduceEqDiff, Nat.reduceLT, Int.reduceLT, Int.reduceLE, Int.reduceEq, Int.reduceNeg, true_or, or_true, false_or, or_false, not_false_eq_true, not_true_eq_false, false_implies, true_implies, forall_const, implies_true, Nat.zero_le, Nat.le_refl]
        refine go_40_14 ?_
        simp only [sg_40_14, cl_I, cl_L, cl_R, e_iconst, e_iret1, e_nil, lc_lt, lc_le, lc_gt, lc_ge, lc_eq, true_and, and_true, List.length_cons, List.length_nil, ab_ia, Nat.reduceAdd, Nat.reduceLeDiff, Nat.reduceEqDiff, Nat.reduceLT, Int.reduceLT, Int.reduceLE, Int.reduceEq, Int.reduceNeg, true_or, or_true, false_or, or_false, not_false_eq_true, not_true_eq_false, false_implies, true_implies, forall_const, implies_true, Nat.zero_le, Nat.le_refl]
        refine retB0 ?_
        rintro (q | q | q)
        · exact h1 ⟨by omega, q⟩
        · exact h2 ⟨by omega, q⟩
        · exact h3 ⟨by omega, q⟩
theorem r_hcIn_loop {Q : Option ab_V → ab_H → Prop} {r : Int} (hr : rg D N C) (h0 : 0 ≤ r ∧ r < N 0) (hn : 2 ≤ N 0 ∧ N 0 ≤ 6) (q1 : hcIn (N 0) C r → Q (some (.inl 1)) (EE L, D)) (q0 : ¬ hcIn (N 0) C r → Q (some (.inl 0)) (EE L, D)) :
    ∀ (t : Nat) (c : Int), 0 ≤ c → c + t = N 0 → (∀ c', 0 ≤ c' → c' < c → C (10 * r + c') ≠ -1) → Sx 42 2 [vR 2, vI r, vI c] [] (EE L, D) (0, 0) Q := by
  have e0 : D 4 0 = N 0 := hr.1 0 (by omega) (by omega)
  intro t
  induction t with
  | zero =>
    intro c c0 ht hi
    refine go_42_2 ?_
    simp only [sg_42_2, cl_I, cl_L, cl_R, e_aload_n, e_bipush, e_get1, e_iadd, e_iaload, e_icmp_ge, e_icmp_ne, e_iconst, e_iload_n, e_imul, e_iret1, e_nil, l_ld1, l_ld2, l_ldA0, wRef_some, EE_n, EE_r2_0, EE_r3_0, EE_r3_1, EE_s2, EE_s3, EE_s4, EE_s5, Int.reduceToNat, e0, lc_lt, lc_le, lc_gt, lc_ge, lc_eq, true_and, and_true, List.length_cons, List.length_nil, ab_ia, Nat.reduceAdd, Nat.reduceLeDiff, Nat.reduceEqDiff, Nat.reduceLT, Int.reduceLT, Int.reduceLE, Int.reduceEq, Int.reduceNeg, true_or, or_true, false_or, or_false, not_false_eq_true, not_true_eq_false, false_implies, true_implies, forall_const, implies_true, Nat.zero_le, Nat.le_refl]
    refine ⟨by omega, fun _ => ?_, fun hc => absurd hc (by omega)⟩
    refine go_42_24 ?_
    simp only [sg_42_24, cl_I, cl_L, cl_R, e_iconst, e_iret1, e_nil, lc_lt, lc_le, lc_gt, lc_ge, lc_eq, true_and, and_true, List.length_cons, List.length_nil, ab_ia, Nat.reduceAdd, Nat.reduceLeDiff, Nat.reduceEqDiff, Nat.reduceLT, Int.reduceLT, Int.reduceLE, Int.reduceEq, Int.reduceNeg, true_or, or_true, false_or, or_false, not_false_eq_true, not_true_eq_false, false_implies, true_implies, forall_const, implies_true, Nat.zero_le, Nat.le_refl]
    refine q0 ?_
    rintro ⟨c', a1, a2, a3⟩
    exact hi c' a1 (by omega) a3
  | succ t ih =>
    intro c c0 ht hi
    refine go_42_2 ?_
    simp only [sg_42_2, cl_I, cl_L, cl_R, e_aload_n, e_bipush, e_get1, e_iadd, e_iaload, e_icmp_ge, e_icmp_ne, e_iconst, e_iload_n, e_imul, e_iret1, e_nil, l_ld1, l_ld2, l_ldA0, wRef_some, EE_n, EE_r2_0, EE_r3_0, EE_r3_1, EE_s2, EE_s3, EE_s4, EE_s5, Int.reduceToNat, e0, lc_lt, lc_le, lc_gt, lc_ge, lc_eq, true_and, and_true, List.length_cons, List.length_nil, ab_ia, Nat.reduceAdd, Nat.reduceLeDiff, Nat.reduceEqDiff, Nat.reduceLT, Int.reduceLT, Int.reduceLE, Int.reduceEq, Int.reduceNeg, true_or, or_true, false_or, or_false, not_false_eq_true, not_true_eq_false, false_implies, true_implies, forall_const, implies_true, Nat.zero_le, Nat.le_refl]
    refine ⟨by omega, fun hc => absurd hc (by omega), fun _ => ⟨⟨by omega, by omega⟩, ⟨by omega, by omega⟩, by omega, ?_⟩⟩
    rw [hr.2 (10 * r + c) (by omega) (by omega)]
    refine ⟨fun h1 => ?_, fun h1 => ?_⟩
    · refine go_42_22 ?_
      simp only [sg_42_22, cl_I, cl_L, cl_R, e_goto, e_iinc, e_nil, l_inc2, lc_lt, lc_le, lc_gt, lc_ge, lc_eq, true_and, and_true, List.length_cons, List.length_nil, ab_ia, Nat.reduceAdd, Nat.reduceLeDiff, Nat.reduceEqDiff, Nat.reduceLT, Int.reduceLT, Int.reduceLE, Int.reduceEq, Int.reduceNeg, true_or, or_true, false_or, or_false, not_false_eq_true, not_true_eq_false, false_implies, true_implies, forall_const, implies_true, Nat.zero_le, Nat.le_refl]
      refine ⟨⟨by omega, by omega⟩, ih (c + 1) (by omega) (by omega) (fun c' a0 a1 => ?_)⟩
      by_cases z : c' = c
      · subst z; exact h1
      · exact hi c' a0 (by omega)
    · exact q1 ⟨c, c0, by omega, Decidable.not_not.mp h1⟩
theorem r_hcIn {r : Int} (hr : rg D N C) (h0 : 0 ≤ r ∧ r < N 0) (hn : 2 ≤ N 0 ∧ N 0 ≤ 6) : CB 42 [vR 2, vI r] (EE L) D (hcIn (N 0) C r) := by
  refine Sx.un (y := 42) (n := 0) (lo := [vR 2, vI r, vU]) (st := []) (u := (0, 0)) ?_
  refine go_42_0 ?_
  simp only [sg_42_0, cl_I, cl_L, cl_R, e_iconst, e_istore_n, e_nil, l_st2, lc_lt, lc_le, lc_gt, lc_ge, lc_eq, true_and, and_true, List.length_cons, List.length_nil, ab_ia, Nat.reduceAdd, Nat.reduceLeDiff, Nat.reduceEqDiff, Nat.reduceLT, Int.reduceLT, Int.reduceLE, Int.reduceEq, Int.reduceNeg, true_or, or_true, false_or, or_false, not_false_eq_true, not_true_eq_false, false_implies, true_implies, forall_const, implies_true, Nat.zero_le, Nat.le_refl]
  exact r_hcIn_loop hr h0 hn (fun q => retB1 q) (fun q => retB0 q) (N 0).toNat 0 (by omega) (by omega) (fun c' a0 a1 => absurd a1 (by omega))
theorem r_hcAny_loop {Q : Option ab_V → ab_H → Prop} (hr : rg D N C) (hn : 2 ≤ N 0 ∧ N 0 ≤ 6) (q1 : hcAny (N 0) C → Q (some (.inl 1)) (EE L, D)) (q0 : ¬ hcAny (N 0) C → Q (some (.inl 0)) (EE L, D)) :
    ∀ (t : Nat) (r : Int), 0 ≤ r → r + t = N 0 → (∀ r', 0 ≤ r' → r' < r → ¬ hcIn (N 0) C r') → Sx 41 2 [vR 2, vI r] [] (EE L, D) (0, 0) Q := by
  have e0 : D 4 0 = N 0 := hr.1 0 (by omega) (by omega)
  intro t
  induction t with
  | zero =>
    intro r c0 ht hi
    refine go_41_2 ?_
    simp only [sg_41_2, cl_I, cl_L, cl_R, e_aload_n, e_cv2, e_get1, e_iaload, e_icmp_ge, e_iconst, e_if_eq, e_iload_n, e_iret1, e_nil, fl_0, fl_I, fl_L, fl_R, l_ld1, l_ldA0, rk_1, wRef_some, EE_n, EE_r2_0, EE_r3_0, EE_s2, EE_s3, EE_s4, Int.reduceToNat, e0, lc_lt, lc_le, lc_gt, lc_ge, lc_eq, true_and, and_true, List.length_cons, List.length_nil, ab_ia, Nat.reduceAdd, Nat.reduceLeDiff, Nat.reduceEqDiff, Nat.reduceLT, Int.reduceLT, Int.reduceLE, Int.reduceEq, Int.reduceNeg, true_or, or_true, false_or, or_false, not_false_eq_true, not_true_eq_false, false_implies, true_implies, forall_const, implies_true, Nat.zero_le, Nat.le_refl]
    refine ⟨by omega, fun _ => ?_, fun hc => absurd hc (by omega)⟩
    refine go_41_17 ?_
    simp only [sg_41_17, cl_I, cl_L, cl_R, e_iconst, e_iret1, e_nil, lc_lt, lc_le, lc_gt, lc_ge, lc_eq, true_and, and_true, List.length_cons, List.length_nil, ab_ia, Nat.reduceAdd, Nat.reduceLeDiff, Nat.reduceEqDiff, Nat.reduceLT, Int.reduceLT, Int.reduceLE, Int.reduceEq, Int.reduceNeg, true_or, or_true, false_or, or_false, not_false_eq_true, not_true_eq_false, false_implies, true_implies, forall_const, implies_true, Nat.zero_le, Nat.le_refl]
    refine q0 ?_
    rintro ⟨c', a1, a2, a3⟩
    exact hi c' a1 (by omega) a3
  | succ t ih =>
    intro r c0 ht hi
    refine go_41_2 ?_
    simp only [sg_41_2, cl_I, cl_L, cl_R, e_aload_n, e_cv2, e_get1, e_iaload, e_icmp_ge, e_iconst, e_if_eq, e_iload_n, e_iret1, e_nil, fl_0, fl_I, fl_L, fl_R, l_ld1, l_ldA0, rk_1, wRef_some, EE_n, EE_r2_0, EE_r3_0, EE_s2, EE_s3, EE_s4, Int.reduceToNat, e0, lc_lt, lc_le, lc_gt, lc_ge, lc_eq, true_and, and_true, List.length_cons, List.length_nil, ab_ia, Nat.reduceAdd, Nat.reduceLeDiff, Nat.reduceEqDiff, Nat.reduceLT, Int.reduceLT, Int.reduceLE, Int.reduceEq, Int.reduceNeg, true_or, or_true, false_or, or_false, not_false_eq_true, not_true_eq_false, false_implies, true_implies, forall_const, implies_true, Nat.zero_le, Nat.le_refl]
    refine ⟨by omega, fun hc => absurd hc (by omega), fun _ => ?_⟩
    refine CB.use (r_hcIn hr (by omega) hn) (fun h1 => ?_) (fun h1 => ?_)
    · try simp only [lc_lt, lc_le, lc_gt, lc_ge, lc_eq, true_and, and_true, List.length_cons, List.length_nil, ab_ia, Nat.reduceAdd, Nat.reduceLeDiff, Nat.reduceEqDiff, Nat.reduceLT, Int.reduceLT, Int.reduceLE, Int.reduceEq, Int.reduceNeg, true_or, or_true, false_or, or_false, not_false_eq_true, not_true_eq_false, false_implies, true_implies, forall_const, implies_true, Nat.zero_le, Nat.le_refl]
      exact q1 ⟨r, c0, by omega, h1⟩
    · try simp only [lc_lt, lc_le, lc_gt, lc_ge, lc_eq, true_and, and_true, List.length_cons, List.length_nil, ab_ia, Nat.reduceAdd, Nat.reduceLeDiff, Nat.reduceEqDiff, Nat.reduceLT, Int.reduceLT, Int.reduceLE, Int.reduceEq, Int.reduceNeg, true_or, or_true, false_or, or_false, not_false_eq_true, not_true_eq_false, false_implies, true_implies, forall_const, implies_true, Nat.zero_le, Nat.le_refl]
      refine go_41_15 ?_
      simp only [sg_41_15, cl_I, cl_L, cl_R, e_goto, e_iinc, e_nil, l_inc1, lc_lt, lc_le, lc_gt, lc_ge, lc_eq, true_and, and_true, List.length_cons, List.length_nil, ab_ia, Nat.reduceAdd, Nat.reduceLeDiff, Nat.reduceEqDiff, Nat.reduceLT, Int.reduceLT, Int.reduceLE, Int.reduceEq, Int.reduceNeg, true_or, or_true, false_or, or_false, not_false_eq_true, not_true_eq_false, false_implies, true_implies, forall_const, implies_true, Nat.zero_le, Nat.le_refl]
      refine ⟨⟨by omega, by omega⟩, ih (r + 1) (by omega) (by omega) (fun r' a0 a1 => ?_)⟩
      by_cases z : r' = r
      · subst z; exact h1
      · exact hi r' a0 (by omega)
theorem r_hcAny (hr : rg D N C) (hn : 2 ≤ N 0 ∧ N 0 ≤ 6) : CB 41 [vR 2] (EE L) D (hcAny (N 0) C) := by
  refine Sx.un (y := 41) (n := 0) (lo := [vR 2, vU]) (st := []) (u := (0, 0)) ?_
  refine go_41_0 ?_
  simp only [sg_41_0, cl_I, cl_L, cl_R, e_iconst, e_istore_n, e_nil, l_st1, lc_lt, lc_le, lc_gt, lc_ge, lc_eq, true_and, and_true, List.length_cons, List.length_nil, ab_ia, Nat.reduceAdd, Nat.reduceLeDiff, Nat.reduceEqDiff, Nat.reduceLT, Int.reduceLT, Int.reduceLE, Int.reduceEq, Int.reduceNeg, true_or, or_true, false_or, or_false, not_false_eq_true, not_true_eq_false, false_implies, true_implies, forall_const, implies_true, Nat.zero_le, Nat.le_refl]
  exact r_hcAny_loop hr hn (fun q => retB1 q) (fun q => retB0 q) (N 0).toNat 0 (by omega) (by omega) (fun c' a0 a1 => absurd a1 (by omega))
theorem r_numberOf {E : ab_E} {b : Int} : CI 38 [vI b] (E, D) (fun r D' => r = nOf b ∧ D' = D) := by
  refine Sx.un (y := 38) (n := 0) (lo := [vI b]) (st := []) (u := (0, 0)) ?_
  refine go_38_0 ?_
  simp only [sg_38_0, cl_I, cl_L, cl_R, e_iload_n, e_lk, e_lk0, e_lk1, e_nil, l_ld0, lc_lt, lc_le, lc_gt, lc_ge, lc_eq, true_and, and_true, List.length_cons, List.length_nil, ab_ia, Nat.reduceAdd, Nat.reduceLeDiff, Nat.reduceEqDiff, Nat.reduceLT, Int.reduceLT, Int.reduceLE, Int.reduceEq, Int.reduceNeg, true_or, or_true, false_or, or_false, not_false_eq_true, not_true_eq_false, false_implies, true_implies, forall_const, implies_true, Nat.zero_le, Nat.le_refl]
  refine ⟨fun h1 => ?_, fun h1 => ⟨fun h2 => ?_, fun h2 => ⟨fun h3 => ?_, fun h3 => ⟨fun h4 => ?_, fun h4 => ?_⟩⟩⟩⟩
  · subst h1
    refine go_38_6 ?_
    simp only [sg_38_6, cl_I, cl_L, cl_R, e_iconst, e_iret0, e_nil, lc_lt, lc_le, lc_gt, lc_ge, lc_eq, true_and, and_true, List.length_cons, List.length_nil, ab_ia, Nat.reduceAdd, Nat.reduceLeDiff, Nat.reduceEqDiff, Nat.reduceLT, Int.reduceLT, Int.reduceLE, Int.reduceEq, Int.reduceNeg, true_or, or_true, false_or, or_false, not_false_eq_true, not_true_eq_false, false_implies, true_implies, forall_const, implies_true, Nat.zero_le, Nat.le_refl]
    exact retI ⟨by decide, rfl⟩
  · subst h2
    refine go_38_4 ?_
    simp only [sg_38_4, cl_I, cl_L, cl_R, e_iconst, e_iret0, e_nil, lc_lt, lc_le, lc_gt, lc_ge, lc_eq, true_and, and_true, List.length_cons, List.length_nil, ab_ia, Nat.reduceAdd, Nat.reduceLeDiff, Nat.reduceEqDiff, Nat.reduceLT, Int.reduceLT, Int.reduceLE, Int.reduceEq, Int.reduceNeg, true_or, or_true, false_or, or_false, not_false_eq_true, not_true_eq_false, false_implies, true_implies, forall_const, implies_true, Nat.zero_le, Nat.le_refl]
    exact retI ⟨by decide, rfl⟩
  · subst h3
    refine go_38_8 ?_
    simp only [sg_38_8, cl_I, cl_L, cl_R, e_iconst, e_iret0, e_nil, lc_lt, lc_le, lc_gt, lc_ge, lc_eq, true_and, and_true, List.length_cons, List.length_nil, ab_ia, Nat.reduceAdd, Nat.reduceLeDiff, Nat.reduceEqDiff, Nat.reduceLT, Int.reduceLT, Int.reduceLE, Int.reduceEq, Int.reduceNeg, true_or, or_true, false_or, or_false, not_false_eq_true, not_true_eq_false, false_implies, true_implies, forall_const, implies_true, Nat.zero_le, Nat.le_refl]
    exact retI ⟨by decide, rfl⟩
  · subst h4
    refine go_38_2 ?_
    simp only [sg_38_2, cl_I, cl_L, cl_R, e_iconst, e_iret0, e_nil, lc_lt, lc_le, lc_gt, lc_ge, lc_eq, true_and, and_true, List.length_cons, List.length_nil, ab_ia, Nat.reduceAdd, Nat.reduceLeDiff, Nat.reduceEqDiff, Nat.reduceLT, Int.reduceLT, Int.reduceLE, Int.reduceEq, Int.reduceNeg, true_or, or_true, false_or, or_false, not_false_eq_true, not_true_eq_false, false_implies, true_implies, forall_const, implies_true, Nat.zero_le, Nat.le_refl]
    exact retI ⟨by decide, rfl⟩
  · refine go_38_10 ?_
    simp only [sg_38_10, cl_I, cl_L, cl_R, e_bipush, e_iret0, e_nil, lc_lt, lc_le, lc_gt, lc_ge, lc_eq, true_and, and_true, List.length_cons, List.length_nil, ab_ia, Nat.reduceAdd, Nat.reduceLeDiff, Nat.reduceEqDiff, Nat.reduceLT, Int.reduceLT, Int.reduceLE, Int.reduceEq, Int.reduceNeg, true_or, or_true, false_or, or_false, not_false_eq_true, not_true_eq_false, false_implies, true_implies, forall_const, implies_true, Nat.zero_le, Nat.le_refl]
    exact retI ⟨by unfold nOf; rw [if_neg h4, if_neg h2, if_neg h1, if_neg h3], rfl⟩
theorem r_ends (hp : 0 ≤ D 2 1 ∧ D 2 1 ≤ 100) : CI 37 [vR 2] (EE L, D) (fun r D' => r = 1 ∧ D' = ups (ups D 2 2 0) 2 1 (D 2 1 + 1)) := by
  have e : ups D 2 2 0 2 1 = D 2 1 := ups_ne2 (by decide)
  refine Sx.un (y := 37) (n := 0) (lo := [vR 2]) (st := []) (u := (0, 0)) ?_
  refine go_37_0 ?_
  simp only [sg_37_0, cl_I, cl_L, cl_R, e_aload_n, e_dupI, e_dupR, e_get0, e_iadd, e_iconst, e_iret1, e_nil, e_put0, l_ldA0, wRef_some, EE_n, EE_s2, e, lc_lt, lc_le, lc_gt, lc_ge, lc_eq, true_and, and_true, List.length_cons, List.length_nil, ab_ia, Nat.reduceAdd, Nat.reduceLeDiff, Nat.reduceEqDiff, Nat.reduceLT, Int.reduceLT, Int.reduceLE, Int.reduceEq, Int.reduceNeg, true_or, or_true, false_or, or_false, not_false_eq_true, not_true_eq_false, false_implies, true_implies, forall_const, implies_true, Nat.zero_le, Nat.le_refl]
  exact ⟨⟨by omega, by omega⟩, retI ⟨rfl, rfl⟩⟩
theorem r_tells {j f : Int} (hj : 0 ≤ j ∧ j < 8) (hp : 0 ≤ D 2 1 ∧ D 2 1 ≤ 100) : CI 36 [vR 2, vI j, vI f] (EE L, D) (fun r D' => r = 1 ∧ D' = ups (ups (ups D 4 j.toNat f) 2 2 0) 2 1 (D 2 1 + 1)) := by
  have e : ups D 4 j.toNat f 2 1 = D 2 1 := ups_ne1 (by decide)
  refine Sx.un (y := 36) (n := 0) (lo := [vR 2, vI j, vI f]) (st := []) (u := (0, 0)) ?_
  refine go_36_0 ?_
  simp only [sg_36_0, cl_I, cl_L, cl_R, e_bipush, e_icmp_lt, e_iconst, e_if_lt, e_iload_n, e_iret1, e_nil, l_ld1, lc_lt, lc_le, lc_gt, lc_ge, lc_eq, true_and, and_true, List.length_cons, List.length_nil, ab_ia, Nat.reduceAdd, Nat.reduceLeDiff, Nat.reduceEqDiff, Nat.reduceLT, Int.reduceLT, Int.reduceLE, Int.reduceEq, Int.reduceNeg, true_or, or_true, false_or, or_false, not_false_eq_true, not_true_eq_false, false_implies, true_implies, forall_const, implies_true, Nat.zero_le, Nat.le_refl]
  refine ⟨fun h1 => absurd h1 (by omega), fun _ => ⟨fun h2 => ?_, fun h2 => absurd hj.2 h2⟩⟩
  refine go_36_7 ?_
  simp only [sg_36_7, cl_I, cl_L, cl_R, e_aload_n, e_cv1, e_get1, e_iastore, e_iload_n, e_iret1, e_nil, fl_0, fl_I, fl_L, fl_R, l_ld1, l_ld2, l_ldA0, rk_1, wRef_some, EE_n, EE_r2_0, EE_r3_0, EE_s2, EE_s3, EE_s4, lc_lt, lc_le, lc_gt, lc_ge, lc_eq, true_and, and_true, List.length_cons, List.length_nil, ab_ia, Nat.reduceAdd, Nat.reduceLeDiff, Nat.reduceEqDiff, Nat.reduceLT, Int.reduceLT, Int.reduceLE, Int.reduceEq, Int.reduceNeg, true_or, or_true, false_or, or_false, not_false_eq_true, not_true_eq_false, false_implies, true_implies, forall_const, implies_true, Nat.zero_le, Nat.le_refl]
  refine ⟨by omega, ?_⟩
  refine CI.use (r_ends (by rw [e]; exact hp)) ?_
  try simp only [lc_lt, lc_le, lc_gt, lc_ge, lc_eq, true_and, and_true, List.length_cons, List.length_nil, ab_ia, Nat.reduceAdd, Nat.reduceLeDiff, Nat.reduceEqDiff, Nat.reduceLT, Int.reduceLT, Int.reduceLE, Int.reduceEq, Int.reduceNeg, true_or, or_true, false_or, or_false, not_false_eq_true, not_true_eq_false, false_implies, true_implies, forall_const, implies_true, Nat.zero_le, Nat.le_refl]
  refine retI ⟨rfl, ?_⟩
  rw [e]
/-- a byte may begin a part -/
def pO (N C : Int → Int) (pt b : Int) : Prop := (pt = 0 ∧ b = 78) ∨ (pt ≠ 0 ∧ ((b = 68 ∧ hcAny (N 0) C) ∨ (b = 82 ∧ hwd N) ∨ (b ≠ 68 ∧ b ≠ 82 ∧ 0 ≤ nOf b ∧ N (nOf b) = -1)))
theorem r_begins {b pt : Int} (hr : rg D N C) (hp : D 2 1 = pt) (hn : pt ≠ 0 → 2 ≤ N 0 ∧ N 0 ≤ 6) : CI 32 [vR 2, vI b] (EE L, D) (fun r D' => ((pO N C pt b ∧ r = 1) ∨ (¬ pO N C pt b ∧ r = 0)) ∧ D' = ups (ups D 2 2 b) 2 3 0) := by
  have e : ups (ups D 2 2 b) 2 3 0 2 1 = pt := by rw [ups_ne2 (by decide), ups_ne2 (by decide), hp]
  have hr' : rg (ups (ups D 2 2 b) 2 3 0) N C := rg_u2 (rg_u2 hr)
  refine Sx.un (y := 32) (n := 0) (lo := [vR 2, vI b]) (st := []) (u := (0, 0)) ?_
  refine go_32_0 ?_
  simp only [sg_32_0, cl_I, cl_L, cl_R, e_aload_n, e_bipush, e_get0, e_goto, e_icmp_ne, e_iconst, e_if_ne, e_iload_n, e_nil, e_put0, l_ld1, l_ldA0, wRef_some, EE_n, EE_s2, e, lc_lt, lc_le, lc_gt, lc_ge, lc_eq, true_and, and_true, List.length_cons, List.length_nil, ab_ia, Nat.reduceAdd, Nat.reduceLeDiff, Nat.reduceEqDiff, Nat.reduceLT, Int.reduceLT, Int.reduceLE, Int.reduceEq, Int.reduceNeg, true_or, or_true, false_or, or_false, not_false_eq_true, not_true_eq_false, false_implies, true_implies, forall_const, implies_true, Nat.zero_le, Nat.le_refl]
  refine ⟨fun h1 => ?_, fun h1 => ⟨fun h2 => ?_, fun h2 => ?_⟩⟩
  · refine go_32_16 ?_
    simp only [sg_32_16, cl_I, cl_L, cl_R, e_iload_n, e_lk, e_lk0, e_lk1, e_nil, l_ld1, lc_lt, lc_le, lc_gt, lc_ge, lc_eq, true_and, and_true, List.length_cons, List.length_nil, ab_ia, Nat.reduceAdd, Nat.reduceLeDiff, Nat.reduceEqDiff, Nat.reduceLT, Int.reduceLT, Int.reduceLE, Int.reduceEq, Int.reduceNeg, true_or, or_true, false_or, or_false, not_false_eq_true, not_true_eq_false, false_implies, true_implies, forall_const, implies_true, Nat.zero_le, Nat.le_refl]
    refine ⟨fun h2 => ?_, fun h2 => ⟨fun h3 => ?_, fun h3 => ?_⟩⟩
    · refine go_32_18 ?_
      simp only [sg_32_18, cl_I, cl_L, cl_R, e_aload_n, e_cv1, e_iret1, e_nil, fl_0, fl_I, fl_L, fl_R, l_ldA0, rk_1, EE_n, EE_s2, lc_lt, lc_le, lc_gt, lc_ge, lc_eq, true_and, and_true, List.length_cons, List.length_nil, ab_ia, Nat.reduceAdd, Nat.reduceLeDiff, Nat.reduceEqDiff, Nat.reduceLT, Int.reduceLT, Int.reduceLE, Int.reduceEq, Int.reduceNeg, true_or, or_true, false_or, or_false, not_false_eq_true, not_true_eq_false, false_implies, true_implies, forall_const, implies_true, Nat.zero_le, Nat.le_refl]
      refine CB.use (r_hcAny hr' (hn h1)) (fun q => ?_) (fun q => ?_)
      · try simp only [lc_lt, lc_le, lc_gt, lc_ge, lc_eq, true_and, and_true, List.length_cons, List.length_nil, ab_ia, Nat.reduceAdd, Nat.reduceLeDiff, Nat.reduceEqDiff, Nat.reduceLT, Int.reduceLT, Int.reduceLE, Int.reduceEq, Int.reduceNeg, true_or, or_true, false_or, or_false, not_false_eq_true, not_true_eq_false, false_implies, true_implies, forall_const, implies_true, Nat.zero_le, Nat.le_refl]
        exact retI ⟨Or.inl ⟨Or.inr ⟨h1, Or.inl ⟨h2, q⟩⟩, rfl⟩, rfl⟩
      · try simp only [lc_lt, lc_le, lc_gt, lc_ge, lc_eq, true_and, and_true, List.length_cons, List.length_nil, ab_ia, Nat.reduceAdd, Nat.reduceLeDiff, Nat.reduceEqDiff, Nat.reduceLT, Int.reduceLT, Int.reduceLE, Int.reduceEq, Int.reduceNeg, true_or, or_true, false_or, or_false, not_false_eq_true, not_true_eq_false, false_implies, true_implies, forall_const, implies_true, Nat.zero_le, Nat.le_refl]
        refine retI ⟨Or.inr ⟨?_, rfl⟩, rfl⟩
        rintro (z | ⟨_, z | z | z⟩)
        · exact h1 z.1
        · exact q z.2
        · omega
        · exact z.1 h2
    · refine go_32_21 ?_
      simp only [sg_32_21, cl_I, cl_L, cl_R, e_aload_n, e_cv1, e_iret1, e_nil, fl_0, fl_I, fl_L, fl_R, l_ldA0, rk_1, EE_n, EE_s2, lc_lt, lc_le, lc_gt, lc_ge, lc_eq, true_and, and_true, List.length_cons, List.length_nil, ab_ia, Nat.reduceAdd, Nat.reduceLeDiff, Nat.reduceEqDiff, Nat.reduceLT, Int.reduceLT, Int.reduceLE, Int.reduceEq, Int.reduceNeg, true_or, or_true, false_or, or_false, not_false_eq_true, not_true_eq_false, false_implies, true_implies, forall_const, implies_true, Nat.zero_le, Nat.le_refl]
      refine CB.use (r_hasWood hr') (fun q => ?_) (fun q => ?_)
      · try simp only [lc_lt, lc_le, lc_gt, lc_ge, lc_eq, true_and, and_true, List.length_cons, List.length_nil, ab_ia, Nat.reduceAdd, Nat.reduceLeDiff, Nat.reduceEqDiff, Nat.reduceLT, Int.reduceLT, Int.reduceLE, Int.reduceEq, Int.reduceNeg, true_or, or_true, false_or, or_false, not_false_eq_true, not_true_eq_false, false_implies, true_implies, forall_const, implies_true, Nat.zero_le, Nat.le_refl]
        exact retI ⟨Or.inl ⟨Or.inr ⟨h1, Or.inr (Or.inl ⟨h3, q⟩)⟩, rfl⟩, rfl⟩
      · try simp only [lc_lt, lc_le, lc_gt, lc_ge, lc_eq, true_and, and_true, List.length_cons, List.length_nil, ab_ia, Nat.reduceAdd, Nat.reduceLeDiff, Nat.reduceEqDiff, Nat.reduceLT, Int.reduceLT, Int.reduceLE, Int.reduceEq, Int.reduceNeg, true_or, or_true, false_or, or_false, not_false_eq_true, not_true_eq_false, false_implies, true_implies, forall_const, implies_true, Nat.zero_le, Nat.le_refl]
        refine retI ⟨Or.inr ⟨?_, rfl⟩, rfl⟩
        rintro (z | ⟨_, z | z | z⟩)
        · exact h1 z.1
        · omega
        · exact q z.2
        · exact z.2.1 h3
    · refine go_32_24 ?_
      simp only [sg_32_24, cl_I, cl_L, cl_R, e_aload_n, e_cs1, e_cv2, e_iload_n, e_iret1, e_nil, fl_0, fl_I, fl_L, fl_R, l_ld1, l_ldA0, rk_1, EE_n, EE_s2, lc_lt, lc_le, lc_gt, lc_ge, lc_eq, true_and, and_true, List.length_cons, List.length_nil, ab_ia, Nat.reduceAdd, Nat.reduceLeDiff, Nat.reduceEqDiff, Nat.reduceLT, Int.reduceLT, Int.reduceLE, Int.reduceEq, Int.reduceNeg, true_or, or_true, false_or, or_false, not_false_eq_true, not_true_eq_false, false_implies, true_implies, forall_const, implies_true, Nat.zero_le, Nat.le_refl]
      refine CI.use r_numberOf ?_
      try simp only [EE_n, EE_s2, lc_lt, lc_le, lc_gt, lc_ge, lc_eq, true_and, and_true, List.length_cons, List.length_nil, ab_ia, Nat.reduceAdd, Nat.reduceLeDiff, Nat.reduceEqDiff, Nat.reduceLT, Int.reduceLT, Int.reduceLE, Int.reduceEq, Int.reduceNeg, true_or, or_true, false_or, or_false, not_false_eq_true, not_true_eq_false, false_implies, true_implies, forall_const, implies_true, Nat.zero_le, Nat.le_refl]
      refine CB.use (r_isUntold hr') (fun q => ?_) (fun q => ?_)
      · try simp only [lc_lt, lc_le, lc_gt, lc_ge, lc_eq, true_and, and_true, List.length_cons, List.length_nil, ab_ia, Nat.reduceAdd, Nat.reduceLeDiff, Nat.reduceEqDiff, Nat.reduceLT, Int.reduceLT, Int.reduceLE, Int.reduceEq, Int.reduceNeg, true_or, or_true, false_or, or_false, not_false_eq_true, not_true_eq_false, false_implies, true_implies, forall_const, implies_true, Nat.zero_le, Nat.le_refl]
        exact retI ⟨Or.inl ⟨Or.inr ⟨h1, Or.inr (Or.inr ⟨h2, h3, q.1.1, q.2⟩)⟩, rfl⟩, rfl⟩
      · try simp only [lc_lt, lc_le, lc_gt, lc_ge, lc_eq, true_and, and_true, List.length_cons, List.length_nil, ab_ia, Nat.reduceAdd, Nat.reduceLeDiff, Nat.reduceEqDiff, Nat.reduceLT, Int.reduceLT, Int.reduceLE, Int.reduceEq, Int.reduceNeg, true_or, or_true, false_or, or_false, not_false_eq_true, not_true_eq_false, false_implies, true_implies, forall_const, implies_true, Nat.zero_le, Nat.le_refl]
        refine retI ⟨Or.inr ⟨?_, rfl⟩, rfl⟩
        have hb := nOf_bd (b := b)
        rintro (z | ⟨_, z | z | z⟩)
        · exact h1 z.1
        · exact h2 z.1
        · exact h3 z.1
        · exact q ⟨⟨z.2.2.1, by omega⟩, z.2.2.2⟩
  · refine go_32_14 ?_
    simp only [sg_32_14, cl_I, cl_L, cl_R, e_iconst, e_iret1, e_nil, lc_lt, lc_le, lc_gt, lc_ge, lc_eq, true_and, and_true, List.length_cons, List.length_nil, ab_ia, Nat.reduceAdd, Nat.reduceLeDiff, Nat.reduceEqDiff, Nat.reduceLT, Int.reduceLT, Int.reduceLE, Int.reduceEq, Int.reduceNeg, true_or, or_true, false_or, or_false, not_false_eq_true, not_true_eq_false, false_implies, true_implies, forall_const, implies_true, Nat.zero_le, Nat.le_refl]
    refine retI ⟨Or.inr ⟨?_, rfl⟩, rfl⟩
    rintro (z | z)
    · exact h2 z.2
    · exact z.1 (Decidable.not_not.mp h1)
  · refine go_32_15 ?_
    simp only [sg_32_15, cl_I, cl_L, cl_R, e_iret1, e_nil, lc_lt, lc_le, lc_gt, lc_ge, lc_eq, true_and, and_true, List.length_cons, List.length_nil, ab_ia, Nat.reduceAdd, Nat.reduceLeDiff, Nat.reduceEqDiff, Nat.reduceLT, Int.reduceLT, Int.reduceLE, Int.reduceEq, Int.reduceNeg, true_or, or_true, false_or, or_false, not_false_eq_true, not_true_eq_false, false_implies, true_implies, forall_const, implies_true, Nat.zero_le, Nat.le_refl]
    exact retI ⟨Or.inl ⟨Or.inl ⟨by omega, by omega⟩, rfl⟩, rfl⟩
theorem r_clay1 {f : Int} (hr : rg D N C) (h3 : D 2 3 = 1) (hn : 2 ≤ N 0 ∧ N 0 ≤ 6) (hf : 0 ≤ f ∧ f ≤ 9) : CI 34 [vR 2, vI f] (EE L, D) (fun r D' => (((f < N 0 ∧ hcIn (N 0) C f) ∧ r = 1) ∨ (¬ (f < N 0 ∧ hcIn (N 0) C f) ∧ r = 0)) ∧ D' = ups D 2 4 f) := by
  have e0 : ups D 2 4 f 4 0 = N 0 := by rw [ups_ne1 (by decide)]; exact hr.1 0 (by omega) (by omega)
  refine Sx.un (y := 34) (n := 0) (lo := [vR 2, vI f]) (st := []) (u := (0, 0)) ?_
  refine go_34_0 ?_
  simp only [sg_34_0, cl_I, cl_L, cl_R, e_aload_n, e_cv2, e_get0, e_get1, e_goto, e_iaload, e_icmp_ge, e_icmp_ne, e_iconst, e_if_eq, e_iload_n, e_nil, e_put0, fl_0, fl_I, fl_L, fl_R, l_ld1, l_ldA0, rk_1, wRef_some, EE_n, EE_r2_0, EE_r3_0, EE_s2, EE_s3, EE_s4, h3, Int.reduceToNat, e0, lc_lt, lc_le, lc_gt, lc_ge, lc_eq, true_and, and_true, List.length_cons, List.length_nil, ab_ia, Nat.reduceAdd, Nat.reduceLeDiff, Nat.reduceEqDiff, Nat.reduceLT, Int.reduceLT, Int.reduceLE, Int.reduceEq, Int.reduceNeg, true_or, or_true, false_or, or_false, not_false_eq_true, not_true_eq_false, false_implies, true_implies, forall_const, implies_true, Nat.zero_le, Nat.le_refl]
  refine ⟨by omega, fun h1 => ?_, fun h1 => ?_⟩
  · refine go_34_20 ?_
    simp only [sg_34_20, cl_I, cl_L, cl_R, e_iconst, e_iret1, e_nil, lc_lt, lc_le, lc_gt, lc_ge, lc_eq, true_and, and_true, List.length_cons, List.length_nil, ab_ia, Nat.reduceAdd, Nat.reduceLeDiff, Nat.reduceEqDiff, Nat.reduceLT, Int.reduceLT, Int.reduceLE, Int.reduceEq, Int.reduceNeg, true_or, or_true, false_or, or_false, not_false_eq_true, not_true_eq_false, false_implies, true_implies, forall_const, implies_true, Nat.zero_le, Nat.le_refl]
    exact retI ⟨Or.inr ⟨fun z => absurd z.1 (by omega), rfl⟩, rfl⟩
  · refine CB.use (r_hcIn (rg_u2 hr) (by omega) hn) (fun q => ?_) (fun q => ?_)
    · try simp only [lc_lt, lc_le, lc_gt, lc_ge, lc_eq, true_and, and_true, List.length_cons, List.length_nil, ab_ia, Nat.reduceAdd, Nat.reduceLeDiff, Nat.reduceEqDiff, Nat.reduceLT, Int.reduceLT, Int.reduceLE, Int.reduceEq, Int.reduceNeg, true_or, or_true, false_or, or_false, not_false_eq_true, not_true_eq_false, false_implies, true_implies, forall_const, implies_true, Nat.zero_le, Nat.le_refl]
      refine go_34_21 ?_
      simp only [sg_34_21, cl_I, cl_L, cl_R, e_iret1, e_nil, lc_lt, lc_le, lc_gt, lc_ge, lc_eq, true_and, and_true, List.length_cons, List.length_nil, ab_ia, Nat.reduceAdd, Nat.reduceLeDiff, Nat.reduceEqDiff, Nat.reduceLT, Int.reduceLT, Int.reduceLE, Int.reduceEq, Int.reduceNeg, true_or, or_true, false_or, or_false, not_false_eq_true, not_true_eq_false, false_implies, true_implies, forall_const, implies_true, Nat.zero_le, Nat.le_refl]
      exact retI ⟨Or.inl ⟨⟨by omega, q⟩, rfl⟩, rfl⟩
    · try simp only [lc_lt, lc_le, lc_gt, lc_ge, lc_eq, true_and, and_true, List.length_cons, List.length_nil, ab_ia, Nat.reduceAdd, Nat.reduceLeDiff, Nat.reduceEqDiff, Nat.reduceLT, Int.reduceLT, Int.reduceLE, Int.reduceEq, Int.reduceNeg, true_or, or_true, false_or, or_false, not_false_eq_true, not_true_eq_false, false_implies, true_implies, forall_const, implies_true, Nat.zero_le, Nat.le_refl]
      refine go_34_20 ?_
      simp only [sg_34_20, cl_I, cl_L, cl_R, e_iconst, e_iret1, e_nil, lc_lt, lc_le, lc_gt, lc_ge, lc_eq, true_and, and_true, List.length_cons, List.length_nil, ab_ia, Nat.reduceAdd, Nat.reduceLeDiff, Nat.reduceEqDiff, Nat.reduceLT, Int.reduceLT, Int.reduceLE, Int.reduceEq, Int.reduceNeg, true_or, or_true, false_or, or_false, not_false_eq_true, not_true_eq_false, false_implies, true_implies, forall_const, implies_true, Nat.zero_le, Nat.le_refl]
      exact retI ⟨Or.inr ⟨fun z => q z.2, rfl⟩, rfl⟩
theorem r_clay2 {f row : Int} (hr : rg D N C) (h3 : D 2 3 = 2) (h4 : D 2 4 = row) (hrow : 0 ≤ row ∧ row < N 0) (hn : 2 ≤ N 0 ∧ N 0 ≤ 6) (hf : 0 ≤ f ∧ f ≤ 9) : CI 34 [vR 2, vI f] (EE L, D) (fun r D' => (((f < N 0 ∧ C (10 * row + f) = -1) ∧ r = 1) ∨ (¬ (f < N 0 ∧ C (10 * row + f) = -1) ∧ r = 0)) ∧ D' = ups D 2 5 (10 * row + f)) := by
  have e0 : ups D 2 5 (10 * row + f) (3 + 1) 0 = N 0 := by rw [ups_ne1 (by decide)]; exact hr.1 0 (by omega) (by omega)
  have hr' : rg (ups D 2 5 (10 * row + f)) N C := rg_u2 hr
  refine Sx.un (y := 34) (n := 0) (lo := [vR 2, vI f]) (st := []) (u := (0, 0)) ?_
  refine go_34_0 ?_
  simp only [sg_34_0, cl_I, cl_L, cl_R, e_aload_n, e_cv2, e_get0, e_get1, e_goto, e_iaload, e_icmp_ge, e_icmp_ne, e_iconst, e_if_eq, e_iload_n, e_nil, e_put0, fl_0, fl_I, fl_L, fl_R, l_ld1, l_ldA0, rk_1, wRef_some, EE_n, EE_r2_0, EE_r3_0, EE_s2, EE_s3, EE_s4, h3, lc_lt, lc_le, lc_gt, lc_ge, lc_eq, true_and, and_true, List.length_cons, List.length_nil, ab_ia, Nat.reduceAdd, Nat.reduceLeDiff, Nat.reduceEqDiff, Nat.reduceLT, Int.reduceLT, Int.reduceLE, Int.reduceEq, Int.reduceNeg, true_or, or_true, false_or, or_false, not_false_eq_true, not_true_eq_false, false_implies, true_implies, forall_const, implies_true, Nat.zero_le, Nat.le_refl]
  refine go_34_22 ?_
  simp only [sg_34_22, cl_I, cl_L, cl_R, e_aload_n, e_bipush, e_cv2, e_get0, e_get1, e_goto, e_iadd, e_iaload, e_icmp_ne, e_iconst, e_if_eq, e_iload_n, e_imul, e_nil, e_put0, fl_0, fl_I, fl_L, fl_R, l_ld1, l_ldA0, rk_1, wRef_some, EE_n, EE_r2_0, EE_r3_1, EE_s2, EE_s3, EE_s5, h3, h4, ups_self, lc_lt, lc_le, lc_gt, lc_ge, lc_eq, true_and, and_true, List.length_cons, List.length_nil, ab_ia, Nat.reduceAdd, Nat.reduceLeDiff, Nat.reduceEqDiff, Nat.reduceLT, Int.reduceLT, Int.reduceLE, Int.reduceEq, Int.reduceNeg, true_or, or_true, false_or, or_false, not_false_eq_true, not_true_eq_false, false_implies, true_implies, forall_const, implies_true, Nat.zero_le, Nat.le_refl]
  refine ⟨⟨by omega, by omega⟩, ⟨by omega, by omega⟩, ?_⟩
  refine CB.use (g_hasCell isG3) (fun q => ?_) (fun q => ?_)
  · rw [e0] at q
    try simp only [ups_self, lc_lt, lc_le, lc_gt, lc_ge, lc_eq, true_and, and_true, List.length_cons, List.length_nil, ab_ia, Nat.reduceAdd, Nat.reduceLeDiff, Nat.reduceEqDiff, Nat.reduceLT, Int.reduceLT, Int.reduceLE, Int.reduceEq, Int.reduceNeg, true_or, or_true, false_or, or_false, not_false_eq_true, not_true_eq_false, false_implies, true_implies, forall_const, implies_true, Nat.zero_le, Nat.le_refl]
    rw [hr'.2 (10 * row + f) (by omega) (by omega)]
    refine ⟨by omega, fun h1 => ?_, fun h1 => ?_⟩
    · refine go_34_50 ?_
      simp only [sg_34_50, cl_I, cl_L, cl_R, e_iconst, e_iret1, e_nil, lc_lt, lc_le, lc_gt, lc_ge, lc_eq, true_and, and_true, List.length_cons, List.length_nil, ab_ia, Nat.reduceAdd, Nat.reduceLeDiff, Nat.reduceEqDiff, Nat.reduceLT, Int.reduceLT, Int.reduceLE, Int.reduceEq, Int.reduceNeg, true_or, or_true, false_or, or_false, not_false_eq_true, not_true_eq_false, false_implies, true_implies, forall_const, implies_true, Nat.zero_le, Nat.le_refl]
      exact retI ⟨Or.inr ⟨fun z => h1 z.2, rfl⟩, rfl⟩
    · refine go_34_51 ?_
      simp only [sg_34_51, cl_I, cl_L, cl_R, e_iret1, e_nil, lc_lt, lc_le, lc_gt, lc_ge, lc_eq, true_and, and_true, List.length_cons, List.length_nil, ab_ia, Nat.reduceAdd, Nat.reduceLeDiff, Nat.reduceEqDiff, Nat.reduceLT, Int.reduceLT, Int.reduceLE, Int.reduceEq, Int.reduceNeg, true_or, or_true, false_or, or_false, not_false_eq_true, not_true_eq_false, false_implies, true_implies, forall_const, implies_true, Nat.zero_le, Nat.le_refl]
      exact retI ⟨Or.inl ⟨⟨by omega, Decidable.not_not.mp h1⟩, rfl⟩, rfl⟩
  · rw [e0] at q
    try simp only [lc_lt, lc_le, lc_gt, lc_ge, lc_eq, true_and, and_true, List.length_cons, List.length_nil, ab_ia, Nat.reduceAdd, Nat.reduceLeDiff, Nat.reduceEqDiff, Nat.reduceLT, Int.reduceLT, Int.reduceLE, Int.reduceEq, Int.reduceNeg, true_or, or_true, false_or, or_false, not_false_eq_true, not_true_eq_false, false_implies, true_implies, forall_const, implies_true, Nat.zero_le, Nat.le_refl]
    refine go_34_50 ?_
    simp only [sg_34_50, cl_I, cl_L, cl_R, e_iconst, e_iret1, e_nil, lc_lt, lc_le, lc_gt, lc_ge, lc_eq, true_and, and_true, List.length_cons, List.length_nil, ab_ia, Nat.reduceAdd, Nat.reduceLeDiff, Nat.reduceEqDiff, Nat.reduceLT, Int.reduceLT, Int.reduceLE, Int.reduceEq, Int.reduceNeg, true_or, or_true, false_or, or_false, not_false_eq_true, not_true_eq_false, false_implies, true_implies, forall_const, implies_true, Nat.zero_le, Nat.le_refl]
    exact retI ⟨Or.inr ⟨fun z => q (by have := z.1; omega), rfl⟩, rfl⟩
theorem r_clay3 {f ce : Int} (h3 : D 2 3 = 3) (h5 : D 2 5 = ce) (hce : 0 ≤ ce ∧ ce < 56) (hp : 0 ≤ D 2 1 ∧ D 2 1 ≤ 100) : CI 34 [vR 2, vI f] (EE L, D) (fun r D' => r = 1 ∧ D' = ups (ups (ups D 5 ce.toNat f) 2 2 0) 2 1 (D 2 1 + 1)) := by
  have e : ups D 5 ce.toNat f 2 1 = D 2 1 := ups_ne1 (by decide)
  refine Sx.un (y := 34) (n := 0) (lo := [vR 2, vI f]) (st := []) (u := (0, 0)) ?_
  refine go_34_0 ?_
  simp only [sg_34_0, cl_I, cl_L, cl_R, e_aload_n, e_cv2, e_get0, e_get1, e_goto, e_iaload, e_icmp_ge, e_icmp_ne, e_iconst, e_if_eq, e_iload_n, e_nil, e_put0, fl_0, fl_I, fl_L, fl_R, l_ld1, l_ldA0, rk_1, wRef_some, EE_n, EE_r2_0, EE_r3_0, EE_s2, EE_s3, EE_s4, h3, lc_lt, lc_le, lc_gt, lc_ge, lc_eq, true_and, and_true, List.length_cons, List.length_nil, ab_ia, Nat.reduceAdd, Nat.reduceLeDiff, Nat.reduceEqDiff, Nat.reduceLT, Int.reduceLT, Int.reduceLE, Int.reduceEq, Int.reduceNeg, true_or, or_true, false_or, or_false, not_false_eq_true, not_true_eq_false, false_implies, true_implies, forall_const, implies_true, Nat.zero_le, Nat.le_refl]
  refine go_34_22 ?_
  simp only [sg_34_22, cl_I, cl_L, cl_R, e_aload_n, e_bipush, e_cv2, e_get0, e_get1, e_goto, e_iadd, e_iaload, e_icmp_ne, e_iconst, e_if_eq, e_iload_n, e_imul, e_nil, e_put0, fl_0, fl_I, fl_L, fl_R, l_ld1, l_ldA0, rk_1, wRef_some, EE_n, EE_r2_0, EE_r3_1, EE_s2, EE_s3, EE_s5, h3, lc_lt, lc_le, lc_gt, lc_ge, lc_eq, true_and, and_true, List.length_cons, List.length_nil, ab_ia, Nat.reduceAdd, Nat.reduceLeDiff, Nat.reduceEqDiff, Nat.reduceLT, Int.reduceLT, Int.reduceLE, Int.reduceEq, Int.reduceNeg, true_or, or_true, false_or, or_false, not_false_eq_true, not_true_eq_false, false_implies, true_implies, forall_const, implies_true, Nat.zero_le, Nat.le_refl]
  refine go_34_52 ?_
  simp only [sg_34_52, cl_I, cl_L, cl_R, e_aload_n, e_cv1, e_get0, e_get1, e_iastore, e_iload_n, e_iret1, e_nil, fl_0, fl_I, fl_L, fl_R, l_ld1, l_ldA0, rk_1, wRef_some, EE_n, EE_r2_0, EE_r3_1, EE_s2, EE_s3, EE_s5, h5, lc_lt, lc_le, lc_gt, lc_ge, lc_eq, true_and, and_true, List.length_cons, List.length_nil, ab_ia, Nat.reduceAdd, Nat.reduceLeDiff, Nat.reduceEqDiff, Nat.reduceLT, Int.reduceLT, Int.reduceLE, Int.reduceEq, Int.reduceNeg, true_or, or_true, false_or, or_false, not_false_eq_true, not_true_eq_false, false_implies, true_implies, forall_const, implies_true, Nat.zero_le, Nat.le_refl]
  refine ⟨by omega, ?_⟩
  refine CI.use (r_ends (by rw [e]; exact hp)) ?_
  try simp only [lc_lt, lc_le, lc_gt, lc_ge, lc_eq, true_and, and_true, List.length_cons, List.length_nil, ab_ia, Nat.reduceAdd, Nat.reduceLeDiff, Nat.reduceEqDiff, Nat.reduceLT, Int.reduceLT, Int.reduceLE, Int.reduceEq, Int.reduceNeg, true_or, or_true, false_or, or_false, not_false_eq_true, not_true_eq_false, false_implies, true_implies, forall_const, implies_true, Nat.zero_le, Nat.le_refl]
  refine retI ⟨rfl, ?_⟩
  rw [e]
theorem r_wood1 {f : Int} (hr : rg D N C) (h3 : D 2 3 = 1) (hf : 0 ≤ f ∧ f ≤ 9) : CI 35 [vR 2, vI f] (EE L, D) (fun r D' => (((f < 3 ∧ N (5 + f) = -1) ∧ r = 1) ∨ (¬ (f < 3 ∧ N (5 + f) = -1) ∧ r = 0)) ∧ D' = ups D 2 6 f) := by
  refine Sx.un (y := 35) (n := 0) (lo := [vR 2, vI f]) (st := []) (u := (0, 0)) ?_
  refine go_35_0 ?_
  simp only [sg_35_0, cl_I, cl_L, cl_R, e_aload_n, e_cs1, e_cv2, e_get0, e_goto, e_iadd, e_icmp_ne, e_iconst, e_if_eq, e_iload_n, e_nil, e_put0, fl_0, fl_I, fl_L, fl_R, l_ld1, l_ldA0, rk_1, wRef_some, EE_n, EE_s2, h3, lc_lt, lc_le, lc_gt, lc_ge, lc_eq, true_and, and_true, List.length_cons, List.length_nil, ab_ia, Nat.reduceAdd, Nat.reduceLeDiff, Nat.reduceEqDiff, Nat.reduceLT, Int.reduceLT, Int.reduceLE, Int.reduceEq, Int.reduceNeg, true_or, or_true, false_or, or_false, not_false_eq_true, not_true_eq_false, false_implies, true_implies, forall_const, implies_true, Nat.zero_le, Nat.le_refl]
  refine CB.use p_isWood (fun q => ?_) (fun q => ?_)
  · try simp only [EE_n, EE_s2, lc_lt, lc_le, lc_gt, lc_ge, lc_eq, true_and, and_true, List.length_cons, List.length_nil, ab_ia, Nat.reduceAdd, Nat.reduceLeDiff, Nat.reduceEqDiff, Nat.reduceLT, Int.reduceLT, Int.reduceLE, Int.reduceEq, Int.reduceNeg, true_or, or_true, false_or, or_false, not_false_eq_true, not_true_eq_false, false_implies, true_implies, forall_const, implies_true, Nat.zero_le, Nat.le_refl]
    refine ⟨⟨by omega, by omega⟩, ?_⟩
    refine CB.use (r_isUntold (rg_u2 hr)) (fun q2 => ?_) (fun q2 => ?_)
    · try simp only [lc_lt, lc_le, lc_gt, lc_ge, lc_eq, true_and, and_true, List.length_cons, List.length_nil, ab_ia, Nat.reduceAdd, Nat.reduceLeDiff, Nat.reduceEqDiff, Nat.reduceLT, Int.reduceLT, Int.reduceLE, Int.reduceEq, Int.reduceNeg, true_or, or_true, false_or, or_false, not_false_eq_true, not_true_eq_false, false_implies, true_implies, forall_const, implies_true, Nat.zero_le, Nat.le_refl]
      refine go_35_19 ?_
      simp only [sg_35_19, cl_I, cl_L, cl_R, e_iret1, e_nil, lc_lt, lc_le, lc_gt, lc_ge, lc_eq, true_and, and_true, List.length_cons, List.length_nil, ab_ia, Nat.reduceAdd, Nat.reduceLeDiff, Nat.reduceEqDiff, Nat.reduceLT, Int.reduceLT, Int.reduceLE, Int.reduceEq, Int.reduceNeg, true_or, or_true, false_or, or_false, not_false_eq_true, not_true_eq_false, false_implies, true_implies, forall_const, implies_true, Nat.zero_le, Nat.le_refl]
      exact retI ⟨Or.inl ⟨⟨q.2, q2.2⟩, rfl⟩, rfl⟩
    · try simp only [lc_lt, lc_le, lc_gt, lc_ge, lc_eq, true_and, and_true, List.length_cons, List.length_nil, ab_ia, Nat.reduceAdd, Nat.reduceLeDiff, Nat.reduceEqDiff, Nat.reduceLT, Int.reduceLT, Int.reduceLE, Int.reduceEq, Int.reduceNeg, true_or, or_true, false_or, or_false, not_false_eq_true, not_true_eq_false, false_implies, true_implies, forall_const, implies_true, Nat.zero_le, Nat.le_refl]
      refine go_35_18 ?_
      simp only [sg_35_18, cl_I, cl_L, cl_R, e_iconst, e_iret1, e_nil, lc_lt, lc_le, lc_gt, lc_ge, lc_eq, true_and, and_true, List.length_cons, List.length_nil, ab_ia, Nat.reduceAdd, Nat.reduceLeDiff, Nat.reduceEqDiff, Nat.reduceLT, Int.reduceLT, Int.reduceLE, Int.reduceEq, Int.reduceNeg, true_or, or_true, false_or, or_false, not_false_eq_true, not_true_eq_false, false_implies, true_implies, forall_const, implies_true, Nat.zero_le, Nat.le_refl]
      exact retI ⟨Or.inr ⟨fun z => q2 ⟨by omega, z.2⟩, rfl⟩, rfl⟩
  · try simp only [lc_lt, lc_le, lc_gt, lc_ge, lc_eq, true_and, and_true, List.length_cons, List.length_nil, ab_ia, Nat.reduceAdd, Nat.reduceLeDiff, Nat.reduceEqDiff, Nat.reduceLT, Int.reduceLT, Int.reduceLE, Int.reduceEq, Int.reduceNeg, true_or, or_true, false_or, or_false, not_false_eq_true, not_true_eq_false, false_implies, true_implies, forall_const, implies_true, Nat.zero_le, Nat.le_refl]
    refine go_35_18 ?_
    simp only [sg_35_18, cl_I, cl_L, cl_R, e_iconst, e_iret1, e_nil, lc_lt, lc_le, lc_gt, lc_ge, lc_eq, true_and, and_true, List.length_cons, List.length_nil, ab_ia, Nat.reduceAdd, Nat.reduceLeDiff, Nat.reduceEqDiff, Nat.reduceLT, Int.reduceLT, Int.reduceLE, Int.reduceEq, Int.reduceNeg, true_or, or_true, false_or, or_false, not_false_eq_true, not_true_eq_false, false_implies, true_implies, forall_const, implies_true, Nat.zero_le, Nat.le_refl]
    exact retI ⟨Or.inr ⟨fun z => q ⟨hf.1, z.1⟩, rfl⟩, rfl⟩
theorem r_wood2 {f wd : Int} (h3 : D 2 3 = 2) (h6 : D 2 6 = wd) (hwd : 0 ≤ wd ∧ wd < 3) (hp : 0 ≤ D 2 1 ∧ D 2 1 ≤ 100) : CI 35 [vR 2, vI f] (EE L, D) (fun r D' => (1 ≤ f ∧ r = 1 ∧ D' = ups (ups (ups D 4 (5 + wd).toNat f) 2 2 0) 2 1 (D 2 1 + 1)) ∨ (¬ 1 ≤ f ∧ r = 0 ∧ D' = D)) := by
  refine Sx.un (y := 35) (n := 0) (lo := [vR 2, vI f]) (st := []) (u := (0, 0)) ?_
  refine go_35_0 ?_
  simp only [sg_35_0, cl_I, cl_L, cl_R, e_aload_n, e_cs1, e_cv2, e_get0, e_goto, e_iadd, e_icmp_ne, e_iconst, e_if_eq, e_iload_n, e_nil, e_put0, fl_0, fl_I, fl_L, fl_R, l_ld1, l_ldA0, rk_1, wRef_some, EE_n, EE_s2, h3, lc_lt, lc_le, lc_gt, lc_ge, lc_eq, true_and, and_true, List.length_cons, List.length_nil, ab_ia, Nat.reduceAdd, Nat.reduceLeDiff, Nat.reduceEqDiff, Nat.reduceLT, Int.reduceLT, Int.reduceLE, Int.reduceEq, Int.reduceNeg, true_or, or_true, false_or, or_false, not_false_eq_true, not_true_eq_false, false_implies, true_implies, forall_const, implies_true, Nat.zero_le, Nat.le_refl]
  refine go_35_20 ?_
  simp only [sg_35_20, cl_I, cl_L, cl_R, e_aload_n, e_cv3, e_get0, e_goto, e_iadd, e_icmp_lt, e_iconst, e_if_eq, e_iload_n, e_nil, fl_0, fl_I, fl_L, fl_R, l_ld1, l_ldA0, rk_1, wRef_some, EE_n, EE_s2, h6, lc_lt, lc_le, lc_gt, lc_ge, lc_eq, true_and, and_true, List.length_cons, List.length_nil, ab_ia, Nat.reduceAdd, Nat.reduceLeDiff, Nat.reduceEqDiff, Nat.reduceLT, Int.reduceLT, Int.reduceLE, Int.reduceEq, Int.reduceNeg, true_or, or_true, false_or, or_false, not_false_eq_true, not_true_eq_false, false_implies, true_implies, forall_const, implies_true, Nat.zero_le, Nat.le_refl]
  refine ⟨fun h1 => ?_, fun h1 => ⟨⟨by omega, by omega⟩, ?_⟩⟩
  · refine go_35_33 ?_
    simp only [sg_35_33, cl_I, cl_L, cl_R, e_iconst, e_iret1, e_nil, lc_lt, lc_le, lc_gt, lc_ge, lc_eq, true_and, and_true, List.length_cons, List.length_nil, ab_ia, Nat.reduceAdd, Nat.reduceLeDiff, Nat.reduceEqDiff, Nat.reduceLT, Int.reduceLT, Int.reduceLE, Int.reduceEq, Int.reduceNeg, true_or, or_true, false_or, or_false, not_false_eq_true, not_true_eq_false, false_implies, true_implies, forall_const, implies_true, Nat.zero_le, Nat.le_refl]
    exact retI (Or.inr ⟨by omega, rfl, rfl⟩)
  · refine CI.use (r_tells (by omega) hp) ?_
    try simp only [lc_lt, lc_le, lc_gt, lc_ge, lc_eq, true_and, and_true, List.length_cons, List.length_nil, ab_ia, Nat.reduceAdd, Nat.reduceLeDiff, Nat.reduceEqDiff, Nat.reduceLT, Int.reduceLT, Int.reduceLE, Int.reduceEq, Int.reduceNeg, true_or, or_true, false_or, or_false, not_false_eq_true, not_true_eq_false, false_implies, true_implies, forall_const, implies_true, Nat.zero_le, Nat.le_refl]
    refine go_35_34 ?_
    simp only [sg_35_34, cl_I, cl_L, cl_R, e_iret1, e_nil, lc_lt, lc_le, lc_gt, lc_ge, lc_eq, true_and, and_true, List.length_cons, List.length_nil, ab_ia, Nat.reduceAdd, Nat.reduceLeDiff, Nat.reduceEqDiff, Nat.reduceLT, Int.reduceLT, Int.reduceLE, Int.reduceEq, Int.reduceNeg, true_or, or_true, false_or, or_false, not_false_eq_true, not_true_eq_false, false_implies, true_implies, forall_const, implies_true, Nat.zero_le, Nat.le_refl]
    exact retI (Or.inl ⟨by omega, rfl, rfl⟩)
end Reader

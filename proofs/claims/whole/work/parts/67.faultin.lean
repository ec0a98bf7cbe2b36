/-! a text read: the words, and the class's reader keeps them -/
noncomputable def ifc {α : Type} (p : Prop) (a b : α) : α := @ite α p (Classical.propDecidable p) a b
theorem ifc_t {α : Type} {p : Prop} {a b : α} (h : p) : ifc p a b = a := if_pos h
theorem ifc_f {α : Type} {p : Prop} {a b : α} (h : ¬ p) : ifc p a b = b := if_neg h
def fig (T : Int → Int) (len i : Int) : Prop := i < len ∧ 0 ≤ T i - 48 ∧ T i - 48 ≤ 9
abbrev Rr : Type := Int × (Int → Int) × (Int → Int) × Int
/-- the parts of a text from i on: where it is at fault (-9: nowhere), what is told, how many parts -/
noncomputable def rdP (T : Int → Int) (len : Int) : Nat → Int → (Int → Int) → (Int → Int) → Int → Rr
  | 0, _, N, C, pt => (-9, N, C, pt)
  | k + 1, i, N, C, pt =>
    ifc (¬ i < len) (-9, N, C, pt) (
    ifc (T i = 68) (
      ifc (hcAny (N 0) C) (
        ifc (fig T len (i + 1) ∧ T (i + 1) - 48 < N 0 ∧ hcIn (N 0) C (T (i + 1) - 48)) (
          ifc (fig T len (i + 2) ∧ T (i + 2) - 48 < N 0 ∧ C (10 * (T (i + 1) - 48) + (T (i + 2) - 48)) = -1) (
            ifc (fig T len (i + 3)) (rdP T len k (i + 4) N (st1 C (10 * (T (i + 1) - 48) + (T (i + 2) - 48)) (T (i + 3) - 48)) (pt + 1))
            (i + 3, N, C, pt)) (i + 2, N, C, pt)) (i + 1, N, C, pt)) (i, N, C, pt)) (
    ifc (T i = 82) (
      ifc (hwd N) (
        ifc (fig T len (i + 1) ∧ T (i + 1) - 48 < 3 ∧ N (5 + (T (i + 1) - 48)) = -1) (
          ifc (fig T len (i + 2) ∧ 1 ≤ T (i + 2) - 48) (rdP T len k (i + 3) (st1 N (5 + (T (i + 1) - 48)) (T (i + 2) - 48)) C (pt + 1)) (i + 2, N, C, pt)) (i + 1, N, C, pt)) (i, N, C, pt)) (
      ifc (0 ≤ nOf (T i) ∧ N (nOf (T i)) = -1) (
        ifc (fig T len (i + 1)) (rdP T len k (i + 2) (st1 N (nOf (T i)) (T (i + 1) - 48)) C (pt + 1)) (i + 1, N, C, pt)) (i, N, C, pt))))
noncomputable def rdT (T : Int → Int) (len : Int) : Rr := ifc (len = 0 ∨ T 0 ≠ 78) (0, fun _ => -1, fun _ => -1, 0) (ifc (fig T len 1 ∧ 2 ≤ T 1 - 48 ∧ T 1 - 48 ≤ 6) (rdP T len 64 2 (st1 (fun _ => -1) 0 (T 1 - 48)) (fun _ => -1) 1) (1, fun _ => -1, fun _ => -1, 0))
section Spec
variable {T : Int → Int} {len i pt : Int} {N C : Int → Int} {k : Nat}
theorem rd_end (h : ¬ i < len) : rdP T len k i N C pt = (-9, N, C, pt) := by
  cases k with
  | zero => rfl
  | succ k => rw [rdP, ifc_t h]
theorem rd_D0 (h : i < len) (h68 : T i = 68) (a : ¬ hcAny (N 0) C) : rdP T len (k + 1) i N C pt = (i, N, C, pt) := by
  rw [rdP, ifc_f (by omega), ifc_t h68, ifc_f a]
theorem rd_D1 (h : i < len) (h68 : T i = 68) (a : hcAny (N 0) C) (b : ¬ (fig T len (i + 1) ∧ T (i + 1) - 48 < N 0 ∧ hcIn (N 0) C (T (i + 1) - 48))) : rdP T len (k + 1) i N C pt = (i + 1, N, C, pt) := by
  rw [rdP, ifc_f (by omega), ifc_t h68, ifc_t a, ifc_f b]
theorem rd_D2 (h : i < len) (h68 : T i = 68) (a : hcAny (N 0) C) (b : fig T len (i + 1) ∧ T (i + 1) - 48 < N 0 ∧ hcIn (N 0) C (T (i + 1) - 48)) (c : ¬ (fig T len (i + 2) ∧ T (i + 2) - 48 < N 0 ∧ C (10 * (T (i + 1) - 48) + (T (i + 2) - 48)) = -1)) : rdP T len (k + 1) i N C pt = (i + 2, N, C, pt) := by
  rw [rdP, ifc_f (by omega), ifc_t h68, ifc_t a, ifc_t b, ifc_f c]
theorem rd_D3 (h : i < len) (h68 : T i = 68) (a : hcAny (N 0) C) (b : fig T len (i + 1) ∧ T (i + 1) - 48 < N 0 ∧ hcIn (N 0) C (T (i + 1) - 48)) (c : fig T len (i + 2) ∧ T (i + 2) - 48 < N 0 ∧ C (10 * (T (i + 1) - 48) + (T (i + 2) - 48)) = -1) (d : ¬ fig T len (i + 3)) : rdP T len (k + 1) i N C pt = (i + 3, N, C, pt) := by
  rw [rdP, ifc_f (by omega), ifc_t h68, ifc_t a, ifc_t b, ifc_t c, ifc_f d]
theorem rd_D (h : i < len) (h68 : T i = 68) (a : hcAny (N 0) C) (b : fig T len (i + 1) ∧ T (i + 1) - 48 < N 0 ∧ hcIn (N 0) C (T (i + 1) - 48)) (c : fig T len (i + 2) ∧ T (i + 2) - 48 < N 0 ∧ C (10 * (T (i + 1) - 48) + (T (i + 2) - 48)) = -1) (d : fig T len (i + 3)) : rdP T len (k + 1) i N C pt = rdP T len k (i + 4) N (st1 C (10 * (T (i + 1) - 48) + (T (i + 2) - 48)) (T (i + 3) - 48)) (pt + 1) := by
  rw [rdP, ifc_f (by omega), ifc_t h68, ifc_t a, ifc_t b, ifc_t c, ifc_t d]
theorem rd_R0 (h : i < len) (h82 : T i = 82) (a : ¬ hwd N) : rdP T len (k + 1) i N C pt = (i, N, C, pt) := by
  rw [rdP, ifc_f (by omega), ifc_f (by omega), ifc_t h82, ifc_f a]
theorem rd_R1 (h : i < len) (h82 : T i = 82) (a : hwd N) (b : ¬ (fig T len (i + 1) ∧ T (i + 1) - 48 < 3 ∧ N (5 + (T (i + 1) - 48)) = -1)) : rdP T len (k + 1) i N C pt = (i + 1, N, C, pt) := by
  rw [rdP, ifc_f (by omega), ifc_f (by omega), ifc_t h82, ifc_t a, ifc_f b]
theorem rd_R2 (h : i < len) (h82 : T i = 82) (a : hwd N) (b : fig T len (i + 1) ∧ T (i + 1) - 48 < 3 ∧ N (5 + (T (i + 1) - 48)) = -1) (c : ¬ (fig T len (i + 2) ∧ 1 ≤ T (i + 2) - 48)) : rdP T len (k + 1) i N C pt = (i + 2, N, C, pt) := by
  rw [rdP, ifc_f (by omega), ifc_f (by omega), ifc_t h82, ifc_t a, ifc_t b, ifc_f c]
theorem rd_R (h : i < len) (h82 : T i = 82) (a : hwd N) (b : fig T len (i + 1) ∧ T (i + 1) - 48 < 3 ∧ N (5 + (T (i + 1) - 48)) = -1) (c : fig T len (i + 2) ∧ 1 ≤ T (i + 2) - 48) : rdP T len (k + 1) i N C pt = rdP T len k (i + 3) (st1 N (5 + (T (i + 1) - 48)) (T (i + 2) - 48)) C (pt + 1) := by
  rw [rdP, ifc_f (by omega), ifc_f (by omega), ifc_t h82, ifc_t a, ifc_t b, ifc_t c]
theorem rd_O0 (h : i < len) (h68 : T i ≠ 68) (h82 : T i ≠ 82) (a : ¬ (0 ≤ nOf (T i) ∧ N (nOf (T i)) = -1)) : rdP T len (k + 1) i N C pt = (i, N, C, pt) := by
  rw [rdP, ifc_f (by omega), ifc_f h68, ifc_f h82, ifc_f a]
theorem rd_O1 (h : i < len) (h68 : T i ≠ 68) (h82 : T i ≠ 82) (a : 0 ≤ nOf (T i) ∧ N (nOf (T i)) = -1) (b : ¬ fig T len (i + 1)) : rdP T len (k + 1) i N C pt = (i + 1, N, C, pt) := by
  rw [rdP, ifc_f (by omega), ifc_f h68, ifc_f h82, ifc_t a, ifc_f b]
theorem rd_O (h : i < len) (h68 : T i ≠ 68) (h82 : T i ≠ 82) (a : 0 ≤ nOf (T i) ∧ N (nOf (T i)) = -1) (b : fig T len (i + 1)) : rdP T len (k + 1) i N C pt = rdP T len k (i + 2) (st1 N (nOf (T i)) (T (i + 1) - 48)) C (pt + 1) := by
  rw [rdP, ifc_f (by omega), ifc_f h68, ifc_f h82, ifc_t a, ifc_t b]
/-- what is told is in order -/
def nG (N C : Int → Int) : Prop := (2 ≤ N 0 ∧ N 0 ≤ 6) ∧ (∀ j, 1 ≤ j → j ≤ 4 → -1 ≤ N j ∧ N j ≤ 9) ∧ (∀ j, 5 ≤ j → j ≤ 7 → N j = -1 ∨ (1 ≤ N j ∧ N j ≤ 9)) ∧ ∀ a, -1 ≤ C a ∧ C a ≤ 9
theorem nG_D {a f : Int} (h : nG N C) (hf : 0 ≤ f ∧ f ≤ 9) : nG N (st1 C a f) := ⟨h.1, h.2.1, h.2.2.1, fun b => by
  have := h.2.2.2 b
  unfold st1
  split <;> omega⟩
theorem nG_R {a f : Int} (h : nG N C) (ha : 5 ≤ a) (hf : 1 ≤ f ∧ f ≤ 9) : nG (st1 N a f) C := ⟨by unfold st1; rw [if_neg (by omega)]; exact h.1, fun j j0 j1 => by
  unfold st1
  rw [if_neg (by omega)]
  exact h.2.1 j j0 j1, fun j j0 j1 => by
  have := h.2.2.1 j j0 j1
  unfold st1
  split <;> omega, h.2.2.2⟩
theorem nG_O {a f : Int} (h : nG N C) (ha : 1 ≤ a ∧ a ≤ 4) (hf : 0 ≤ f ∧ f ≤ 9) : nG (st1 N a f) C := ⟨by unfold st1; rw [if_neg (by omega)]; exact h.1, fun j j0 j1 => by
  have := h.2.1 j j0 j1
  unfold st1
  split <;> omega, fun j j0 j1 => by
  unfold st1
  rw [if_neg (by omega)]
  exact h.2.2.1 j j0 j1, h.2.2.2⟩
theorem rd_nG : ∀ (k : Nat) (i : Int) (N C : Int → Int) (pt : Int), nG N C → nG (rdP T len k i N C pt).2.1 (rdP T len k i N C pt).2.2.1 := by
  intro k
  induction k with
  | zero => intro i N C pt h; exact h
  | succ k ih =>
    intro i N C pt h
    by_cases hi : i < len
    · by_cases h68 : T i = 68
      · by_cases a : hcAny (N 0) C
        · by_cases b : fig T len (i + 1) ∧ T (i + 1) - 48 < N 0 ∧ hcIn (N 0) C (T (i + 1) - 48)
          · by_cases c : fig T len (i + 2) ∧ T (i + 2) - 48 < N 0 ∧ C (10 * (T (i + 1) - 48) + (T (i + 2) - 48)) = -1
            · by_cases d : fig T len (i + 3)
              · rw [rd_D hi h68 a b c d]
                exact ih _ _ _ _ (nG_D h d.2)
              · rw [rd_D3 hi h68 a b c d]; exact h
            · rw [rd_D2 hi h68 a b c]; exact h
          · rw [rd_D1 hi h68 a b]; exact h
        · rw [rd_D0 hi h68 a]; exact h
      · by_cases h82 : T i = 82
        · by_cases a : hwd N
          · by_cases b : fig T len (i + 1) ∧ T (i + 1) - 48 < 3 ∧ N (5 + (T (i + 1) - 48)) = -1
            · by_cases c : fig T len (i + 2) ∧ 1 ≤ T (i + 2) - 48
              · rw [rd_R hi h82 a b c]
                have q1 := b.1.2
                have q2 := c.1.2
                have q3 := c.2
                exact ih _ _ _ _ (nG_R h (by omega) (by omega))
              · rw [rd_R2 hi h82 a b c]; exact h
            · rw [rd_R1 hi h82 a b]; exact h
          · rw [rd_R0 hi h82 a]; exact h
        · by_cases a : 0 ≤ nOf (T i) ∧ N (nOf (T i)) = -1
          · by_cases b : fig T len (i + 1)
            · rw [rd_O hi h68 h82 a b]
              have q := nOf_bd (b := T i)
              exact ih _ _ _ _ (nG_O h (by omega) b.2)
            · rw [rd_O1 hi h68 h82 a b]; exact h
          · rw [rd_O0 hi h68 h82 a]; exact h
    · rw [rd_end hi]; exact h
end Spec
section FaultIn
variable {L : Nat} {D : ab_D} {N C : Int → Int}
theorem r_goes_out {f : Int} (h : ¬ (0 ≤ f ∧ f ≤ 9)) : CI 33 [vR 2, vI f] (EE L, D) (fun r D' => r = 0 ∧ D' = D) := by
  refine Sx.un (y := 33) (n := 0) (lo := [vR 2, vI f]) (st := []) (u := (0, 0)) ?_
  refine go_33_0 ?_
  simp only [sg_33_0, cl_I, cl_L, cl_R, e_bipush, e_icmp_le, e_iconst, e_if_lt, e_iload_n, e_iret1, e_nil, l_ld1, lc_lt, lc_le, lc_gt, lc_ge, lc_eq, true_and, and_true, List.length_cons, List.length_nil, ab_ia, Nat.reduceAdd, Nat.reduceLeDiff, Nat.reduceEqDiff, Nat.reduceLT, Int.reduceLT, Int.reduceLE, Int.reduceEq, Int.reduceNeg, true_or, or_true, false_or, or_false, not_false_eq_true, not_true_eq_false, false_implies, true_implies, forall_const, implies_true, Nat.zero_le, Nat.le_refl]
  refine ⟨fun h1 => ?_, fun h1 => ⟨fun h2 => absurd h2 (by omega), fun h2 => ?_⟩⟩
  · refine go_33_5 ?_
    simp only [sg_33_5, cl_I, cl_L, cl_R, e_iconst, e_iret1, e_nil, lc_lt, lc_le, lc_gt, lc_ge, lc_eq, true_and, and_true, List.length_cons, List.length_nil, ab_ia, Nat.reduceAdd, Nat.reduceLeDiff, Nat.reduceEqDiff, Nat.reduceLT, Int.reduceLT, Int.reduceLE, Int.reduceEq, Int.reduceNeg, true_or, or_true, false_or, or_false, not_false_eq_true, not_true_eq_false, false_implies, true_implies, forall_const, implies_true, Nat.zero_le, Nat.le_refl]
    exact retI ⟨rfl, rfl⟩
  · exact retI ⟨rfl, rfl⟩
theorem r_goes_N {f : Int} (hr : rg D N C) (h2 : D 2 2 = 78) (h3 : D 2 3 = 0) (hp : 0 ≤ D 2 1 ∧ D 2 1 ≤ 100) (hf : 0 ≤ f ∧ f ≤ 9) : CI 33 [vR 2, vI f] (EE L, D) (fun r D' => ((2 ≤ f ∧ f ≤ 6) ∧ r = 1 ∧ frR D D' ∧ rg D' (st1 N 0 f) C ∧ D' 2 1 = D 2 1 + 1 ∧ D' 2 2 = 0) ∨ (¬ (2 ≤ f ∧ f ≤ 6) ∧ r = 0 ∧ frR D D')) := by
  have e2 : ups D 2 3 (0 + 1) 2 2 = 78 := by rw [ups_ne2 (by decide), h2]
  have e1 : ups D 2 3 (0 + 1) 2 1 = D 2 1 := ups_ne2 (by decide)
  refine Sx.un (y := 33) (n := 0) (lo := [vR 2, vI f]) (st := []) (u := (0, 0)) ?_
  refine go_33_0 ?_
  simp only [sg_33_0, cl_I, cl_L, cl_R, e_bipush, e_icmp_le, e_iconst, e_if_lt, e_iload_n, e_iret1, e_nil, l_ld1, lc_lt, lc_le, lc_gt, lc_ge, lc_eq, true_and, and_true, List.length_cons, List.length_nil, ab_ia, Nat.reduceAdd, Nat.reduceLeDiff, Nat.reduceEqDiff, Nat.reduceLT, Int.reduceLT, Int.reduceLE, Int.reduceEq, Int.reduceNeg, true_or, or_true, false_or, or_false, not_false_eq_true, not_true_eq_false, false_implies, true_implies, forall_const, implies_true, Nat.zero_le, Nat.le_refl]
  refine ⟨fun h => absurd h (by omega), fun _ => ⟨fun _ => ?_, fun h => absurd hf.2 h⟩⟩
  refine go_33_7 ?_
  simp only [sg_33_7, cl_I, cl_L, cl_R, e_aload_n, e_dupI, e_dupR, e_get0, e_iadd, e_iconst, e_lk, e_lk0, e_lk1, e_nil, e_put0, l_ldA0, wRef_some, EE_n, EE_s2, h3, e2, lc_lt, lc_le, lc_gt, lc_ge, lc_eq, true_and, and_true, List.length_cons, List.length_nil, ab_ia, Nat.reduceAdd, Nat.reduceLeDiff, Nat.reduceEqDiff, Nat.reduceLT, Int.reduceLT, Int.reduceLE, Int.reduceEq, Int.reduceNeg, true_or, or_true, false_or, or_false, not_false_eq_true, not_true_eq_false, false_implies, true_implies, forall_const, implies_true, Nat.zero_le, Nat.le_refl]
  refine ⟨⟨by omega, by omega⟩, ?_⟩
  refine go_33_16 ?_
  simp only [sg_33_16, cl_I, cl_L, cl_R, e_aload_n, e_bipush, e_cv3, e_goto, e_icmp_gt, e_icmp_lt, e_iconst, e_if_eq, e_iload_n, e_nil, fl_0, fl_I, fl_L, fl_R, l_ld1, l_ldA0, rk_1, EE_n, EE_s2, lc_lt, lc_le, lc_gt, lc_ge, lc_eq, true_and, and_true, List.length_cons, List.length_nil, ab_ia, Nat.reduceAdd, Nat.reduceLeDiff, Nat.reduceEqDiff, Nat.reduceLT, Int.reduceLT, Int.reduceLE, Int.reduceEq, Int.reduceNeg, true_or, or_true, false_or, or_false, not_false_eq_true, not_true_eq_false, false_implies, true_implies, forall_const, implies_true, Nat.zero_le, Nat.le_refl]
  refine ⟨fun h => ?_, fun h => ⟨fun h' => ?_, fun h' => ?_⟩⟩
  · refine go_33_29 ?_
    simp only [sg_33_29, cl_I, cl_L, cl_R, e_iconst, e_iret1, e_nil, lc_lt, lc_le, lc_gt, lc_ge, lc_eq, true_and, and_true, List.length_cons, List.length_nil, ab_ia, Nat.reduceAdd, Nat.reduceLeDiff, Nat.reduceEqDiff, Nat.reduceLT, Int.reduceLT, Int.reduceLE, Int.reduceEq, Int.reduceNeg, true_or, or_true, false_or, or_false, not_false_eq_true, not_true_eq_false, false_implies, true_implies, forall_const, implies_true, Nat.zero_le, Nat.le_refl]
    exact retI (Or.inr ⟨by omega, rfl, frR_ups (by omega) frR.refl⟩)
  · refine go_33_29 ?_
    simp only [sg_33_29, cl_I, cl_L, cl_R, e_iconst, e_iret1, e_nil, lc_lt, lc_le, lc_gt, lc_ge, lc_eq, true_and, and_true, List.length_cons, List.length_nil, ab_ia, Nat.reduceAdd, Nat.reduceLeDiff, Nat.reduceEqDiff, Nat.reduceLT, Int.reduceLT, Int.reduceLE, Int.reduceEq, Int.reduceNeg, true_or, or_true, false_or, or_false, not_false_eq_true, not_true_eq_false, false_implies, true_implies, forall_const, implies_true, Nat.zero_le, Nat.le_refl]
    exact retI (Or.inr ⟨by omega, rfl, frR_ups (by omega) frR.refl⟩)
  · refine CI.use (r_tells (j := 0) (by omega) (by rw [e1]; exact hp)) ?_
    try simp only [lc_lt, lc_le, lc_gt, lc_ge, lc_eq, true_and, and_true, List.length_cons, List.length_nil, ab_ia, Nat.reduceAdd, Nat.reduceLeDiff, Nat.reduceEqDiff, Nat.reduceLT, Int.reduceLT, Int.reduceLE, Int.reduceEq, Int.reduceNeg, true_or, or_true, false_or, or_false, not_false_eq_true, not_true_eq_false, false_implies, true_implies, forall_const, implies_true, Nat.zero_le, Nat.le_refl]
    refine go_33_30 ?_
    simp only [sg_33_30, cl_I, cl_L, cl_R, e_iret1, e_nil, lc_lt, lc_le, lc_gt, lc_ge, lc_eq, true_and, and_true, List.length_cons, List.length_nil, ab_ia, Nat.reduceAdd, Nat.reduceLeDiff, Nat.reduceEqDiff, Nat.reduceLT, Int.reduceLT, Int.reduceLE, Int.reduceEq, Int.reduceNeg, true_or, or_true, false_or, or_false, not_false_eq_true, not_true_eq_false, false_implies, true_implies, forall_const, implies_true, Nat.zero_le, Nat.le_refl]
    refine retI (Or.inl ⟨by omega, rfl, frR_ups (by omega) (frR_ups (by omega) (frR_ups (by omega) (frR_ups (by omega) frR.refl))), rg_u2 (rg_u2 (rg_u4 (by omega) (rg_u2 hr))), ?_, ?_⟩)
    · rw [ups_self, e1]
    · rw [ups_ne2 (by decide), ups_self]
theorem r_goes_D0 {f : Int} (hr : rg D N C) (h2 : D 2 2 = 68) (h3 : D 2 3 = 0) (hn : 2 ≤ N 0 ∧ N 0 ≤ 6) (hf : 0 ≤ f ∧ f ≤ 9) : CI 33 [vR 2, vI f] (EE L, D) (fun r D' => ((f < N 0 ∧ hcIn (N 0) C f) ∧ r = 1 ∧ frR D D' ∧ rg D' N C ∧ D' 2 1 = D 2 1 ∧ D' 2 2 = 68 ∧ D' 2 3 = 1 ∧ D' 2 4 = f) ∨ (¬ (f < N 0 ∧ hcIn (N 0) C f) ∧ r = 0 ∧ frR D D')) := by
  have e2 : ups D 2 3 (0 + 1) 2 2 = 68 := by rw [ups_ne2 (by decide), h2]
  refine Sx.un (y := 33) (n := 0) (lo := [vR 2, vI f]) (st := []) (u := (0, 0)) ?_
  refine go_33_0 ?_
  simp only [sg_33_0, cl_I, cl_L, cl_R, e_bipush, e_icmp_le, e_iconst, e_if_lt, e_iload_n, e_iret1, e_nil, l_ld1, lc_lt, lc_le, lc_gt, lc_ge, lc_eq, true_and, and_true, List.length_cons, List.length_nil, ab_ia, Nat.reduceAdd, Nat.reduceLeDiff, Nat.reduceEqDiff, Nat.reduceLT, Int.reduceLT, Int.reduceLE, Int.reduceEq, Int.reduceNeg, true_or, or_true, false_or, or_false, not_false_eq_true, not_true_eq_false, false_implies, true_implies, forall_const, implies_true, Nat.zero_le, Nat.le_refl]
  refine ⟨fun h => absurd h (by omega), fun _ => ⟨fun _ => ?_, fun h => absurd hf.2 h⟩⟩
  refine go_33_7 ?_
  simp only [sg_33_7, cl_I, cl_L, cl_R, e_aload_n, e_dupI, e_dupR, e_get0, e_iadd, e_iconst, e_lk, e_lk0, e_lk1, e_nil, e_put0, l_ldA0, wRef_some, EE_n, EE_s2, h3, e2, lc_lt, lc_le, lc_gt, lc_ge, lc_eq, true_and, and_true, List.length_cons, List.length_nil, ab_ia, Nat.reduceAdd, Nat.reduceLeDiff, Nat.reduceEqDiff, Nat.reduceLT, Int.reduceLT, Int.reduceLE, Int.reduceEq, Int.reduceNeg, true_or, or_true, false_or, or_false, not_false_eq_true, not_true_eq_false, false_implies, true_implies, forall_const, implies_true, Nat.zero_le, Nat.le_refl]
  refine ⟨⟨by omega, by omega⟩, ?_⟩
  refine go_33_31 ?_
  simp only [sg_33_31, cl_I, cl_L, cl_R, e_aload_n, e_cv2, e_iload_n, e_iret1, e_nil, fl_0, fl_I, fl_L, fl_R, l_ld1, l_ldA0, rk_1, EE_n, EE_s2, lc_lt, lc_le, lc_gt, lc_ge, lc_eq, true_and, and_true, List.length_cons, List.length_nil, ab_ia, Nat.reduceAdd, Nat.reduceLeDiff, Nat.reduceEqDiff, Nat.reduceLT, Int.reduceLT, Int.reduceLE, Int.reduceEq, Int.reduceNeg, true_or, or_true, false_or, or_false, not_false_eq_true, not_true_eq_false, false_implies, true_implies, forall_const, implies_true, Nat.zero_le, Nat.le_refl]
  refine (r_clay1 (rg_u2 hr) (by rw [ups_self]; rfl) hn hf).mono ?_
  rintro r D' ⟨⟨c, rfl⟩ | ⟨c, rfl⟩, rfl⟩
  · try simp only [lc_lt, lc_le, lc_gt, lc_ge, lc_eq, true_and, and_true, List.length_cons, List.length_nil, ab_ia, Nat.reduceAdd, Nat.reduceLeDiff, Nat.reduceEqDiff, Nat.reduceLT, Int.reduceLT, Int.reduceLE, Int.reduceEq, Int.reduceNeg, true_or, or_true, false_or, or_false, not_false_eq_true, not_true_eq_false, false_implies, true_implies, forall_const, implies_true, Nat.zero_le, Nat.le_refl]
    refine retI (Or.inl ⟨c, rfl, frR_ups (by omega) (frR_ups (by omega) frR.refl), rg_u2 (rg_u2 hr), ?_, ?_, ?_, ups_self⟩)
    · rw [ups_ne2 (by decide), ups_ne2 (by decide)]
    · rw [ups_ne2 (by decide), e2]
    · rw [ups_ne2 (by decide), ups_self]; rfl
  · try simp only [lc_lt, lc_le, lc_gt, lc_ge, lc_eq, true_and, and_true, List.length_cons, List.length_nil, ab_ia, Nat.reduceAdd, Nat.reduceLeDiff, Nat.reduceEqDiff, Nat.reduceLT, Int.reduceLT, Int.reduceLE, Int.reduceEq, Int.reduceNeg, true_or, or_true, false_or, or_false, not_false_eq_true, not_true_eq_false, false_implies, true_implies, forall_const, implies_true, Nat.zero_le, Nat.le_refl]
    exact retI (Or.inr ⟨c, rfl, frR_ups (by omega) (frR_ups (by omega) frR.refl)⟩)
theorem r_goes_D1 {f row : Int} (hr : rg D N C) (h2 : D 2 2 = 68) (h3 : D 2 3 = 1) (h4 : D 2 4 = row) (hrow : 0 ≤ row ∧ row < N 0) (hn : 2 ≤ N 0 ∧ N 0 ≤ 6) (hf : 0 ≤ f ∧ f ≤ 9) : CI 33 [vR 2, vI f] (EE L, D) (fun r D' => ((f < N 0 ∧ C (10 * row + f) = -1) ∧ r = 1 ∧ frR D D' ∧ rg D' N C ∧ D' 2 1 = D 2 1 ∧ D' 2 2 = 68 ∧ D' 2 3 = 2 ∧ D' 2 5 = 10 * row + f) ∨ (¬ (f < N 0 ∧ C (10 * row + f) = -1) ∧ r = 0 ∧ frR D D')) := by
  have e2 : ups D 2 3 (1 + 1) 2 2 = 68 := by rw [ups_ne2 (by decide), h2]
  refine Sx.un (y := 33) (n := 0) (lo := [vR 2, vI f]) (st := []) (u := (0, 0)) ?_
  refine go_33_0 ?_
  simp only [sg_33_0, cl_I, cl_L, cl_R, e_bipush, e_icmp_le, e_iconst, e_if_lt, e_iload_n, e_iret1, e_nil, l_ld1, lc_lt, lc_le, lc_gt, lc_ge, lc_eq, true_and, and_true, List.length_cons, List.length_nil, ab_ia, Nat.reduceAdd, Nat.reduceLeDiff, Nat.reduceEqDiff, Nat.reduceLT, Int.reduceLT, Int.reduceLE, Int.reduceEq, Int.reduceNeg, true_or, or_true, false_or, or_false, not_false_eq_true, not_true_eq_false, false_implies, true_implies, forall_const, implies_true, Nat.zero_le, Nat.le_refl]
  refine ⟨fun h => absurd h (by omega), fun _ => ⟨fun _ => ?_, fun h => absurd hf.2 h⟩⟩
  refine go_33_7 ?_
  simp only [sg_33_7, cl_I, cl_L, cl_R, e_aload_n, e_dupI, e_dupR, e_get0, e_iadd, e_iconst, e_lk, e_lk0, e_lk1, e_nil, e_put0, l_ldA0, wRef_some, EE_n, EE_s2, h3, e2, lc_lt, lc_le, lc_gt, lc_ge, lc_eq, true_and, and_true, List.length_cons, List.length_nil, ab_ia, Nat.reduceAdd, Nat.reduceLeDiff, Nat.reduceEqDiff, Nat.reduceLT, Int.reduceLT, Int.reduceLE, Int.reduceEq, Int.reduceNeg, true_or, or_true, false_or, or_false, not_false_eq_true, not_true_eq_false, false_implies, true_implies, forall_const, implies_true, Nat.zero_le, Nat.le_refl]
  refine ⟨⟨by omega, by omega⟩, ?_⟩
  refine go_33_31 ?_
  simp only [sg_33_31, cl_I, cl_L, cl_R, e_aload_n, e_cv2, e_iload_n, e_iret1, e_nil, fl_0, fl_I, fl_L, fl_R, l_ld1, l_ldA0, rk_1, EE_n, EE_s2, lc_lt, lc_le, lc_gt, lc_ge, lc_eq, true_and, and_true, List.length_cons, List.length_nil, ab_ia, Nat.reduceAdd, Nat.reduceLeDiff, Nat.reduceEqDiff, Nat.reduceLT, Int.reduceLT, Int.reduceLE, Int.reduceEq, Int.reduceNeg, true_or, or_true, false_or, or_false, not_false_eq_true, not_true_eq_false, false_implies, true_implies, forall_const, implies_true, Nat.zero_le, Nat.le_refl]
  refine (r_clay2 (rg_u2 hr) (by rw [ups_self]; rfl) (by rw [ups_ne2 (by decide)]; exact h4) hrow hn hf).mono ?_
  rintro r D' ⟨⟨c, rfl⟩ | ⟨c, rfl⟩, rfl⟩
  · try simp only [lc_lt, lc_le, lc_gt, lc_ge, lc_eq, true_and, and_true, List.length_cons, List.length_nil, ab_ia, Nat.reduceAdd, Nat.reduceLeDiff, Nat.reduceEqDiff, Nat.reduceLT, Int.reduceLT, Int.reduceLE, Int.reduceEq, Int.reduceNeg, true_or, or_true, false_or, or_false, not_false_eq_true, not_true_eq_false, false_implies, true_implies, forall_const, implies_true, Nat.zero_le, Nat.le_refl]
    refine retI (Or.inl ⟨c, rfl, frR_ups (by omega) (frR_ups (by omega) frR.refl), rg_u2 (rg_u2 hr), ?_, ?_, ?_, ups_self⟩)
    · rw [ups_ne2 (by decide), ups_ne2 (by decide)]
    · rw [ups_ne2 (by decide), e2]
    · rw [ups_ne2 (by decide), ups_self]; rfl
  · try simp only [lc_lt, lc_le, lc_gt, lc_ge, lc_eq, true_and, and_true, List.length_cons, List.length_nil, ab_ia, Nat.reduceAdd, Nat.reduceLeDiff, Nat.reduceEqDiff, Nat.reduceLT, Int.reduceLT, Int.reduceLE, Int.reduceEq, Int.reduceNeg, true_or, or_true, false_or, or_false, not_false_eq_true, not_true_eq_false, false_implies, true_implies, forall_const, implies_true, Nat.zero_le, Nat.le_refl]
    exact retI (Or.inr ⟨c, rfl, frR_ups (by omega) (frR_ups (by omega) frR.refl)⟩)
theorem r_goes_D2 {f ce : Int} (hr : rg D N C) (h2 : D 2 2 = 68) (h3 : D 2 3 = 2) (h5 : D 2 5 = ce) (hce : 0 ≤ ce ∧ ce < 56) (hp : 0 ≤ D 2 1 ∧ D 2 1 ≤ 100) (hf : 0 ≤ f ∧ f ≤ 9) : CI 33 [vR 2, vI f] (EE L, D) (fun r D' => r = 1 ∧ frR D D' ∧ rg D' N (st1 C ce f) ∧ D' 2 1 = D 2 1 + 1 ∧ D' 2 2 = 0) := by
  have e2 : ups D 2 3 (2 + 1) 2 2 = 68 := by rw [ups_ne2 (by decide), h2]
  have e1 : ups D 2 3 (2 + 1) 2 1 = D 2 1 := ups_ne2 (by decide)
  refine Sx.un (y := 33) (n := 0) (lo := [vR 2, vI f]) (st := []) (u := (0, 0)) ?_
  refine go_33_0 ?_
  simp only [sg_33_0, cl_I, cl_L, cl_R, e_bipush, e_icmp_le, e_iconst, e_if_lt, e_iload_n, e_iret1, e_nil, l_ld1, lc_lt, lc_le, lc_gt, lc_ge, lc_eq, true_and, and_true, List.length_cons, List.length_nil, ab_ia, Nat.reduceAdd, Nat.reduceLeDiff, Nat.reduceEqDiff, Nat.reduceLT, Int.reduceLT, Int.reduceLE, Int.reduceEq, Int.reduceNeg, true_or, or_true, false_or, or_false, not_false_eq_true, not_true_eq_false, false_implies, true_implies, forall_const, implies_true, Nat.zero_le, Nat.le_refl]
  refine ⟨fun h => absurd h (by omega), fun _ => ⟨fun _ => ?_, fun h => absurd hf.2 h⟩⟩
  refine go_33_7 ?_
  simp only [sg_33_7, cl_I, cl_L, cl_R, e_aload_n, e_dupI, e_dupR, e_get0, e_iadd, e_iconst, e_lk, e_lk0, e_lk1, e_nil, e_put0, l_ldA0, wRef_some, EE_n, EE_s2, h3, e2, lc_lt, lc_le, lc_gt, lc_ge, lc_eq, true_and, and_true, List.length_cons, List.length_nil, ab_ia, Nat.reduceAdd, Nat.reduceLeDiff, Nat.reduceEqDiff, Nat.reduceLT, Int.reduceLT, Int.reduceLE, Int.reduceEq, Int.reduceNeg, true_or, or_true, false_or, or_false, not_false_eq_true, not_true_eq_false, false_implies, true_implies, forall_const, implies_true, Nat.zero_le, Nat.le_refl]
  refine ⟨⟨by omega, by omega⟩, ?_⟩
  refine go_33_31 ?_
  simp only [sg_33_31, cl_I, cl_L, cl_R, e_aload_n, e_cv2, e_iload_n, e_iret1, e_nil, fl_0, fl_I, fl_L, fl_R, l_ld1, l_ldA0, rk_1, EE_n, EE_s2, lc_lt, lc_le, lc_gt, lc_ge, lc_eq, true_and, and_true, List.length_cons, List.length_nil, ab_ia, Nat.reduceAdd, Nat.reduceLeDiff, Nat.reduceEqDiff, Nat.reduceLT, Int.reduceLT, Int.reduceLE, Int.reduceEq, Int.reduceNeg, true_or, or_true, false_or, or_false, not_false_eq_true, not_true_eq_false, false_implies, true_implies, forall_const, implies_true, Nat.zero_le, Nat.le_refl]
  refine (r_clay3 (by rw [ups_self]; rfl) (by rw [ups_ne2 (by decide)]; exact h5) hce (by rw [e1]; exact hp)).mono ?_
  rintro r D' ⟨rfl, rfl⟩
  try simp only [lc_lt, lc_le, lc_gt, lc_ge, lc_eq, true_and, and_true, List.length_cons, List.length_nil, ab_ia, Nat.reduceAdd, Nat.reduceLeDiff, Nat.reduceEqDiff, Nat.reduceLT, Int.reduceLT, Int.reduceLE, Int.reduceEq, Int.reduceNeg, true_or, or_true, false_or, or_false, not_false_eq_true, not_true_eq_false, false_implies, true_implies, forall_const, implies_true, Nat.zero_le, Nat.le_refl]
  refine retI ⟨rfl, frR_ups (by omega) (frR_ups (by omega) (frR_ups (by omega) (frR_ups (by omega) frR.refl))), rg_u2 (rg_u2 (rg_u5 (by omega) (rg_u2 hr))), ?_, ?_⟩
  · rw [ups_self, e1]
  · rw [ups_ne2 (by decide), ups_self]
theorem r_goes_R0 {f : Int} (hr : rg D N C) (h2 : D 2 2 = 82) (h3 : D 2 3 = 0) (hf : 0 ≤ f ∧ f ≤ 9) : CI 33 [vR 2, vI f] (EE L, D) (fun r D' => ((f < 3 ∧ N (5 + f) = -1) ∧ r = 1 ∧ frR D D' ∧ rg D' N C ∧ D' 2 1 = D 2 1 ∧ D' 2 2 = 82 ∧ D' 2 3 = 1 ∧ D' 2 6 = f) ∨ (¬ (f < 3 ∧ N (5 + f) = -1) ∧ r = 0 ∧ frR D D')) := by
  have e2 : ups D 2 3 (0 + 1) 2 2 = 82 := by rw [ups_ne2 (by decide), h2]
  refine Sx.un (y := 33) (n := 0) (lo := [vR 2, vI f]) (st := []) (u := (0, 0)) ?_
  refine go_33_0 ?_
  simp only [sg_33_0, cl_I, cl_L, cl_R, e_bipush, e_icmp_le, e_iconst, e_if_lt, e_iload_n, e_iret1, e_nil, l_ld1, lc_lt, lc_le, lc_gt, lc_ge, lc_eq, true_and, and_true, List.length_cons, List.length_nil, ab_ia, Nat.reduceAdd, Nat.reduceLeDiff, Nat.reduceEqDiff, Nat.reduceLT, Int.reduceLT, Int.reduceLE, Int.reduceEq, Int.reduceNeg, true_or, or_true, false_or, or_false, not_false_eq_true, not_true_eq_false, false_implies, true_implies, forall_const, implies_true, Nat.zero_le, Nat.le_refl]
  refine ⟨fun h => absurd h (by omega), fun _ => ⟨fun _ => ?_, fun h => absurd hf.2 h⟩⟩
  refine go_33_7 ?_
  simp only [sg_33_7, cl_I, cl_L, cl_R, e_aload_n, e_dupI, e_dupR, e_get0, e_iadd, e_iconst, e_lk, e_lk0, e_lk1, e_nil, e_put0, l_ldA0, wRef_some, EE_n, EE_s2, h3, e2, lc_lt, lc_le, lc_gt, lc_ge, lc_eq, true_and, and_true, List.length_cons, List.length_nil, ab_ia, Nat.reduceAdd, Nat.reduceLeDiff, Nat.reduceEqDiff, Nat.reduceLT, Int.reduceLT, Int.reduceLE, Int.reduceEq, Int.reduceNeg, true_or, or_true, false_or, or_false, not_false_eq_true, not_true_eq_false, false_implies, true_implies, forall_const, implies_true, Nat.zero_le, Nat.le_refl]
  refine ⟨⟨by omega, by omega⟩, ?_⟩
  refine go_33_35 ?_
  simp only [sg_33_35, cl_I, cl_L, cl_R, e_aload_n, e_cv2, e_iload_n, e_iret1, e_nil, fl_0, fl_I, fl_L, fl_R, l_ld1, l_ldA0, rk_1, EE_n, EE_s2, lc_lt, lc_le, lc_gt, lc_ge, lc_eq, true_and, and_true, List.length_cons, List.length_nil, ab_ia, Nat.reduceAdd, Nat.reduceLeDiff, Nat.reduceEqDiff, Nat.reduceLT, Int.reduceLT, Int.reduceLE, Int.reduceEq, Int.reduceNeg, true_or, or_true, false_or, or_false, not_false_eq_true, not_true_eq_false, false_implies, true_implies, forall_const, implies_true, Nat.zero_le, Nat.le_refl]
  refine (r_wood1 (rg_u2 hr) (by rw [ups_self]; rfl) hf).mono ?_
  rintro r D' ⟨⟨c, rfl⟩ | ⟨c, rfl⟩, rfl⟩
  · try simp only [lc_lt, lc_le, lc_gt, lc_ge, lc_eq, true_and, and_true, List.length_cons, List.length_nil, ab_ia, Nat.reduceAdd, Nat.reduceLeDiff, Nat.reduceEqDiff, Nat.reduceLT, Int.reduceLT, Int.reduceLE, Int.reduceEq, Int.reduceNeg, true_or, or_true, false_or, or_false, not_false_eq_true, not_true_eq_false, false_implies, true_implies, forall_const, implies_true, Nat.zero_le, Nat.le_refl]
    refine retI (Or.inl ⟨c, rfl, frR_ups (by omega) (frR_ups (by omega) frR.refl), rg_u2 (rg_u2 hr), ?_, ?_, ?_, ups_self⟩)
    · rw [ups_ne2 (by decide), ups_ne2 (by decide)]
    · rw [ups_ne2 (by decide), e2]
    · rw [ups_ne2 (by decide), ups_self]; rfl
  · try simp only [lc_lt, lc_le, lc_gt, lc_ge, lc_eq, true_and, and_true, List.length_cons, List.length_nil, ab_ia, Nat.reduceAdd, Nat.reduceLeDiff, Nat.reduceEqDiff, Nat.reduceLT, Int.reduceLT, Int.reduceLE, Int.reduceEq, Int.reduceNeg, true_or, or_true, false_or, or_false, not_false_eq_true, not_true_eq_false, false_implies, true_implies, forall_const, implies_true, Nat.zero_le, Nat.le_refl]
    exact retI (Or.inr ⟨c, rfl, frR_ups (by omega) (frR_ups (by omega) frR.refl)⟩)
theorem r_goes_R1 {f wd : Int} (hr : rg D N C) (h2 : D 2 2 = 82) (h3 : D 2 3 = 1) (h6 : D 2 6 = wd) (hw : 0 ≤ wd ∧ wd < 3) (hp : 0 ≤ D 2 1 ∧ D 2 1 ≤ 100) (hf : 0 ≤ f ∧ f ≤ 9) : CI 33 [vR 2, vI f] (EE L, D) (fun r D' => (1 ≤ f ∧ r = 1 ∧ frR D D' ∧ rg D' (st1 N (5 + wd) f) C ∧ D' 2 1 = D 2 1 + 1 ∧ D' 2 2 = 0) ∨ (¬ 1 ≤ f ∧ r = 0 ∧ frR D D')) := by
  have e2 : ups D 2 3 (1 + 1) 2 2 = 82 := by rw [ups_ne2 (by decide), h2]
  have e1 : ups D 2 3 (1 + 1) 2 1 = D 2 1 := ups_ne2 (by decide)
  refine Sx.un (y := 33) (n := 0) (lo := [vR 2, vI f]) (st := []) (u := (0, 0)) ?_
  refine go_33_0 ?_
  simp only [sg_33_0, cl_I, cl_L, cl_R, e_bipush, e_icmp_le, e_iconst, e_if_lt, e_iload_n, e_iret1, e_nil, l_ld1, lc_lt, lc_le, lc_gt, lc_ge, lc_eq, true_and, and_true, List.length_cons, List.length_nil, ab_ia, Nat.reduceAdd, Nat.reduceLeDiff, Nat.reduceEqDiff, Nat.reduceLT, Int.reduceLT, Int.reduceLE, Int.reduceEq, Int.reduceNeg, true_or, or_true, false_or, or_false, not_false_eq_true, not_true_eq_false, false_implies, true_implies, forall_const, implies_true, Nat.zero_le, Nat.le_refl]
  refine ⟨fun h => absurd h (by omega), fun _ => ⟨fun _ => ?_, fun h => absurd hf.2 h⟩⟩
  refine go_33_7 ?_
  simp only [sg_33_7, cl_I, cl_L, cl_R, e_aload_n, e_dupI, e_dupR, e_get0, e_iadd, e_iconst, e_lk, e_lk0, e_lk1, e_nil, e_put0, l_ldA0, wRef_some, EE_n, EE_s2, h3, e2, lc_lt, lc_le, lc_gt, lc_ge, lc_eq, true_and, and_true, List.length_cons, List.length_nil, ab_ia, Nat.reduceAdd, Nat.reduceLeDiff, Nat.reduceEqDiff, Nat.reduceLT, Int.reduceLT, Int.reduceLE, Int.reduceEq, Int.reduceNeg, true_or, or_true, false_or, or_false, not_false_eq_true, not_true_eq_false, false_implies, true_implies, forall_const, implies_true, Nat.zero_le, Nat.le_refl]
  refine ⟨⟨by omega, by omega⟩, ?_⟩
  refine go_33_35 ?_
  simp only [sg_33_35, cl_I, cl_L, cl_R, e_aload_n, e_cv2, e_iload_n, e_iret1, e_nil, fl_0, fl_I, fl_L, fl_R, l_ld1, l_ldA0, rk_1, EE_n, EE_s2, lc_lt, lc_le, lc_gt, lc_ge, lc_eq, true_and, and_true, List.length_cons, List.length_nil, ab_ia, Nat.reduceAdd, Nat.reduceLeDiff, Nat.reduceEqDiff, Nat.reduceLT, Int.reduceLT, Int.reduceLE, Int.reduceEq, Int.reduceNeg, true_or, or_true, false_or, or_false, not_false_eq_true, not_true_eq_false, false_implies, true_implies, forall_const, implies_true, Nat.zero_le, Nat.le_refl]
  refine (r_wood2 (by rw [ups_self]; rfl) (by rw [ups_ne2 (by decide)]; exact h6) hw (by rw [e1]; exact hp)).mono ?_
  rintro r D' (⟨c, rfl, rfl⟩ | ⟨c, rfl, rfl⟩)
  · try simp only [lc_lt, lc_le, lc_gt, lc_ge, lc_eq, true_and, and_true, List.length_cons, List.length_nil, ab_ia, Nat.reduceAdd, Nat.reduceLeDiff, Nat.reduceEqDiff, Nat.reduceLT, Int.reduceLT, Int.reduceLE, Int.reduceEq, Int.reduceNeg, true_or, or_true, false_or, or_false, not_false_eq_true, not_true_eq_false, false_implies, true_implies, forall_const, implies_true, Nat.zero_le, Nat.le_refl]
    refine retI (Or.inl ⟨c, rfl, frR_ups (by omega) (frR_ups (by omega) (frR_ups (by omega) (frR_ups (by omega) frR.refl))), rg_u2 (rg_u2 (rg_u4 (by omega) (rg_u2 hr))), ?_, ?_⟩)
    · rw [ups_self, e1]
    · rw [ups_ne2 (by decide), ups_self]
  · try simp only [lc_lt, lc_le, lc_gt, lc_ge, lc_eq, true_and, and_true, List.length_cons, List.length_nil, ab_ia, Nat.reduceAdd, Nat.reduceLeDiff, Nat.reduceEqDiff, Nat.reduceLT, Int.reduceLT, Int.reduceLE, Int.reduceEq, Int.reduceNeg, true_or, or_true, false_or, or_false, not_false_eq_true, not_true_eq_false, false_implies, true_implies, forall_const, implies_true, Nat.zero_le, Nat.le_refl]
    exact retI (Or.inr ⟨c, rfl, frR_ups (by omega) frR.refl⟩)
theorem r_goes_O {f b : Int} (hr : rg D N C) (h2 : D 2 2 = b) (h3 : D 2 3 = 0) (hb : b ≠ 68 ∧ b ≠ 82 ∧ 0 ≤ nOf b) (hp : 0 ≤ D 2 1 ∧ D 2 1 ≤ 100) (hf : 0 ≤ f ∧ f ≤ 9) : CI 33 [vR 2, vI f] (EE L, D) (fun r D' => r = 1 ∧ frR D D' ∧ rg D' (st1 N (nOf b) f) C ∧ D' 2 1 = D 2 1 + 1 ∧ D' 2 2 = 0) := by
  have e2 : ups D 2 3 (0 + 1) 2 2 = b := by rw [ups_ne2 (by decide), h2]
  have e1 : ups D 2 3 (0 + 1) 2 1 = D 2 1 := ups_ne2 (by decide)
  have hb4 := nOf_bd (b := b)
  have h78 : b ≠ 78 := fun q => by
    subst q
    exact absurd hb.2.2 (by decide)
  refine Sx.un (y := 33) (n := 0) (lo := [vR 2, vI f]) (st := []) (u := (0, 0)) ?_
  refine go_33_0 ?_
  simp only [sg_33_0, cl_I, cl_L, cl_R, e_bipush, e_icmp_le, e_iconst, e_if_lt, e_iload_n, e_iret1, e_nil, l_ld1, lc_lt, lc_le, lc_gt, lc_ge, lc_eq, true_and, and_true, List.length_cons, List.length_nil, ab_ia, Nat.reduceAdd, Nat.reduceLeDiff, Nat.reduceEqDiff, Nat.reduceLT, Int.reduceLT, Int.reduceLE, Int.reduceEq, Int.reduceNeg, true_or, or_true, false_or, or_false, not_false_eq_true, not_true_eq_false, false_implies, true_implies, forall_const, implies_true, Nat.zero_le, Nat.le_refl]
  refine ⟨fun h => absurd h (by omega), fun _ => ⟨fun _ => ?_, fun h => absurd hf.2 h⟩⟩
  refine go_33_7 ?_
  simp only [sg_33_7, cl_I, cl_L, cl_R, e_aload_n, e_dupI, e_dupR, e_get0, e_iadd, e_iconst, e_lk, e_lk0, e_lk1, e_nil, e_put0, l_ldA0, wRef_some, EE_n, EE_s2, h3, e2, lc_lt, lc_le, lc_gt, lc_ge, lc_eq, true_and, and_true, List.length_cons, List.length_nil, ab_ia, Nat.reduceAdd, Nat.reduceLeDiff, Nat.reduceEqDiff, Nat.reduceLT, Int.reduceLT, Int.reduceLE, Int.reduceEq, Int.reduceNeg, true_or, or_true, false_or, or_false, not_false_eq_true, not_true_eq_false, false_implies, true_implies, forall_const, implies_true, Nat.zero_le, Nat.le_refl]
  refine ⟨⟨by omega, by omega⟩, fun h => absurd h hb.1, fun _ => ⟨fun h => absurd h h78, fun _ => ⟨fun h => absurd h hb.2.1, fun _ => ?_⟩⟩⟩
  refine go_33_39 ?_
  simp only [sg_33_39, cl_I, cl_L, cl_R, e_aload_n, e_cs1, e_cv3, e_get0, e_iload_n, e_iret1, e_nil, fl_0, fl_I, fl_L, fl_R, l_ld1, l_ldA0, rk_1, wRef_some, EE_n, EE_s2, e2, lc_lt, lc_le, lc_gt, lc_ge, lc_eq, true_and, and_true, List.length_cons, List.length_nil, ab_ia, Nat.reduceAdd, Nat.reduceLeDiff, Nat.reduceEqDiff, Nat.reduceLT, Int.reduceLT, Int.reduceLE, Int.reduceEq, Int.reduceNeg, true_or, or_true, false_or, or_false, not_false_eq_true, not_true_eq_false, false_implies, true_implies, forall_const, implies_true, Nat.zero_le, Nat.le_refl]
  refine CI.use r_numberOf ?_
  try simp only [EE_n, EE_s2, lc_lt, lc_le, lc_gt, lc_ge, lc_eq, true_and, and_true, List.length_cons, List.length_nil, ab_ia, Nat.reduceAdd, Nat.reduceLeDiff, Nat.reduceEqDiff, Nat.reduceLT, Int.reduceLT, Int.reduceLE, Int.reduceEq, Int.reduceNeg, true_or, or_true, false_or, or_false, not_false_eq_true, not_true_eq_false, false_implies, true_implies, forall_const, implies_true, Nat.zero_le, Nat.le_refl]
  refine CI.use (r_tells (by omega) (by rw [e1]; exact hp)) ?_
  try simp only [lc_lt, lc_le, lc_gt, lc_ge, lc_eq, true_and, and_true, List.length_cons, List.length_nil, ab_ia, Nat.reduceAdd, Nat.reduceLeDiff, Nat.reduceEqDiff, Nat.reduceLT, Int.reduceLT, Int.reduceLE, Int.reduceEq, Int.reduceNeg, true_or, or_true, false_or, or_false, not_false_eq_true, not_true_eq_false, false_implies, true_implies, forall_const, implies_true, Nat.zero_le, Nat.le_refl]
  refine retI ⟨rfl, frR_ups (by omega) (frR_ups (by omega) (frR_ups (by omega) (frR_ups (by omega) frR.refl))), rg_u2 (rg_u2 (rg_u4 (by omega) (rg_u2 hr))), ?_, ?_⟩
  · rw [ups_self, e1]
  · rw [ups_ne2 (by decide), ups_self]
/-- the text as both read it -/
def txt (D : ab_D) (p : Nat) (T : Int → Int) (len : Int) : Prop := ∀ j : Int, 0 ≤ j → j < len → D p j.toNat = T j ∧ 0 ≤ T j ∧ T j ≤ 255
variable {T : Int → Int} {Q : Option ab_V → ab_H → Prop} {len i : Int} {x4 : ab_V}
theorem r_end_bad (hl : 0 ≤ len ∧ len ≤ 64) (hi : i = len) (h : D 2 1 = 0 ∨ D 2 2 ≠ 0) (q : Q (some (.inl i)) (EE L, D)) : Sx 31 11 [vR 2, vR 1, vI len, vI i, x4] [] (EE L, D) (0, 0) Q := by
  subst hi
  have fin : Sx 31 41 [vR 2, vR 1, vI i, vI i, x4] [] (EE L, D) (0, 0) Q := by
    refine go_31_41 ?_
    simp only [sg_31_41, cl_I, cl_L, cl_R, e_aload_n, e_get0, e_goto, e_if_eq, e_iload_n, e_nil, l_ld2, l_ldA0, wRef_some, EE_n, EE_s2, lc_lt, lc_le, lc_gt, lc_ge, lc_eq, true_and, and_true, List.length_cons, List.length_nil, ab_ia, Nat.reduceAdd, Nat.reduceLeDiff, Nat.reduceEqDiff, Nat.reduceLT, Int.reduceLT, Int.reduceLE, Int.reduceEq, Int.reduceNeg, true_or, or_true, false_or, or_false, not_false_eq_true, not_true_eq_false, false_implies, true_implies, forall_const, implies_true, Nat.zero_le, Nat.le_refl]
    refine ⟨fun h1 => ?_, fun h1 => ⟨fun h2 => ?_, fun h2 => ?_⟩⟩
    · refine go_31_47 ?_
      simp only [sg_31_47, cl_I, cl_L, cl_R, e_goto, e_iload_n, e_nil, l_ld2, lc_lt, lc_le, lc_gt, lc_ge, lc_eq, true_and, and_true, List.length_cons, List.length_nil, ab_ia, Nat.reduceAdd, Nat.reduceLeDiff, Nat.reduceEqDiff, Nat.reduceLT, Int.reduceLT, Int.reduceLE, Int.reduceEq, Int.reduceNeg, true_or, or_true, false_or, or_false, not_false_eq_true, not_true_eq_false, false_implies, true_implies, forall_const, implies_true, Nat.zero_le, Nat.le_refl]
      refine go_31_50 ?_
      simp only [sg_31_50, cl_I, cl_L, cl_R, e_iret0, e_nil, lc_lt, lc_le, lc_gt, lc_ge, lc_eq, true_and, and_true, List.length_cons, List.length_nil, ab_ia, Nat.reduceAdd, Nat.reduceLeDiff, Nat.reduceEqDiff, Nat.reduceLT, Int.reduceLT, Int.reduceLE, Int.reduceEq, Int.reduceNeg, true_or, or_true, false_or, or_false, not_false_eq_true, not_true_eq_false, false_implies, true_implies, forall_const, implies_true, Nat.zero_le, Nat.le_refl]
      exact q
    · rcases h with h | h
      · exact absurd h h1
      · exact absurd h2 h
    · refine go_31_50 ?_
      simp only [sg_31_50, cl_I, cl_L, cl_R, e_iret0, e_nil, lc_lt, lc_le, lc_gt, lc_ge, lc_eq, true_and, and_true, List.length_cons, List.length_nil, ab_ia, Nat.reduceAdd, Nat.reduceLeDiff, Nat.reduceEqDiff, Nat.reduceLT, Int.reduceLT, Int.reduceLE, Int.reduceEq, Int.reduceNeg, true_or, or_true, false_or, or_false, not_false_eq_true, not_true_eq_false, false_implies, true_implies, forall_const, implies_true, Nat.zero_le, Nat.le_refl]
      exact q
  refine go_31_11 ?_
  simp only [sg_31_11, cl_I, cl_L, cl_R, e_alen, e_aload_n, e_cv2, e_get0, e_goto, e_iaload, e_icmp_ge, e_if_ne, e_iload_n, e_nil, fl_0, fl_I, fl_L, fl_R, l_ld2, l_ld3, l_ldA0, l_ldA1, rk_1, wRef_some, EE_n, EE_s2, EE_n, EE_s1, lc_lt, lc_le, lc_gt, lc_ge, lc_eq, true_and, and_true, List.length_cons, List.length_nil, ab_ia, Nat.reduceAdd, Nat.reduceLeDiff, Nat.reduceEqDiff, Nat.reduceLT, Int.reduceLT, Int.reduceLE, Int.reduceEq, Int.reduceNeg, true_or, or_true, false_or, or_false, not_false_eq_true, not_true_eq_false, false_implies, true_implies, forall_const, implies_true, Nat.zero_le, Nat.le_refl]
  exact ⟨fun _ => fin, fun h => absurd (Int.le_refl i) h⟩
theorem r_end_ok (hi : i = len) (h1 : D 2 1 ≠ 0) (h2 : D 2 2 = 0) (q : Q (some (.inl (-9))) (EE L, D)) : Sx 31 11 [vR 2, vR 1, vI len, vI i, x4] [] (EE L, D) (0, 0) Q := by
  subst hi
  refine go_31_11 ?_
  simp only [sg_31_11, cl_I, cl_L, cl_R, e_alen, e_aload_n, e_cv2, e_get0, e_goto, e_iaload, e_icmp_ge, e_if_ne, e_iload_n, e_nil, fl_0, fl_I, fl_L, fl_R, l_ld2, l_ld3, l_ldA0, l_ldA1, rk_1, wRef_some, EE_n, EE_s2, EE_n, EE_s1, lc_lt, lc_le, lc_gt, lc_ge, lc_eq, true_and, and_true, List.length_cons, List.length_nil, ab_ia, Nat.reduceAdd, Nat.reduceLeDiff, Nat.reduceEqDiff, Nat.reduceLT, Int.reduceLT, Int.reduceLE, Int.reduceEq, Int.reduceNeg, true_or, or_true, false_or, or_false, not_false_eq_true, not_true_eq_false, false_implies, true_implies, forall_const, implies_true, Nat.zero_le, Nat.le_refl]
  refine ⟨fun _ => ?_, fun h => absurd (Int.le_refl i) h⟩
  refine go_31_41 ?_
  simp only [sg_31_41, cl_I, cl_L, cl_R, e_aload_n, e_get0, e_goto, e_if_eq, e_iload_n, e_nil, l_ld2, l_ldA0, wRef_some, EE_n, EE_s2, lc_lt, lc_le, lc_gt, lc_ge, lc_eq, true_and, and_true, List.length_cons, List.length_nil, ab_ia, Nat.reduceAdd, Nat.reduceLeDiff, Nat.reduceEqDiff, Nat.reduceLT, Int.reduceLT, Int.reduceLE, Int.reduceEq, Int.reduceNeg, true_or, or_true, false_or, or_false, not_false_eq_true, not_true_eq_false, false_implies, true_implies, forall_const, implies_true, Nat.zero_le, Nat.le_refl]
  refine ⟨fun h => absurd h h1, fun _ => ⟨fun _ => ?_, fun h => absurd h2 h⟩⟩
  refine go_31_49 ?_
  simp only [sg_31_49, cl_I, cl_L, cl_R, e_bipush, e_iret0, e_nil, lc_lt, lc_le, lc_gt, lc_ge, lc_eq, true_and, and_true, List.length_cons, List.length_nil, ab_ia, Nat.reduceAdd, Nat.reduceLeDiff, Nat.reduceEqDiff, Nat.reduceLT, Int.reduceLT, Int.reduceLE, Int.reduceEq, Int.reduceNeg, true_or, or_true, false_or, or_false, not_false_eq_true, not_true_eq_false, false_implies, true_implies, forall_const, implies_true, Nat.zero_le, Nat.le_refl]
  exact q
theorem r_first {P : Int → ab_D → Prop} (hi : 0 ≤ i ∧ i < len ∧ len ≤ 64) (hT : txt D 1 T len) (hl : D 2 2 = 0) (c : CI 32 [vR 2, vI (T i)] (EE L, D) P) (kr : ∀ r D', P r D' → r = 0 ∨ r = 1)
    (k1 : ∀ D', P 1 D' → Sx 31 11 [vR 2, vR 1, vI len, vI (i + 1), vI 1] [] (EE L, D') (0, 0) Q) (k0 : ∀ D', P 0 D' → Q (some (.inl i)) (EE L, D')) : Sx 31 11 [vR 2, vR 1, vI len, vI i, x4] [] (EE L, D) (0, 0) Q := by
  obtain ⟨e, b0, b1⟩ := hT i (by omega) (by omega)
  refine go_31_11 ?_
  simp only [sg_31_11, cl_I, cl_L, cl_R, e_alen, e_aload_n, e_cv2, e_get0, e_goto, e_iaload, e_icmp_ge, e_if_ne, e_iload_n, e_nil, fl_0, fl_I, fl_L, fl_R, l_ld2, l_ld3, l_ldA0, l_ldA1, rk_1, wRef_some, EE_n, EE_s2, EE_n, EE_s1, e, hl, lc_lt, lc_le, lc_gt, lc_ge, lc_eq, true_and, and_true, List.length_cons, List.length_nil, ab_ia, Nat.reduceAdd, Nat.reduceLeDiff, Nat.reduceEqDiff, Nat.reduceLT, Int.reduceLT, Int.reduceLE, Int.reduceEq, Int.reduceNeg, true_or, or_true, false_or, or_false, not_false_eq_true, not_true_eq_false, false_implies, true_implies, forall_const, implies_true, Nat.zero_le, Nat.le_refl]
  refine ⟨fun h => absurd h (by omega), fun _ => ⟨fun h => absurd h (by omega), fun _ => ⟨by omega, ?_⟩⟩⟩
  refine c.mono ?_
  intro r D' hp
  refine go_31_34 ?_
  simp only [sg_31_34, cl_I, cl_L, cl_R, e_if_ne, e_iload, e_iload_n, e_iret0, e_istore, e_nil, l_ld3, l_ld4, l_st4, lc_lt, lc_le, lc_gt, lc_ge, lc_eq, true_and, and_true, List.length_cons, List.length_nil, ab_ia, Nat.reduceAdd, Nat.reduceLeDiff, Nat.reduceEqDiff, Nat.reduceLT, Int.reduceLT, Int.reduceLE, Int.reduceEq, Int.reduceNeg, true_or, or_true, false_or, or_false, not_false_eq_true, not_true_eq_false, false_implies, true_implies, forall_const, implies_true, Nat.zero_le, Nat.le_refl]
  rcases kr r D' hp with rfl | rfl
  · try simp only [lc_lt, lc_le, lc_gt, lc_ge, lc_eq, true_and, and_true, List.length_cons, List.length_nil, ab_ia, Nat.reduceAdd, Nat.reduceLeDiff, Nat.reduceEqDiff, Nat.reduceLT, Int.reduceLT, Int.reduceLE, Int.reduceEq, Int.reduceNeg, true_or, or_true, false_or, or_false, not_false_eq_true, not_true_eq_false, false_implies, true_implies, forall_const, implies_true, Nat.zero_le, Nat.le_refl]
    exact k0 D' hp
  · try simp only [lc_lt, lc_le, lc_gt, lc_ge, lc_eq, true_and, and_true, List.length_cons, List.length_nil, ab_ia, Nat.reduceAdd, Nat.reduceLeDiff, Nat.reduceEqDiff, Nat.reduceLT, Int.reduceLT, Int.reduceLE, Int.reduceEq, Int.reduceNeg, true_or, or_true, false_or, or_false, not_false_eq_true, not_true_eq_false, false_implies, true_implies, forall_const, implies_true, Nat.zero_le, Nat.le_refl]
    refine go_31_39 ?_
    simp only [sg_31_39, cl_I, cl_L, cl_R, e_goto, e_iinc, e_nil, l_inc3, lc_lt, lc_le, lc_gt, lc_ge, lc_eq, true_and, and_true, List.length_cons, List.length_nil, ab_ia, Nat.reduceAdd, Nat.reduceLeDiff, Nat.reduceEqDiff, Nat.reduceLT, Int.reduceLT, Int.reduceLE, Int.reduceEq, Int.reduceNeg, true_or, or_true, false_or, or_false, not_false_eq_true, not_true_eq_false, false_implies, true_implies, forall_const, implies_true, Nat.zero_le, Nat.le_refl]
    exact ⟨⟨by omega, by omega⟩, k1 D' hp⟩
theorem r_step {P : Int → ab_D → Prop} (hi : 0 ≤ i ∧ i < len ∧ len ≤ 64) (hT : txt D 1 T len) (hl : D 2 2 ≠ 0) (c : CI 33 [vR 2, vI (T i - 48)] (EE L, D) P) (kr : ∀ r D', P r D' → r = 0 ∨ r = 1)
    (k1 : ∀ D', P 1 D' → Sx 31 11 [vR 2, vR 1, vI len, vI (i + 1), vI 1] [] (EE L, D') (0, 0) Q) (k0 : ∀ D', P 0 D' → Q (some (.inl i)) (EE L, D')) : Sx 31 11 [vR 2, vR 1, vI len, vI i, x4] [] (EE L, D) (0, 0) Q := by
  obtain ⟨e, b0, b1⟩ := hT i (by omega) (by omega)
  refine go_31_11 ?_
  simp only [sg_31_11, cl_I, cl_L, cl_R, e_alen, e_aload_n, e_cv2, e_get0, e_goto, e_iaload, e_icmp_ge, e_if_ne, e_iload_n, e_nil, fl_0, fl_I, fl_L, fl_R, l_ld2, l_ld3, l_ldA0, l_ldA1, rk_1, wRef_some, EE_n, EE_s2, EE_n, EE_s1, e, lc_lt, lc_le, lc_gt, lc_ge, lc_eq, true_and, and_true, List.length_cons, List.length_nil, ab_ia, Nat.reduceAdd, Nat.reduceLeDiff, Nat.reduceEqDiff, Nat.reduceLT, Int.reduceLT, Int.reduceLE, Int.reduceEq, Int.reduceNeg, true_or, or_true, false_or, or_false, not_false_eq_true, not_true_eq_false, false_implies, true_implies, forall_const, implies_true, Nat.zero_le, Nat.le_refl]
  refine ⟨fun h => absurd h (by omega), fun _ => ⟨fun h => absurd h (by omega), fun _ => ⟨fun _ => ?_, fun h => absurd hl h⟩⟩⟩
  refine go_31_27 ?_
  simp only [sg_31_27, cl_I, cl_L, cl_R, e_aload_n, e_bipush, e_cv2, e_iaload, e_if_ne, e_iload, e_iload_n, e_iret0, e_istore, e_isub, e_nil, fl_0, fl_I, fl_L, fl_R, l_ld3, l_ld4, l_ldA0, l_ldA1, l_st4, rk_1, EE_n, EE_s2, EE_n, EE_s1, e, lc_lt, lc_le, lc_gt, lc_ge, lc_eq, true_and, and_true, List.length_cons, List.length_nil, ab_ia, Nat.reduceAdd, Nat.reduceLeDiff, Nat.reduceEqDiff, Nat.reduceLT, Int.reduceLT, Int.reduceLE, Int.reduceEq, Int.reduceNeg, true_or, or_true, false_or, or_false, not_false_eq_true, not_true_eq_false, false_implies, true_implies, forall_const, implies_true, Nat.zero_le, Nat.le_refl]
  refine ⟨by omega, ⟨by omega, by omega⟩, ?_⟩
  refine c.mono ?_
  intro r D' hp
  rcases kr r D' hp with rfl | rfl
  · try simp only [lc_lt, lc_le, lc_gt, lc_ge, lc_eq, true_and, and_true, List.length_cons, List.length_nil, ab_ia, Nat.reduceAdd, Nat.reduceLeDiff, Nat.reduceEqDiff, Nat.reduceLT, Int.reduceLT, Int.reduceLE, Int.reduceEq, Int.reduceNeg, true_or, or_true, false_or, or_false, not_false_eq_true, not_true_eq_false, false_implies, true_implies, forall_const, implies_true, Nat.zero_le, Nat.le_refl]
    exact k0 D' hp
  · try simp only [lc_lt, lc_le, lc_gt, lc_ge, lc_eq, true_and, and_true, List.length_cons, List.length_nil, ab_ia, Nat.reduceAdd, Nat.reduceLeDiff, Nat.reduceEqDiff, Nat.reduceLT, Int.reduceLT, Int.reduceLE, Int.reduceEq, Int.reduceNeg, true_or, or_true, false_or, or_false, not_false_eq_true, not_true_eq_false, false_implies, true_implies, forall_const, implies_true, Nat.zero_le, Nat.le_refl]
    refine go_31_39 ?_
    simp only [sg_31_39, cl_I, cl_L, cl_R, e_goto, e_iinc, e_nil, l_inc3, lc_lt, lc_le, lc_gt, lc_ge, lc_eq, true_and, and_true, List.length_cons, List.length_nil, ab_ia, Nat.reduceAdd, Nat.reduceLeDiff, Nat.reduceEqDiff, Nat.reduceLT, Int.reduceLT, Int.reduceLE, Int.reduceEq, Int.reduceNeg, true_or, or_true, false_or, or_false, not_false_eq_true, not_true_eq_false, false_implies, true_implies, forall_const, implies_true, Nat.zero_le, Nat.le_refl]
    exact ⟨⟨by omega, by omega⟩, k1 D' hp⟩
/-- a figure is asked for -/
theorem r_fig {P1 P0 : ab_D → Prop} (hi : 0 ≤ i ∧ i ≤ len ∧ len ≤ 64) (hT : txt D 1 T len) (hl : D 2 2 ≠ 0) (kb : ¬ fig T len i → Q (some (.inl i)) (EE L, D))
    (kg : fig T len i → CI 33 [vR 2, vI (T i - 48)] (EE L, D) (fun r D' => (r = 1 ∧ P1 D') ∨ (r = 0 ∧ P0 D')))
    (k1 : ∀ D', fig T len i → P1 D' → Sx 31 11 [vR 2, vR 1, vI len, vI (i + 1), vI 1] [] (EE L, D') (0, 0) Q) (k0 : ∀ D', P0 D' → Q (some (.inl i)) (EE L, D')) : Sx 31 11 [vR 2, vR 1, vI len, vI i, x4] [] (EE L, D) (0, 0) Q := by
  by_cases h : i = len
  · exact r_end_bad (by omega) h (Or.inr hl) (kb (fun q => by have := q.1; omega))
  · by_cases hf : 0 ≤ T i - 48 ∧ T i - 48 ≤ 9
    · have hfig : fig T len i := ⟨by omega, hf⟩
      refine r_step (by omega) hT hl (kg hfig) ?_ ?_ ?_
      · rintro r D' (⟨rfl, _⟩ | ⟨rfl, _⟩)
        · exact Or.inr rfl
        · exact Or.inl rfl
      · rintro D' (⟨_, q⟩ | ⟨q, _⟩)
        · exact k1 D' hfig q
        · exact absurd q (by decide)
      · rintro D' (⟨q, _⟩ | ⟨_, q⟩)
        · exact absurd q (by decide)
        · exact k0 D' q
    · refine r_step (P := fun r D' => r = 0 ∧ D' = D) (by omega) hT hl (r_goes_out hf) (fun r D' q => Or.inl q.1) (fun D' q => absurd q.1 (by decide)) ?_
      rintro D' ⟨_, rfl⟩
      exact kb (fun q => hf q.2)
theorem txt_fr {D D' : ab_D} (h : frR D D') (hT : txt D 1 T len) : txt D' 1 T len := fun j j0 j1 => by
  rw [h 1 (by decide) (by decide) (by decide)]
  exact hT j j0 j1
theorem r_parts (hT : txt D 1 T len) (hl : 0 ≤ len ∧ len ≤ 64) :
    ∀ (k : Nat) (i : Int) (N C : Int → Int) (pt : Int) (D1 : ab_D) (x4 : ab_V), 0 ≤ i → i ≤ len → len ≤ i + k → frR D D1 → rg D1 N C → D1 2 1 = pt → D1 2 2 = 0 → (1 ≤ pt ∧ pt ≤ i) → (2 ≤ N 0 ∧ N 0 ≤ 6) →
    (∀ r D', frR D D' → r = (rdP T len k i N C pt).1 → (r = -9 → rg D' (rdP T len k i N C pt).2.1 (rdP T len k i N C pt).2.2.1 ∧ D' 2 1 = (rdP T len k i N C pt).2.2.2) → Q (some (.inl r)) (EE L, D')) →
    Sx 31 11 [vR 2, vR 1, vI len, vI i, x4] [] (EE L, D1) (0, 0) Q := by
  intro k
  induction k with
  | zero =>
    intro i N C pt D1 x4 i0 i1 i2 hf hr hp hz hpt hn hq
    exact r_end_ok (by omega) (by omega) hz (hq (-9) D1 hf rfl (fun _ => ⟨hr, hp⟩))
  | succ k ih =>
    intro i N C pt D1 x4 i0 i1 i2 hf hr hp hz hpt hn hq
    by_cases hi : i < len
    · have hT1 := txt_fr hf hT
      have bad : ∀ p, (rdP T len (k + 1) i N C pt).1 = p → 0 ≤ p → ∀ D', frR D D' → Q (some (.inl p)) (EE L, D') := fun p h1 h2 D' hf' => hq p D' hf' h1.symm (fun h => absurd h (by omega))
      refine r_first (by omega) hT1 hz (r_begins hr hp (fun _ => hn)) ?_ ?_ ?_
      · rintro r D' ⟨⟨_, rfl⟩ | ⟨_, rfl⟩, _⟩
        · exact Or.inr rfl
        · exact Or.inl rfl
      · rintro D2 ⟨⟨ho, _⟩ | ⟨_, h⟩, rfl⟩
        · have f2 : frR D (ups (ups D1 2 2 (T i)) 2 3 0) := frR_ups (by omega) (frR_ups (by omega) hf)
          have r2 : rg (ups (ups D1 2 2 (T i)) 2 3 0) N C := rg_u2 (rg_u2 hr)
          have l2 : (ups (ups D1 2 2 (T i)) 2 3 0) 2 2 = T i := by rw [ups_ne2 (by decide), ups_self]
          have g2 : (ups (ups D1 2 2 (T i)) 2 3 0) 2 3 = 0 := ups_self
          have p2 : (ups (ups D1 2 2 (T i)) 2 3 0) 2 1 = pt := by rw [ups_ne2 (by decide), ups_ne2 (by decide), hp]
          generalize ups (ups D1 2 2 (T i)) 2 3 0 = D2 at f2 r2 l2 g2 p2
          rcases ho with ho | ⟨_, ⟨h68, a⟩ | ⟨h82, a⟩ | ⟨h68, h82, a⟩⟩
          · exact absurd ho.1 (by omega)
          · refine r_fig (P1 := fun D' => (T (i + 1) - 48 < N 0 ∧ hcIn (N 0) C (T (i + 1) - 48)) ∧ frR D2 D' ∧ rg D' N C ∧ D' 2 1 = D2 2 1 ∧ D' 2 2 = 68 ∧ D' 2 3 = 1 ∧ D' 2 4 = T (i + 1) - 48) (P0 := fun D' => ¬ (T (i + 1) - 48 < N 0 ∧ hcIn (N 0) C (T (i + 1) - 48)) ∧ frR D2 D') (by omega) (txt_fr f2 hT) (by omega) (fun hb => bad (i + 1) (by rw [rd_D1 hi h68 a (fun q => hb q.1)]) (by omega) D2 f2) (fun hg => (r_goes_D0 r2 (by omega) g2 hn hg.2).mono ?_) ?_ ?_
            · rintro r D' (⟨c, rfl, q⟩ | ⟨c, rfl, q⟩)
              · exact Or.inl ⟨rfl, c, q⟩
              · exact Or.inr ⟨rfl, c, q⟩
            · rintro D3 hg1 ⟨c1, f3, r3, p3, l3, g3, w3⟩
              have f3 := f2.trans f3
              have b1 : fig T len (i + 1) ∧ T (i + 1) - 48 < N 0 ∧ hcIn (N 0) C (T (i + 1) - 48) := ⟨hg1, c1⟩
              have q1 := hg1.1
              have q1' := hg1.2
              have q2 := c1.1
              rw [show i + 1 + 1 = i + 2 by omega]
              refine r_fig (P1 := fun D' => (T (i + 2) - 48 < N 0 ∧ C (10 * (T (i + 1) - 48) + (T (i + 2) - 48)) = -1) ∧ frR D3 D' ∧ rg D' N C ∧ D' 2 1 = D3 2 1 ∧ D' 2 2 = 68 ∧ D' 2 3 = 2 ∧ D' 2 5 = 10 * (T (i + 1) - 48) + (T (i + 2) - 48)) (P0 := fun D' => ¬ (T (i + 2) - 48 < N 0 ∧ C (10 * (T (i + 1) - 48) + (T (i + 2) - 48)) = -1) ∧ frR D3 D') (by omega) (txt_fr f3 hT) (by omega) (fun hb => bad (i + 2) (by rw [rd_D2 hi h68 a b1 (fun q => hb q.1)]) (by omega) D3 f3) (fun hg => (r_goes_D1 r3 (by omega) g3 w3 (by omega) hn hg.2).mono ?_) ?_ ?_
              · rintro r D' (⟨c, rfl, q⟩ | ⟨c, rfl, q⟩)
                · exact Or.inl ⟨rfl, c, q⟩
                · exact Or.inr ⟨rfl, c, q⟩
              · rintro D4 hg2 ⟨c2, f4, r4, p4, l4, g4, w4⟩
                have f4 := f3.trans f4
                have b2 : fig T len (i + 2) ∧ T (i + 2) - 48 < N 0 ∧ C (10 * (T (i + 1) - 48) + (T (i + 2) - 48)) = -1 := ⟨hg2, c2⟩
                have q3 := hg2.1
                have q3' := hg2.2
                have q4 := c2.1
                rw [show i + 2 + 1 = i + 3 by omega]
                refine r_fig (P1 := fun D' => frR D4 D' ∧ rg D' N (st1 C (10 * (T (i + 1) - 48) + (T (i + 2) - 48)) (T (i + 3) - 48)) ∧ D' 2 1 = D4 2 1 + 1 ∧ D' 2 2 = 0) (P0 := fun _ => False) (by omega) (txt_fr f4 hT) (by omega) (fun hb => bad (i + 3) (by rw [rd_D3 hi h68 a b1 b2 hb]) (by omega) D4 f4) (fun hg => (r_goes_D2 r4 (by omega) g4 w4 (by omega) (by omega) hg.2).mono (fun r D' q => Or.inl q)) ?_ (fun D' q => q.elim)
                rintro D5 hg3 ⟨f5, r5, p5, l5⟩
                have q5 := hg3.1
                have R := rd_D (k := k) (pt := pt) hi h68 a b1 b2 hg3
                rw [R] at hq
                rw [show i + 3 + 1 = i + 4 by omega]
                exact ih (i + 4) N _ (pt + 1) D5 _ (by omega) (by omega) (by omega) (f4.trans f5) r5 (by omega) l5 (by omega) hn hq
              · rintro D' ⟨c, f'⟩
                exact bad (i + 2) (by rw [rd_D2 hi h68 a b1 (fun q => c q.2)]) (by omega) D' (f3.trans f')
            · rintro D' ⟨c, f'⟩
              exact bad (i + 1) (by rw [rd_D1 hi h68 a (fun q => c q.2)]) (by omega) D' (f2.trans f')
          · refine r_fig (P1 := fun D' => (T (i + 1) - 48 < 3 ∧ N (5 + (T (i + 1) - 48)) = -1) ∧ frR D2 D' ∧ rg D' N C ∧ D' 2 1 = D2 2 1 ∧ D' 2 2 = 82 ∧ D' 2 3 = 1 ∧ D' 2 6 = T (i + 1) - 48) (P0 := fun D' => ¬ (T (i + 1) - 48 < 3 ∧ N (5 + (T (i + 1) - 48)) = -1) ∧ frR D2 D') (by omega) (txt_fr f2 hT) (by omega) (fun hb => bad (i + 1) (by rw [rd_R1 hi h82 a (fun q => hb q.1)]) (by omega) D2 f2) (fun hg => (r_goes_R0 r2 (by omega) g2 hg.2).mono ?_) ?_ ?_
            · rintro r D' (⟨c, rfl, q⟩ | ⟨c, rfl, q⟩)
              · exact Or.inl ⟨rfl, c, q⟩
              · exact Or.inr ⟨rfl, c, q⟩
            · rintro D3 hg1 ⟨c1, f3, r3, p3, l3, g3, w3⟩
              have f3 := f2.trans f3
              have b1 : fig T len (i + 1) ∧ T (i + 1) - 48 < 3 ∧ N (5 + (T (i + 1) - 48)) = -1 := ⟨hg1, c1⟩
              have q1 := hg1.1
              have q1' := hg1.2
              have q2 := c1.1
              rw [show i + 1 + 1 = i + 2 by omega]
              refine r_fig (P1 := fun D' => 1 ≤ T (i + 2) - 48 ∧ frR D3 D' ∧ rg D' (st1 N (5 + (T (i + 1) - 48)) (T (i + 2) - 48)) C ∧ D' 2 1 = D3 2 1 + 1 ∧ D' 2 2 = 0) (P0 := fun D' => ¬ 1 ≤ T (i + 2) - 48 ∧ frR D3 D') (by omega) (txt_fr f3 hT) (by omega) (fun hb => bad (i + 2) (by rw [rd_R2 hi h82 a b1 (fun q => hb q.1)]) (by omega) D3 f3) (fun hg => (r_goes_R1 r3 (by omega) g3 w3 (by omega) (by omega) hg.2).mono ?_) ?_ ?_
              · rintro r D' (⟨c, rfl, q⟩ | ⟨c, rfl, q⟩)
                · exact Or.inl ⟨rfl, c, q⟩
                · exact Or.inr ⟨rfl, c, q⟩
              · rintro D4 hg2 ⟨c2, f4, r4, p4, l4⟩
                have q3 := hg2.1
                have R := rd_R (k := k) (C := C) (pt := pt) hi h82 a b1 ⟨hg2, c2⟩
                rw [R] at hq
                rw [show i + 2 + 1 = i + 3 by omega]
                refine ih (i + 3) _ C (pt + 1) D4 _ (by omega) (by omega) (by omega) (f3.trans f4) r4 (by omega) l4 (by omega) ?_ hq
                unfold st1
                rw [if_neg (by omega)]
                exact hn
              · rintro D' ⟨c, f'⟩
                exact bad (i + 2) (by rw [rd_R2 hi h82 a b1 (fun q => c q.2)]) (by omega) D' (f3.trans f')
            · rintro D' ⟨c, f'⟩
              exact bad (i + 1) (by rw [rd_R1 hi h82 a (fun q => c q.2)]) (by omega) D' (f2.trans f')
          · have h0 : T i ≠ 0 := fun q => by
              rw [q] at a
              exact absurd a.1 (by decide)
            refine r_fig (P1 := fun D' => frR D2 D' ∧ rg D' (st1 N (nOf (T i)) (T (i + 1) - 48)) C ∧ D' 2 1 = D2 2 1 + 1 ∧ D' 2 2 = 0) (P0 := fun _ => False) (by omega) (txt_fr f2 hT) (by omega) (fun hb => bad (i + 1) (by rw [rd_O1 hi h68 h82 a hb]) (by omega) D2 f2) (fun hg => (r_goes_O r2 l2 g2 ⟨h68, h82, a.1⟩ (by omega) hg.2).mono (fun r D' q => Or.inl q)) ?_ (fun D' q => q.elim)
            rintro D3 hg1 ⟨f3, r3, p3, l3⟩
            have q1 := hg1.1
            have R := rd_O (k := k) (C := C) (pt := pt) hi h68 h82 a hg1
            rw [R] at hq
            rw [show i + 1 + 1 = i + 2 by omega]
            refine ih (i + 2) _ C (pt + 1) D3 _ (by omega) (by omega) (by omega) (f2.trans f3) r3 (by omega) l3 (by omega) ?_ hq
            have := nOf_bd (b := T i)
            unfold st1
            rw [if_neg (by omega)]
            exact hn
        · exact absurd h (by decide)
      · rintro D2 ⟨⟨_, h⟩ | ⟨ho, _⟩, rfl⟩
        · exact absurd h (by decide)
        · refine bad i ?_ (by omega) _ (frR_ups (by omega) (frR_ups (by omega) hf))
          by_cases h68 : T i = 68
          · rw [rd_D0 hi h68 (fun q => ho (Or.inr ⟨by omega, Or.inl ⟨h68, q⟩⟩))]
          · by_cases h82 : T i = 82
            · rw [rd_R0 hi h82 (fun q => ho (Or.inr ⟨by omega, Or.inr (Or.inl ⟨h82, q⟩)⟩))]
            · rw [rd_O0 hi h68 h82 (fun q => ho (Or.inr ⟨by omega, Or.inr (Or.inr ⟨h68, h82, q⟩)⟩))]
    · have R := rd_end (T := T) (len := len) (i := i) (pt := pt) (N := N) (C := C) (k := k + 1) hi
      rw [R] at hq
      exact r_end_ok (by omega) (by omega) hz (hq (-9) D1 hf rfl (fun _ => ⟨hr, hp⟩))
/-- THE CLASS READS THE TEXT -/
theorem r_fault (hT : txt D 1 T len) (hl : 0 ≤ len ∧ len ≤ 64) : CI 31 [vR 2, vR 1, vI len] (EE L, D) (fun r D' => r = (rdT T len).1 ∧ frR D D' ∧ (r = -9 → rg D' (rdT T len).2.1 (rdT T len).2.2.1 ∧ D' 2 1 = (rdT T len).2.2.2)) := by
  refine Sx.un (y := 31) (n := 0) (lo := [vR 2, vR 1, vI len, vU, vU]) (st := []) (u := (0, 0)) ?_
  refine go_31_0 ?_
  simp only [sg_31_0, cl_I, cl_L, cl_R, e_aload_n, e_cv1, e_get1, e_iconst, e_istore_n, e_nil, e_put0, fl_0, fl_I, fl_L, fl_R, l_ldA0, l_st3, rk_0, wRef_some, EE_n, EE_r2_0, EE_s2, EE_s3, lc_lt, lc_le, lc_gt, lc_ge, lc_eq, true_and, and_true, List.length_cons, List.length_nil, ab_ia, Nat.reduceAdd, Nat.reduceLeDiff, Nat.reduceEqDiff, Nat.reduceLT, Int.reduceLT, Int.reduceLE, Int.reduceEq, Int.reduceNeg, true_or, or_true, false_or, or_false, not_false_eq_true, not_true_eq_false, false_implies, true_implies, forall_const, implies_true, Nat.zero_le, Nat.le_refl]
  refine (g_forget isG3).mono ?_
  rintro D1 ⟨hf0, h8, h56⟩
  have f1 : frR D (ups (ups D1 2 1 0) 2 2 0) := frR_ups (by omega) (frR_ups (by omega) (fun a _ a1 a2 => hf0 a a1 a2))
  have r1 : rg (ups (ups D1 2 1 0) 2 2 0) (fun _ => -1) (fun _ => -1) := rg_u2 (rg_u2 ⟨h8, h56⟩)
  have p1 : (ups (ups D1 2 1 0) 2 2 0) 2 1 = 0 := by rw [ups_ne2 (by decide), ups_self]
  have l1 : (ups (ups D1 2 1 0) 2 2 0) 2 2 = 0 := ups_self
  generalize ups (ups D1 2 1 0) 2 2 0 = D2 at f1 r1 p1 l1
  have bad : ∀ p, (rdT T len).1 = p → 0 ≤ p → ∀ D', frR D D' → ∃ x D'', (some (Sum.inl p) : Option ab_V) = some (Sum.inl x) ∧ (EE L, D') = (EE L, D'') ∧ x = (rdT T len).1 ∧ frR D D'' ∧ (x = -9 → rg D'' (rdT T len).2.1 (rdT T len).2.2.1 ∧ D'' 2 1 = (rdT T len).2.2.2) := fun p h1 h2 D' hf' => ⟨p, D', rfl, rfl, h1.symm, hf', fun h => absurd h (by omega)⟩
  by_cases h0 : len = 0
  · refine r_end_bad (by omega) h0.symm (Or.inl p1) (bad 0 (by unfold rdT; rw [ifc_t (Or.inl h0)]) (by omega) D2 f1)
  · refine r_first (by omega) (txt_fr f1 hT) l1 (r_begins r1 p1 (fun h => absurd rfl h)) ?_ ?_ ?_
    · rintro r D' ⟨⟨_, rfl⟩ | ⟨_, rfl⟩, _⟩
      · exact Or.inr rfl
      · exact Or.inl rfl
    · rintro D3 ⟨⟨ho, _⟩ | ⟨_, h⟩, rfl⟩
      · rcases ho with ho | ho
        · have f2 : frR D (ups (ups D2 2 2 (T 0)) 2 3 0) := frR_ups (by omega) (frR_ups (by omega) f1)
          have r2 : rg (ups (ups D2 2 2 (T 0)) 2 3 0) (fun _ => -1) (fun _ => -1) := rg_u2 (rg_u2 r1)
          have l2 : (ups (ups D2 2 2 (T 0)) 2 3 0) 2 2 = T 0 := by rw [ups_ne2 (by decide), ups_self]
          have g2 : (ups (ups D2 2 2 (T 0)) 2 3 0) 2 3 = 0 := ups_self
          have p2 : (ups (ups D2 2 2 (T 0)) 2 3 0) 2 1 = 0 := by rw [ups_ne2 (by decide), ups_ne2 (by decide), p1]
          generalize ups (ups D2 2 2 (T 0)) 2 3 0 = D3 at f2 r2 l2 g2 p2
          have h78 := ho.2
          have n0 : ¬ (len = 0 ∨ T 0 ≠ 78) := by omega
          show Sx _ 11 [_, _, _, vI (0 + 1), _] [] _ _ _
          rw [show (0 : Int) + 1 = 1 by omega]
          refine r_fig (P1 := fun D' => (2 ≤ T 1 - 48 ∧ T 1 - 48 ≤ 6) ∧ frR D3 D' ∧ rg D' (st1 (fun _ => -1) 0 (T 1 - 48)) (fun _ => -1) ∧ D' 2 1 = D3 2 1 + 1 ∧ D' 2 2 = 0) (P0 := fun D' => ¬ (2 ≤ T 1 - 48 ∧ T 1 - 48 ≤ 6) ∧ frR D3 D') (by omega) (txt_fr f2 hT) (by omega) (fun hb => bad 1 (by unfold rdT; rw [ifc_f n0, ifc_f (fun q => hb q.1)]) (by omega) D3 f2) (fun hg => (r_goes_N r2 (by omega) g2 (by omega) hg.2).mono ?_) ?_ ?_
          · rintro r D' (⟨c, rfl, q⟩ | ⟨c, rfl, q⟩)
            · exact Or.inl ⟨rfl, c, q⟩
            · exact Or.inr ⟨rfl, c, q⟩
          · rintro D4 hg1 ⟨c1, f3, r3, p3, l3⟩
            have q1 := hg1.1
            have R : rdT T len = rdP T len 64 2 (st1 (fun _ => -1) 0 (T 1 - 48)) (fun _ => -1) 1 := by unfold rdT; rw [ifc_f n0, ifc_t ⟨hg1, c1⟩]
            rw [show (1 : Int) + 1 = 2 by omega]
            refine r_parts hT hl 64 2 _ _ 1 D4 _ (by omega) (by omega) (by omega) (f2.trans f3) r3 (by omega) l3 (by omega) ?_ ?_
            · unfold st1
              rw [if_pos rfl]
              exact c1
            · rw [← R]
              intro r D' hf' hr' hh
              exact retI ⟨hr', hf', hh⟩
          · rintro D' ⟨c, f'⟩
            exact bad 1 (by unfold rdT; rw [ifc_f n0, ifc_f (fun q => c q.2)]) (by omega) D' (f2.trans f')
        · exact absurd rfl ho.1
      · exact absurd h (by decide)
    · rintro D3 ⟨⟨_, h⟩ | ⟨ho, _⟩, rfl⟩
      · exact absurd h (by decide)
      · exact bad 0 (by unfold rdT; rw [ifc_t (Or.inr (fun q => ho (Or.inl ⟨rfl, q⟩)))]) (by omega) _ (frR_ups (by omega) (frR_ups (by omega) f1))
end FaultIn

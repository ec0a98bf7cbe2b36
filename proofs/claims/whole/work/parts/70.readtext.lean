/-! the text read by both: fault, lake -/
def frQ (D D' : ab_D) : Prop := (∀ a, a ≠ 69 → a ≠ 70 → a ≠ 72 → D' a = D a) ∧ ∀ j, j ≠ 5 → j ≠ 6 → j ≠ 7 → D' 69 j = D 69 j
theorem frQ.trans {D D' D'' : ab_D} (h : frQ D D') (k : frQ D' D'') : frQ D D'' := ⟨fun a h1 h2 h3 => (k.1 a h1 h2 h3).trans (h.1 a h1 h2 h3), fun j h1 h2 h3 => (k.2 j h1 h2 h3).trans (h.2 j h1 h2 h3)⟩
theorem frP.q {D D' : ab_D} (h : frP D D') : frQ D D' := ⟨h.1, fun j h1 h2 _ => h.2 j h1 h2⟩
theorem frQ_ups {b i : Nat} {z : Int} {D D' : ab_D} (hb : (b = 70 ∨ b = 72) ∨ (b = 69 ∧ (i = 5 ∨ i = 6 ∨ i = 7))) (h : frQ D D') : frQ D (ups D' b i z) := ⟨fun a h1 h2 h3 => by
  funext j
  rw [ups_ne1 (by omega), h.1 a h1 h2 h3], fun j h1 h2 h3 => by
  by_cases q : b = 69
  · rw [ups_ne2 (by omega), h.2 j h1 h2 h3]
  · rw [ups_ne1 (by omega), h.2 j h1 h2 h3]⟩
section ReadText
variable {L : Nat} {D : ab_D} {T : Int → Int} {len : Int} {Q : Option ab_V → ab_H → Prop}
theorem rt_out {D' : ab_D} {p : Int} (h6 : D' 69 6 = p) (hp : p ≠ -9) (q : Q (some (.inl p)) (EE L, D')) : Sx 124 35 [vR 69] [] (EE L, D') (0, 0) Q := by
  refine go_124_35 ?_
  simp only [sg_124_35, cl_I, cl_L, cl_R, e_aload_n, e_bipush, e_cv2, e_dupI, e_dupR, e_get0, e_get1, e_goto, e_iadd, e_iaload, e_icmp_ge, e_icmp_ne, e_iconst, e_nil, e_put0, fl_0, fl_I, fl_L, fl_R, l_ldA0, rk_0, wRef_some, EE_n, EE_r69_3, EE_s69, EE_s73, h6, lc_lt, lc_le, lc_gt, lc_ge, lc_eq, true_and, and_true, List.length_cons, List.length_nil, ab_ia, Nat.reduceAdd, Nat.reduceLeDiff, Nat.reduceEqDiff, Nat.reduceLT, Int.reduceLT, Int.reduceLE, Int.reduceEq, Int.reduceNeg, true_or, or_true, false_or, or_false, not_false_eq_true, not_true_eq_false, false_implies, true_implies, forall_const, implies_true, Nat.zero_le, Nat.le_refl]
  refine ⟨fun _ => ?_, fun h => absurd (Decidable.not_not.mp h) hp⟩
  refine go_124_58 ?_
  simp only [sg_124_58, cl_I, cl_L, cl_R, e_aload_n, e_get0, e_iret0, e_nil, l_ldA0, wRef_some, EE_n, EE_s69, h6, lc_lt, lc_le, lc_gt, lc_ge, lc_eq, true_and, and_true, List.length_cons, List.length_nil, ab_ia, Nat.reduceAdd, Nat.reduceLeDiff, Nat.reduceEqDiff, Nat.reduceLT, Int.reduceLT, Int.reduceLE, Int.reduceEq, Int.reduceNeg, true_or, or_true, false_or, or_false, not_false_eq_true, not_true_eq_false, false_implies, true_implies, forall_const, implies_true, Nat.zero_le, Nat.le_refl]
  exact q
theorem rt_end {D' : ab_D} (h6 : D' 69 6 = -9) (h5 : D' 69 5 = len) (h4 : D' 69 4 = len) (q : Q (some (.inl (-9))) (EE L, D')) : Sx 124 35 [vR 69] [] (EE L, D') (0, 0) Q := by
  refine go_124_35 ?_
  simp only [sg_124_35, cl_I, cl_L, cl_R, e_aload_n, e_bipush, e_cv2, e_dupI, e_dupR, e_get0, e_get1, e_goto, e_iadd, e_iaload, e_icmp_ge, e_icmp_ne, e_iconst, e_nil, e_put0, fl_0, fl_I, fl_L, fl_R, l_ldA0, rk_0, wRef_some, EE_n, EE_r69_3, EE_s69, EE_s73, h6, h5, h4, lc_lt, lc_le, lc_gt, lc_ge, lc_eq, true_and, and_true, List.length_cons, List.length_nil, ab_ia, Nat.reduceAdd, Nat.reduceLeDiff, Nat.reduceEqDiff, Nat.reduceLT, Int.reduceLT, Int.reduceLE, Int.reduceEq, Int.reduceNeg, true_or, or_true, false_or, or_false, not_false_eq_true, not_true_eq_false, false_implies, true_implies, forall_const, implies_true, Nat.zero_le, Nat.le_refl]
  refine ⟨fun _ => ?_, fun h => absurd (Int.le_refl len) h⟩
  refine go_124_58 ?_
  simp only [sg_124_58, cl_I, cl_L, cl_R, e_aload_n, e_get0, e_iret0, e_nil, l_ldA0, wRef_some, EE_n, EE_s69, h6, lc_lt, lc_le, lc_gt, lc_ge, lc_eq, true_and, and_true, List.length_cons, List.length_nil, ab_ia, Nat.reduceAdd, Nat.reduceLeDiff, Nat.reduceEqDiff, Nat.reduceLT, Int.reduceLT, Int.reduceLE, Int.reduceEq, Int.reduceNeg, true_or, or_true, false_or, or_false, not_false_eq_true, not_true_eq_false, false_implies, true_implies, forall_const, implies_true, Nat.zero_le, Nat.le_refl]
  exact q
theorem rt_loop (h4 : D 69 4 = len) (hT : txt D 73 T len) (hl : 0 ≤ len ∧ len ≤ 64) :
    ∀ (k : Nat) (i : Int) (N C : Int → Int) (pt : Int) (D1 : ab_D), 0 ≤ i → i ≤ len → len ≤ i + k → frQ D D1 → rM D1 N C → D1 69 7 = pt → D1 69 6 = -9 → D1 69 5 = i → (1 ≤ pt ∧ pt ≤ i) → (2 ≤ N 0 ∧ N 0 ≤ 6) →
    (∀ r D', frQ D D' → r = (rdP T len k i N C pt).1 → (r = -9 → rM D' (rdP T len k i N C pt).2.1 (rdP T len k i N C pt).2.2.1 ∧ D' 69 7 = (rdP T len k i N C pt).2.2.2) → Q (some (.inl r)) (EE L, D')) →
    Sx 124 35 [vR 69] [] (EE L, D1) (0, 0) Q := by
  intro k
  induction k with
  | zero =>
    intro i N C pt D1 i0 i1 i2 hf hM h7 h6 h5 hpt hn hq
    exact rt_end (len := len) h6 (by omega) (by rw [hf.2 4 (by decide) (by decide) (by decide), h4]) (hq (-9) D1 hf rfl (fun _ => ⟨hM, h7⟩))
  | succ k ih =>
    intro i N C pt D1 i0 i1 i2 hf hM h7 h6 h5 hpt hn hq
    have g4 : D1 69 4 = len := by rw [hf.2 4 (by decide) (by decide) (by decide), h4]
    by_cases hi : i < len
    · have T1 : txt D1 73 T len := fun j j0 j1 => by rw [hf.1 73 (by decide) (by decide) (by decide)]; exact hT j j0 j1
      obtain ⟨e, b0, b1⟩ := T1 i i0 hi
      refine go_124_35 ?_
      simp only [sg_124_35, cl_I, cl_L, cl_R, e_aload_n, e_bipush, e_cv2, e_dupI, e_dupR, e_get0, e_get1, e_goto, e_iadd, e_iaload, e_icmp_ge, e_icmp_ne, e_iconst, e_nil, e_put0, fl_0, fl_I, fl_L, fl_R, l_ldA0, rk_0, wRef_some, EE_n, EE_r69_3, EE_s69, EE_s73, h6, h5, g4, e, lc_lt, lc_le, lc_gt, lc_ge, lc_eq, true_and, and_true, List.length_cons, List.length_nil, ab_ia, Nat.reduceAdd, Nat.reduceLeDiff, Nat.reduceEqDiff, Nat.reduceLT, Int.reduceLT, Int.reduceLE, Int.reduceEq, Int.reduceNeg, true_or, or_true, false_or, or_false, not_false_eq_true, not_true_eq_false, false_implies, true_implies, forall_const, implies_true, Nat.zero_le, Nat.le_refl]
      refine ⟨fun h => absurd h (by omega), fun _ => ⟨by omega, ?_⟩⟩
      refine (m_readPart (k := k) (pt := pt) h6 h5 g4 T1 (by omega) hM hn).mono ?_
      rintro D2 ⟨f2, hr⟩
      have e7 : D2 69 7 = pt := by rw [f2.2 7 (by decide) (by decide), h7]
      rw [e7]
      refine ⟨⟨by omega, by omega⟩, ?_⟩
      have f3 : frQ D (ups D2 69 7 (pt + 1)) := frQ_ups (by omega) (hf.trans f2.q)
      rcases hr with ⟨p, p0, p1, p2⟩ | ⟨i', N', C', a1, a2, a3, a4, a5, a6⟩
      · exact rt_out (p := p) (by rw [ups_ne2 (by decide), p2]) (by omega) (hq p _ f3 p1.symm (fun h => absurd h (by omega)))
      · rw [a6] at hq
        refine ih i' N' C' (pt + 1) _ (by omega) (by omega) (by omega) f3 (a4.congr ?_ ?_) ups_self (by rw [ups_ne2 (by decide), a1]) (by rw [ups_ne2 (by decide), a2]) (by omega) a5 hq
        · funext j
          rw [ups_ne1 (by decide)]
        · funext j
          rw [ups_ne1 (by decide)]
    · have R := rd_end (T := T) (len := len) (i := i) (pt := pt) (N := N) (C := C) (k := k + 1) hi
      rw [R] at hq
      exact rt_end (len := len) h6 (by omega) g4 (hq (-9) D1 hf rfl (fun _ => ⟨hM, h7⟩))
/-- THE REFERENCE READS THE TEXT -/
theorem m_readText (h4 : D 69 4 = len) (hT : txt D 73 T len) (hl : 0 ≤ len ∧ len ≤ 64) : CI 124 [vR 69] (EE L, D) (fun r D' => r = (rdT T len).1 ∧ frQ D D' ∧ (r = -9 → rM D' (rdT T len).2.1 (rdT T len).2.2.1 ∧ D' 69 7 = (rdT T len).2.2.2)) := by
  refine Sx.un (y := 124) (n := 0) (lo := [vR 69]) (st := []) (u := (0, 0)) ?_
  refine go_124_0 ?_
  simp only [sg_124_0, cl_I, cl_L, cl_R, e_aload_n, e_bipush, e_cv1, e_get0, e_get1, e_iaload, e_icmp_eq, e_iconst, e_if_eq, e_iret0, e_nil, e_put0, fl_0, fl_I, fl_L, fl_R, l_ldA0, rk_0, wRef_some, EE_n, EE_r69_3, EE_s69, EE_s73, lc_lt, lc_le, lc_gt, lc_ge, lc_eq, true_and, and_true, List.length_cons, List.length_nil, ab_ia, Nat.reduceAdd, Nat.reduceLeDiff, Nat.reduceEqDiff, Nat.reduceLT, Int.reduceLT, Int.reduceLE, Int.reduceEq, Int.reduceNeg, true_or, or_true, false_or, or_false, not_false_eq_true, not_true_eq_false, false_implies, true_implies, forall_const, implies_true, Nat.zero_le, Nat.le_refl]
  refine m_blank.mono ?_
  rintro D1 ⟨fL, hb⟩
  have f2 : frQ D (ups (ups (ups D1 69 5 0) 69 6 (-9)) 69 7 0) := frQ_ups (by omega) (frQ_ups (by omega) (frQ_ups (by omega) ⟨fun a h1 h2 h3 => fL a h2 h3, fun j _ _ _ => by rw [fL 69 (by decide) (by decide)]⟩))
  have g6 : (ups (ups (ups D1 69 5 0) 69 6 (-9)) 69 7 0) 69 6 = -9 := by rw [ups_ne2 (by decide), ups_self]
  have g7 : (ups (ups (ups D1 69 5 0) 69 6 (-9)) 69 7 0) 69 7 = 0 := ups_self
  have gb : ∀ j : Int, 0 ≤ j → j < 44 → (ups (ups (ups D1 69 5 0) 69 6 (-9)) 69 7 0) 70 j.toNat = dfl j ∧ (ups (ups (ups D1 69 5 0) 69 6 (-9)) 69 7 0) 72 j.toNat = 0 := fun j j0 j1 => by
    simp (disch := omega) only [ups_ne1]
    exact hb j j0 j1
  generalize ups (ups (ups D1 69 5 0) 69 6 (-9)) 69 7 0 = D2 at f2 g6 g7 gb
  have g4 : D2 69 4 = len := by rw [f2.2 4 (by decide) (by decide) (by decide), h4]
  have T2 : txt D2 73 T len := fun j j0 j1 => by rw [f2.1 73 (by decide) (by decide) (by decide)]; exact hT j j0 j1
  have bad0 : (len = 0 ∨ T 0 ≠ 78) → ∃ x D', (some (Sum.inl 0) : Option ab_V) = some (Sum.inl x) ∧ (EE L, D2) = (EE L, D') ∧ x = (rdT T len).1 ∧ frQ D D' ∧ (x = -9 → rM D' (rdT T len).2.1 (rdT T len).2.2.1 ∧ D' 69 7 = (rdT T len).2.2.2) := fun h => ⟨0, D2, rfl, rfl, by unfold rdT; rw [ifc_t h], f2, fun h => absurd h (by decide)⟩
  rw [g4]
  refine ⟨fun h0 => ?_, fun h0 => ?_⟩
  · refine go_124_20 ?_
    simp only [sg_124_20, cl_I, cl_L, cl_R, e_iconst, e_iret0, e_nil, lc_lt, lc_le, lc_gt, lc_ge, lc_eq, true_and, and_true, List.length_cons, List.length_nil, ab_ia, Nat.reduceAdd, Nat.reduceLeDiff, Nat.reduceEqDiff, Nat.reduceLT, Int.reduceLT, Int.reduceLE, Int.reduceEq, Int.reduceNeg, true_or, or_true, false_or, or_false, not_false_eq_true, not_true_eq_false, false_implies, true_implies, forall_const, implies_true, Nat.zero_le, Nat.le_refl]
    exact bad0 (Or.inl h0)
  · have e := T2 0 (by omega) (by omega)
    have e0 : D2 73 (Int.toNat 0) = T 0 := e.1
    rw [e0]
    refine ⟨by omega, fun h1 => ?_, fun h1 => bad0 (Or.inr h1)⟩
    have n0 : ¬ (len = 0 ∨ T 0 ≠ 78) := by omega
    refine go_124_22 ?_
    simp only [sg_124_22, cl_I, cl_L, cl_R, e_aload_n, e_bipush, e_cv2, e_get1, e_iastore, e_iconst, e_nil, e_put0, fl_0, fl_I, fl_L, fl_R, l_ldA0, rk_1, wRef_some, EE_n, EE_r69_0, EE_s69, EE_s70, lc_lt, lc_le, lc_gt, lc_ge, lc_eq, true_and, and_true, List.length_cons, List.length_nil, ab_ia, Nat.reduceAdd, Nat.reduceLeDiff, Nat.reduceEqDiff, Nat.reduceLT, Int.reduceLT, Int.reduceLE, Int.reduceEq, Int.reduceNeg, true_or, or_true, false_or, or_false, not_false_eq_true, not_true_eq_false, false_implies, true_implies, forall_const, implies_true, Nat.zero_le, Nat.le_refl]
    have f3 : frF D2 (ups D2 69 5 1) := frF_ups (by omega) frF.refl
    refine (m_fig (T := T) (i := 1) (len := len) (by rw [ups_ne2 (by decide), g6]) ups_self (by rw [ups_ne2 (by decide), g4]) (fun j j0 j1 => by rw [ups_ne1 (by decide)]; exact T2 j j0 j1) (by omega)).mono ?_
    rintro x D4 (⟨⟨c1, c2⟩, rfl, f4, e6, e5⟩ | ⟨c, rfl, f4, e6⟩)
    · have f4 := f3.trans f4
      have c3 := (bit_124 c1.2).mp c2
      have q0 := c1.1
      refine ⟨by omega, ?_⟩
      have R : rdT T len = rdP T len 64 2 (st1 (fun _ => -1) 0 (T 1 - 48)) (fun _ => -1) 1 := by unfold rdT; rw [ifc_f n0, ifc_t ⟨c1, c3⟩]
      refine rt_loop h4 hT hl 64 2 (st1 (fun _ => -1) 0 (T 1 - 48)) (fun _ => -1) 1 _ (by omega) (by omega) (by omega) (frQ_ups (by omega) (frQ_ups (by omega) (f2.trans f4.p.q))) ?_ ups_self ?_ ?_ (by omega) ?_ ?_
      · refine ⟨?_, fun j j0 j1 => ?_, fun a qa => ?_⟩
        · rw [ups_ne1 (by decide), show Int.toNat 0 = 0 from rfl, ups_self]
          unfold st1
          rw [if_pos rfl]
        · rw [ups_ne1 (by decide), ups_ne1 (by decide), ups_ne1 (by decide), ups_ne2 (by omega), f4.1 72 (by decide), f4.1 70 (by decide), (gb j (by omega) (by omega)).1, (gb j (by omega) (by omega)).2]
          unfold st1 els
          rw [if_neg (show ¬ j = 0 by omega), if_pos rfl, if_pos rfl]
          exact ⟨rfl, rfl⟩
        · unfold isCl at qa
          obtain ⟨g1, g2⟩ := gb (8 + 6 * (a / 10) + a % 10) (by omega) (by omega)
          rw [ups_ne1 (by decide), ups_ne1 (by decide), ups_ne1 (by decide), ups_ne2 (by omega), f4.1 72 (by decide), f4.1 70 (by decide), g1, g2]
          unfold els dfl
          rw [if_pos rfl, if_pos rfl, if_neg (by omega), if_neg (by omega), if_neg (by omega)]
          exact ⟨rfl, rfl⟩
      · rw [ups_ne2 (by decide), ups_ne1 (by decide), e6]
      · rw [ups_ne2 (by decide), ups_ne1 (by decide), e5]; rfl
      · unfold st1
        rw [if_pos rfl]
        exact c3
      · rw [← R]
        intro r D' hf' hr' hh
        exact retI ⟨hr', hf', hh⟩
    · have f4 := f3.trans f4
      refine ⟨by omega, ?_⟩
      refine rt_out (p := 1) (by rw [ups_ne2 (by decide), ups_ne1 (by decide), e6]) (by decide) ?_
      refine retI ⟨?_, frQ_ups (by omega) (frQ_ups (by omega) (f2.trans f4.p.q)), fun h => absurd h (by decide)⟩
      unfold rdT
      rw [ifc_f n0, ifc_f (fun q => c ⟨q.1, (bit_124 q.1.2).mpr q.2⟩)]
theorem rd_bd : ∀ (k : Nat) (i : Int) (N C : Int → Int) (pt : Int), 0 ≤ i → (rdP T len k i N C pt).1 = -9 ∨ 0 ≤ (rdP T len k i N C pt).1 := by
  intro k
  induction k with
  | zero => intro i N C pt _; exact Or.inl rfl
  | succ k ih =>
    intro i N C pt h
    by_cases hi : i < len
    · by_cases h68 : T i = 68
      · by_cases a : hcAny (N 0) C
        · by_cases b : fig T len (i + 1) ∧ T (i + 1) - 48 < N 0 ∧ hcIn (N 0) C (T (i + 1) - 48)
          · by_cases c : fig T len (i + 2) ∧ T (i + 2) - 48 < N 0 ∧ C (10 * (T (i + 1) - 48) + (T (i + 2) - 48)) = -1
            · by_cases d : fig T len (i + 3)
              · rw [rd_D hi h68 a b c d]
                exact ih _ _ _ _ (by omega)
              · rw [rd_D3 hi h68 a b c d]; exact Or.inr (by show 0 ≤ i + 3; omega)
            · rw [rd_D2 hi h68 a b c]; exact Or.inr (by show 0 ≤ i + 2; omega)
          · rw [rd_D1 hi h68 a b]; exact Or.inr (by show 0 ≤ i + 1; omega)
        · rw [rd_D0 hi h68 a]; exact Or.inr h
      · by_cases h82 : T i = 82
        · by_cases a : hwd N
          · by_cases b : fig T len (i + 1) ∧ T (i + 1) - 48 < 3 ∧ N (5 + (T (i + 1) - 48)) = -1
            · by_cases c : fig T len (i + 2) ∧ 1 ≤ T (i + 2) - 48
              · rw [rd_R hi h82 a b c]
                exact ih _ _ _ _ (by omega)
              · rw [rd_R2 hi h82 a b c]; exact Or.inr (by show 0 ≤ i + 2; omega)
            · rw [rd_R1 hi h82 a b]; exact Or.inr (by show 0 ≤ i + 1; omega)
          · rw [rd_R0 hi h82 a]; exact Or.inr h
        · by_cases a : 0 ≤ nOf (T i) ∧ N (nOf (T i)) = -1
          · by_cases b : fig T len (i + 1)
            · rw [rd_O hi h68 h82 a b]
              exact ih _ _ _ _ (by omega)
            · rw [rd_O1 hi h68 h82 a b]; exact Or.inr (by show 0 ≤ i + 1; omega)
          · rw [rd_O0 hi h68 h82 a]; exact Or.inr h
    · rw [rd_end hi]; exact Or.inl rfl
theorem rdT_nG (h : (rdT T len).1 = -9) : nG (rdT T len).2.1 (rdT T len).2.2.1 := by
  unfold rdT at h ⊢
  by_cases a : len = 0 ∨ T 0 ≠ 78
  · rw [ifc_t a] at h
    exact absurd h (by decide)
  · rw [ifc_f a] at h ⊢
    by_cases b : fig T len 1 ∧ 2 ≤ T 1 - 48 ∧ T 1 - 48 ≤ 6
    · rw [ifc_t b]
      refine rd_nG 64 2 _ _ 1 ⟨?_, fun j j0 j1 => ?_, fun j j0 j1 => ?_, fun a => by show (-1 : Int) ≤ -1 ∧ (-1 : Int) ≤ 9; omega⟩
      · unfold st1; rw [if_pos rfl]; exact b.2
      · unfold st1; rw [if_neg (by omega)]; show (-1 : Int) ≤ -1 ∧ (-1 : Int) ≤ 9; omega
      · unfold st1; rw [if_neg (by omega)]; exact Or.inl rfl
    · rw [ifc_f b] at h
      exact absurd h (by decide)
/-- the lake that is told -/
def grd (N C : Int → Int) : Gr := (N 0, els (N 1) 1, els (N 2) 4, els (N 3) 5, els (N 4) 0, fun w => els (N (5 + w)) 5, fun a => els (C a) 5)
theorem grd_ok {N C : Int → Int} (h : nG N C) : gOK (grd N C) := by
  obtain ⟨h0, h1, h2, h3⟩ := h
  have b1 := h1 1 (by omega) (by omega)
  have b2 := h1 2 (by omega) (by omega)
  have b3 := h1 3 (by omega) (by omega)
  have b4 := h1 4 (by omega) (by omega)
  have key : ∀ x e : Int, (-1 ≤ x ∧ x ≤ 9) → (0 ≤ e ∧ e ≤ 9) → 0 ≤ els x e ∧ els x e ≤ 9 := fun x e q1 q2 => by
    unfold els
    split <;> omega
  refine ⟨h0, key _ _ b1 (by omega), key _ _ b2 (by omega), key _ _ b3 (by omega), key _ _ b4 (by omega), fun w hw => ?_, fun a _ => key _ _ (h3 a) (by omega)⟩
  have b5 := h2 (5 + w) (by omega) (by omega)
  show 1 ≤ els (N (5 + w)) 5 ∧ els (N (5 + w)) 5 ≤ 9
  unfold els
  split <;> omega
/-- the class's table of what holds where nothing is told -/
def elsT (D : ab_D) : Prop := D 1001 0 = 2 ∧ D 1001 1 = 1 ∧ D 1001 2 = 4 ∧ D 1001 3 = 5 ∧ D 1001 4 = 0 ∧ D 1001 5 = 5 ∧ D 1001 6 = 5 ∧ D 1001 7 = 5
theorem grd_P {N C : Int → Int} {D' : ab_D} (hn : N 0 ≠ -1) (he : elsT D) (h7 : ∀ j : Int, 0 ≤ j → j < 8 → D' 7 j.toNat = els (N j) (D 1001 j.toNat)) (h8 : ∀ a : Int, 0 ≤ a → a < 56 → D' 8 a.toNat = els (C a) 5) : gP D' (grd N C) := by
  obtain ⟨e0, e1, e2, e3, e4, e5, e6, e7⟩ := he
  refine ⟨⟨?_, ?_, ?_, ?_, ?_⟩, fun w hw => ?_, fun a ha => ?_⟩
  · have q : D' 7 0 = els (N 0) (D 1001 0) := h7 0 (by omega) (by omega)
    rw [q]
    unfold els
    rw [if_neg hn]
    rfl
  · have q : D' 7 1 = els (N 1) (D 1001 1) := h7 1 (by omega) (by omega)
    rw [q, e1]; rfl
  · have q : D' 7 2 = els (N 2) (D 1001 2) := h7 2 (by omega) (by omega)
    rw [q, e2]; rfl
  · have q : D' 7 3 = els (N 3) (D 1001 3) := h7 3 (by omega) (by omega)
    rw [q, e3]; rfl
  · have q : D' 7 4 = els (N 4) (D 1001 4) := h7 4 (by omega) (by omega)
    rw [q, e4]; rfl
  · have q := h7 (5 + w) (by omega) (by omega)
    rw [q]
    have : w = 0 ∨ w = 1 ∨ w = 2 := by omega
    rcases this with rfl | rfl | rfl
    · show els _ (D 1001 5) = _
      rw [e5]; rfl
    · show els _ (D 1001 6) = _
      rw [e6]; rfl
    · show els _ (D 1001 7) = _
      rw [e7]; rfl
  · unfold isCl at ha
    exact h8 a (by omega) (by omega)
theorem grd_M {N C : Int → Int} {D' : ab_D} (hM : rM D N C) (h71 : ∀ j : Int, 0 ≤ j → j < 44 → D' 71 j.toNat = D 70 j.toNat) : gM D' (grd N C) := by
  obtain ⟨m0, m1, m2⟩ := hM
  refine ⟨⟨?_, ?_, ?_, ?_, ?_⟩, fun w hw => ?_, fun a ha => ?_⟩
  · exact (h71 0 (by omega) (by omega)).trans m0
  · exact (h71 1 (by omega) (by omega)).trans (m1 1 (by omega) (by omega)).2
  · exact (h71 2 (by omega) (by omega)).trans (m1 2 (by omega) (by omega)).2
  · exact (h71 3 (by omega) (by omega)).trans (m1 3 (by omega) (by omega)).2
  · exact (h71 4 (by omega) (by omega)).trans (m1 4 (by omega) (by omega)).2
  · refine ((h71 (5 + w) (by omega) (by omega)).trans (m1 (5 + w) (by omega) (by omega)).2).trans ?_
    show els (N (5 + w)) (dfl (5 + w)) = els (N (5 + w)) 5
    unfold dfl
    rw [if_neg (by omega), if_neg (by omega), if_neg (by omega)]
  · have q := ha
    unfold isCl at q
    exact (h71 _ (by omega) (by omega)).trans (m2 a ha).2
/-! the calls -/
theorem m_fault (h4 : D 69 4 = len) (hT : txt D 73 T len) (hl : 0 ≤ len ∧ len ≤ 64) : CI 126 [vR 69] (EE L, D) (fun r D' => r = (rdT T len).1 ∧ frQ D D') := by
  refine Sx.un (y := 126) (n := 0) (lo := [vR 69]) (st := []) (u := (0, 0)) ?_
  refine go_126_0 ?_
  simp only [sg_126_0, cl_I, cl_L, cl_R, e_aload_n, e_cv1, e_iret0, e_nil, fl_0, fl_I, fl_L, fl_R, l_ldA0, rk_1, EE_n, EE_s69, lc_lt, lc_le, lc_gt, lc_ge, lc_eq, true_and, and_true, List.length_cons, List.length_nil, ab_ia, Nat.reduceAdd, Nat.reduceLeDiff, Nat.reduceEqDiff, Nat.reduceLT, Int.reduceLT, Int.reduceLE, Int.reduceEq, Int.reduceNeg, true_or, or_true, false_or, or_false, not_false_eq_true, not_true_eq_false, false_implies, true_implies, forall_const, implies_true, Nat.zero_le, Nat.le_refl]
  refine (m_readText h4 hT hl).mono ?_
  rintro r D' ⟨h1, h2, h3⟩
  exact retI ⟨h1, h2⟩
theorem p_fault (h1 : D 0 1 = len) (hT : txt D 1 T len) (hl : 0 ≤ len ∧ len ≤ 64) : CI 72 [vR 0] (EE L, D) (fun r D' => r = (rdT T len).1 ∧ frR D D') := by
  refine Sx.un (y := 72) (n := 0) (lo := [vR 0]) (st := []) (u := (0, 0)) ?_
  refine go_72_0 ?_
  simp only [sg_72_0, cl_I, cl_L, cl_R, e_aload_n, e_cv3, e_get0, e_get1, e_iret0, e_nil, fl_0, fl_I, fl_L, fl_R, l_ldA0, rk_1, wRef_some, EE_n, EE_r0_0, EE_r0_2, EE_s0, EE_s1, EE_s2, h1, lc_lt, lc_le, lc_gt, lc_ge, lc_eq, true_and, and_true, List.length_cons, List.length_nil, ab_ia, Nat.reduceAdd, Nat.reduceLeDiff, Nat.reduceEqDiff, Nat.reduceLT, Int.reduceLT, Int.reduceLE, Int.reduceEq, Int.reduceNeg, true_or, or_true, false_or, or_false, not_false_eq_true, not_true_eq_false, false_implies, true_implies, forall_const, implies_true, Nat.zero_le, Nat.le_refl]
  refine (r_fault hT hl).mono ?_
  rintro r D' ⟨h1, h2, h3⟩
  exact retI ⟨h1, h2⟩
/-- the reference has another lake -/
def lkM (D D' : ab_D) : Prop := (∀ a, a ≠ 69 → a ≠ 70 → a ≠ 71 → a ≠ 72 → a ≠ 77 → D' a = D a) ∧ (∀ j, j ≠ 5 → j ≠ 6 → j ≠ 7 → j ≠ 8 → j ≠ 10 → j ≠ 12 → j ≠ 22 → D' 69 j = D 69 j) ∧ vM D' emV ∧ D' 69 22 = 0 ∧ D' 77 0 = 0 ∧ D' 77 1 = 0
theorem m_lake (h4 : D 69 4 = len) (hT : txt D 73 T len) (hl : 0 ≤ len ∧ len ≤ 64) : CI 127 [vR 69] (EE L, D) (fun r D' => ((rdT T len).1 ≠ -9 ∧ r = -3 ∧ frQ D D') ∨ ((rdT T len).1 = -9 ∧ r = (rdT T len).2.2.2 ∧ lkM D D' ∧ gM D' (grd (rdT T len).2.1 (rdT T len).2.2.1))) := by
  refine Sx.un (y := 127) (n := 0) (lo := [vR 69]) (st := []) (u := (0, 0)) ?_
  refine go_127_0 ?_
  simp only [sg_127_0, cl_I, cl_L, cl_R, e_aload_n, e_bipush, e_cv1, e_icmp_eq, e_iret0, e_nil, fl_0, fl_I, fl_L, fl_R, l_ldA0, rk_1, EE_n, EE_s69, lc_lt, lc_le, lc_gt, lc_ge, lc_eq, true_and, and_true, List.length_cons, List.length_nil, ab_ia, Nat.reduceAdd, Nat.reduceLeDiff, Nat.reduceEqDiff, Nat.reduceLT, Int.reduceLT, Int.reduceLE, Int.reduceEq, Int.reduceNeg, true_or, or_true, false_or, or_false, not_false_eq_true, not_true_eq_false, false_implies, true_implies, forall_const, implies_true, Nat.zero_le, Nat.le_refl]
  refine (m_readText h4 hT hl).mono ?_
  rintro r D1 ⟨h1, h2, h3⟩
  refine ⟨fun hr => ?_, fun hr => ?_⟩
  · obtain ⟨hM, h7⟩ := h3 hr
    refine go_127_6 ?_
    simp only [sg_127_6, cl_I, cl_L, cl_R, e_aload_n, e_cv1, e_get0, e_iret0, e_nil, fl_0, fl_I, fl_L, fl_R, l_ldA0, rk_0, wRef_some, EE_n, EE_s69, lc_lt, lc_le, lc_gt, lc_ge, lc_eq, true_and, and_true, List.length_cons, List.length_nil, ab_ia, Nat.reduceAdd, Nat.reduceLeDiff, Nat.reduceEqDiff, Nat.reduceLT, Int.reduceLT, Int.reduceLE, Int.reduceEq, Int.reduceNeg, true_or, or_true, false_or, or_false, not_false_eq_true, not_true_eq_false, false_implies, true_implies, forall_const, implies_true, Nat.zero_le, Nat.le_refl]
    refine m_take.mono ?_
    rintro D2 ⟨t1, t2, t3, t4, t5, t6, t7, t8, t9⟩
    rw [t2 7 (by decide) (by decide) (by decide) (by decide), h7]
    refine retI (Or.inr ⟨by omega, rfl, ⟨fun a a1 a2 a3 a4 a5 => ?_, fun j j1 j2 j3 j4 j5 j6 j7 => ?_, ⟨⟨t4, t5, t6⟩, fun p p0 p1 => absurd p1 (by show ¬ p < 0; omega), fun p p0 p1 => absurd p1 (by show ¬ p < 0; omega)⟩, t7, t8, t9⟩, grd_M hM t3⟩)
    · rw [t1 a a1 a3 a5, h2.1 a a1 a2 a4]
    · rw [t2 j j4 j5 j6 j7, h2.2 j j1 j2 j3]
  · exact retI (Or.inl ⟨by omega, rfl, h2⟩)
theorem f_clear : CV 5 [vR 63] (EE L, D) (fun D' => D' = ups D 63 1 0) := by
  refine Sx.un (y := 5) (n := 0) (lo := [vR 63]) (st := []) (u := (0, 0)) ?_
  refine go_5_0 ?_
  simp only [sg_5_0, cl_I, cl_L, cl_R, e_aload_n, e_iconst, e_nil, e_put0, e_vret, l_ldA0, EE_n, EE_s63, lc_lt, lc_le, lc_gt, lc_ge, lc_eq, true_and, and_true, List.length_cons, List.length_nil, ab_ia, Nat.reduceAdd, Nat.reduceLeDiff, Nat.reduceEqDiff, Nat.reduceLT, Int.reduceLT, Int.reduceLE, Int.reduceEq, Int.reduceNeg, true_or, or_true, false_or, or_false, not_false_eq_true, not_true_eq_false, false_implies, true_implies, forall_const, implies_true, Nat.zero_le, Nat.le_refl]
  exact retV' rfl
/-- the class has another lake -/
def lkP (D D' : ab_D) : Prop := (∀ a, ¬ (2 ≤ a ∧ a ≤ 20 ∧ a ≠ 3 ∧ a ≠ 6) → a ≠ 58 → a ≠ 63 → D' a = D a) ∧ (∀ j, j ≠ 1 → D' 63 j = D 63 j) ∧ vP D' 9 emV ∧ D' 63 1 = 0 ∧ D' 58 0 = 0 ∧ D' 58 1 = 0
theorem p_lake_loop {D1 : ab_D} {pt : Int} (hq : ∀ D', (∀ a, a ≠ 58 → D' a = D1 a) → D' 58 0 = 0 → D' 58 1 = 0 → Q (some (.inl (D' 2 1))) (EE L, D')) : Sx 73 25 [vR 0, vI 0] [] (EE L, D1) (0, 0) Q := by
  refine go_73_25 ?_
  simp only [sg_73_25, cl_I, cl_L, cl_R, e_aload_n, e_bastore, e_get1, e_goto, e_icmp_ge, e_iconst, e_iinc, e_iload_n, e_nil, l_inc1, l_ld1, l_ldA0, wRef_some, EE_n, EE_r0_7, EE_s0, EE_s58, Int.reduceToNat, lc_lt, lc_le, lc_gt, lc_ge, lc_eq, true_and, and_true, List.length_cons, List.length_nil, ab_ia, Nat.reduceAdd, Nat.reduceLeDiff, Nat.reduceEqDiff, Nat.reduceLT, Int.reduceLT, Int.reduceLE, Int.reduceEq, Int.reduceNeg, true_or, or_true, false_or, or_false, not_false_eq_true, not_true_eq_false, false_implies, true_implies, forall_const, implies_true, Nat.zero_le, Nat.le_refl]
  refine ⟨by decide, ⟨by omega, by omega⟩, ?_⟩
  rw [show (0 : Int) + 1 = 1 by omega]
  refine go_73_25 ?_
  simp only [sg_73_25, cl_I, cl_L, cl_R, e_aload_n, e_bastore, e_get1, e_goto, e_icmp_ge, e_iconst, e_iinc, e_iload_n, e_nil, l_inc1, l_ld1, l_ldA0, wRef_some, EE_n, EE_r0_7, EE_s0, EE_s58, Int.reduceToNat, lc_lt, lc_le, lc_gt, lc_ge, lc_eq, true_and, and_true, List.length_cons, List.length_nil, ab_ia, Nat.reduceAdd, Nat.reduceLeDiff, Nat.reduceEqDiff, Nat.reduceLT, Int.reduceLT, Int.reduceLE, Int.reduceEq, Int.reduceNeg, true_or, or_true, false_or, or_false, not_false_eq_true, not_true_eq_false, false_implies, true_implies, forall_const, implies_true, Nat.zero_le, Nat.le_refl]
  refine ⟨by decide, ⟨by omega, by omega⟩, ?_⟩
  rw [show (1 : Int) + 1 = 2 by omega]
  refine go_73_25 ?_
  simp only [sg_73_25, cl_I, cl_L, cl_R, e_aload_n, e_bastore, e_get1, e_goto, e_icmp_ge, e_iconst, e_iinc, e_iload_n, e_nil, l_inc1, l_ld1, l_ldA0, wRef_some, EE_n, EE_r0_7, EE_s0, EE_s58, Int.reduceToNat, lc_lt, lc_le, lc_gt, lc_ge, lc_eq, true_and, and_true, List.length_cons, List.length_nil, ab_ia, Nat.reduceAdd, Nat.reduceLeDiff, Nat.reduceEqDiff, Nat.reduceLT, Int.reduceLT, Int.reduceLE, Int.reduceEq, Int.reduceNeg, true_or, or_true, false_or, or_false, not_false_eq_true, not_true_eq_false, false_implies, true_implies, forall_const, implies_true, Nat.zero_le, Nat.le_refl]
  refine go_73_35 ?_
  simp only [sg_73_35, cl_I, cl_L, cl_R, e_aload_n, e_get0, e_get1, e_iret0, e_nil, l_ldA0, wRef_some, EE_n, EE_r0_2, EE_s0, EE_s2, EE_n, EE_s2, lc_lt, lc_le, lc_gt, lc_ge, lc_eq, true_and, and_true, List.length_cons, List.length_nil, ab_ia, Nat.reduceAdd, Nat.reduceLeDiff, Nat.reduceEqDiff, Nat.reduceLT, Int.reduceLT, Int.reduceLE, Int.reduceEq, Int.reduceNeg, true_or, or_true, false_or, or_false, not_false_eq_true, not_true_eq_false, false_implies, true_implies, forall_const, implies_true, Nat.zero_le, Nat.le_refl]
  refine hq _ (fun a ha => ?_) ?_ ?_
  · funext j
    rw [ups_ne1 ha, ups_ne1 ha]
  · rw [ups_ne2 (by decide), ups_self]
  · exact ups_self
theorem p_lake (he : elsT D) (h1 : D 0 1 = len) (hT : txt D 1 T len) (hl : 0 ≤ len ∧ len ≤ 64) : CI 73 [vR 0] (EE L, D) (fun r D' => ((rdT T len).1 ≠ -9 ∧ r = -3 ∧ frR D D') ∨ ((rdT T len).1 = -9 ∧ r = (rdT T len).2.2.2 ∧ lkP D D' ∧ gP D' (grd (rdT T len).2.1 (rdT T len).2.2.1))) := by
  refine Sx.un (y := 73) (n := 0) (lo := [vR 0, vU]) (st := []) (u := (0, 0)) ?_
  refine go_73_0 ?_
  simp only [sg_73_0, cl_I, cl_L, cl_R, e_aload_n, e_bipush, e_cv3, e_get0, e_get1, e_icmp_eq, e_iret0, e_nil, fl_0, fl_I, fl_L, fl_R, l_ldA0, rk_1, wRef_some, EE_n, EE_r0_0, EE_r0_2, EE_s0, EE_s1, EE_s2, h1, lc_lt, lc_le, lc_gt, lc_ge, lc_eq, true_and, and_true, List.length_cons, List.length_nil, ab_ia, Nat.reduceAdd, Nat.reduceLeDiff, Nat.reduceEqDiff, Nat.reduceLT, Int.reduceLT, Int.reduceLE, Int.reduceEq, Int.reduceNeg, true_or, or_true, false_or, or_false, not_false_eq_true, not_true_eq_false, false_implies, true_implies, forall_const, implies_true, Nat.zero_le, Nat.le_refl]
  refine (r_fault hT hl).mono ?_
  rintro r D1 ⟨h1, h2, h3⟩
  refine ⟨fun hr => ?_, fun hr => ?_⟩
  · obtain ⟨hM, h7⟩ := h3 hr
    have hn := (rdT_nG (h1.symm.trans hr)).1
    have he1 : elsT D1 := by
      unfold elsT
      rw [h2 1001 (by decide) (by decide) (by decide)]
      exact he
    refine go_73_11 ?_
    simp only [sg_73_11, cl_I, cl_L, cl_R, e_aload_n, e_cv1, e_cv2, e_get1, e_iconst, e_istore_n, e_nil, fl_0, fl_I, fl_L, fl_R, l_ldA0, l_st1, rk_0, wRef_some, EE_n, EE_r0_10, EE_r0_2, EE_r0_3, EE_r0_4, EE_r2_0, EE_s0, EE_s2, EE_s21, EE_s3, EE_s6, EE_s63, EE_s9, EE_n, EE_s2, EE_s6, EE_r2_0, EE_s3, EE_s9, EE_s63, lc_lt, lc_le, lc_gt, lc_ge, lc_eq, true_and, and_true, List.length_cons, List.length_nil, ab_ia, Nat.reduceAdd, Nat.reduceLeDiff, Nat.reduceEqDiff, Nat.reduceLT, Int.reduceLT, Int.reduceLE, Int.reduceEq, Int.reduceNeg, true_or, or_true, false_or, or_false, not_false_eq_true, not_true_eq_false, false_implies, true_implies, forall_const, implies_true, Nat.zero_le, Nat.le_refl]
    refine g_becomes.mono ?_
    rintro D2 ⟨a1, a2, a3⟩
    have g2 : gP D2 (grd (rdT T len).2.1 (rdT T len).2.2.1) := by
      refine grd_P (D := D1) (by omega) he1 (fun j j0 j1 => ?_) (fun a a0 a1 => ?_)
      · rw [a2 j j0 j1, hM.1 j j0 j1]
      · rw [a3 a a0 a1, hM.2 a a0 a1]
    refine (v_clear (v := 9) (by rw [EE_n]; decide) EE_s9 EE_r9_13 (by rw [EE_n]; decide) EE_s20).mono ?_
    rintro D3 ⟨b1, b2⟩
    refine CV.use f_clear ?_
    refine p_lake_loop (pt := 0) (fun D4 c1 c2 c3 => ?_)
    have e2 : D4 2 = D1 2 := by
      rw [c1 2 (by decide)]
      funext j
      rw [ups_ne1 (by decide), b1 2 (by omega), a1 2 (by decide) (by decide)]
    rw [e2, h7]
    have u : ∀ a, a ≠ 63 → ups D3 63 1 0 a = D3 a := fun a ha => by
      funext j
      rw [ups_ne1 ha]
    refine retI (Or.inr ⟨by omega, rfl, ⟨fun a q1 q2 q3 => ?_, fun j hj => ?_, vP_cg (fun a q1 q2 => ?_) b2, ?_, c2, c3⟩, g2.congr ?_ ?_⟩)
    · rw [c1 a q2, u a q3, b1 a (by omega), a1 a (by omega) (by omega), h2 a (by omega) (by omega) (by omega)]
    · rw [c1 63 (by decide), ups_ne2 hj, b1 63 (by omega), a1 63 (by decide) (by decide), h2 63 (by decide) (by decide) (by decide)]
    · rw [c1 a (by omega), u a (by omega)]
    · rw [c1 63 (by decide), ups_self]
    · rw [c1 7 (by decide), u 7 (by decide), b1 7 (by omega)]
    · rw [c1 8 (by decide), u 8 (by decide), b1 8 (by omega)]
  · exact retI (Or.inl ⟨by omega, rfl, h2⟩)
end ReadText

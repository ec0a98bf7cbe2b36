/-! finds: the reference's groups -/
section Finds4
variable {L : Nat} {D : ab_D}
theorem m_touch {E : ab_E} {a b : Int} (ha : 0 ≤ a ∧ a < 1000) (hb : 0 ≤ b ∧ b < 1000) : CB 178 [vI a, vI b] E D (tch a b) := by
  refine Sx.un (y := 178) (n := 0) (lo := [vI a, vI b]) (st := []) (u := (0, 0)) ?_
  refine go_178_0 ?_
  simp only [sg_178_0, cl_I, cl_L, cl_R, e_bipush, e_cs3, e_goto, e_i2l, e_iconst, e_idiv, e_if_eq, e_iload_n, e_irem, e_isub, e_lconst, e_ldc2m, e_nil, fl_0, fl_I, fl_L, fl_R, l_ld0, l_ld1, rk_1, lc_lt, lc_le, lc_gt, lc_ge, lc_eq, true_and, and_true, List.length_cons, List.length_nil, ab_ia, Nat.reduceAdd, Nat.reduceLeDiff, Nat.reduceEqDiff, Nat.reduceLT, Int.reduceLT, Int.reduceLE, Int.reduceEq, Int.reduceNeg, true_or, or_true, false_or, or_false, not_false_eq_true, not_true_eq_false, false_implies, true_implies, forall_const, implies_true, Nat.zero_le, Nat.le_refl]
  refine ⟨by omega, by omega, ⟨by omega, by omega⟩, ?_⟩
  refine CB.use m_in (fun h1 => ?_) (fun h1 => ?_)
  · try simp only [lc_lt, lc_le, lc_gt, lc_ge, lc_eq, true_and, and_true, List.length_cons, List.length_nil, ab_ia, Nat.reduceAdd, Nat.reduceLeDiff, Nat.reduceEqDiff, Nat.reduceLT, Int.reduceLT, Int.reduceLE, Int.reduceEq, Int.reduceNeg, true_or, or_true, false_or, or_false, not_false_eq_true, not_true_eq_false, false_implies, true_implies, forall_const, implies_true, Nat.zero_le, Nat.le_refl]
    refine ⟨by omega, by omega, ⟨by omega, by omega⟩, ?_⟩
    refine CB.use m_in (fun h2 => ?_) (fun h2 => ?_)
    · try simp only [lc_lt, lc_le, lc_gt, lc_ge, lc_eq, true_and, and_true, List.length_cons, List.length_nil, ab_ia, Nat.reduceAdd, Nat.reduceLeDiff, Nat.reduceEqDiff, Nat.reduceLT, Int.reduceLT, Int.reduceLE, Int.reduceEq, Int.reduceNeg, true_or, or_true, false_or, or_false, not_false_eq_true, not_true_eq_false, false_implies, true_implies, forall_const, implies_true, Nat.zero_le, Nat.le_refl]
      refine go_178_27 ?_
      simp only [sg_178_27, cl_I, cl_L, cl_R, e_iret1, e_nil, lc_lt, lc_le, lc_gt, lc_ge, lc_eq, true_and, and_true, List.length_cons, List.length_nil, ab_ia, Nat.reduceAdd, Nat.reduceLeDiff, Nat.reduceEqDiff, Nat.reduceLT, Int.reduceLT, Int.reduceLE, Int.reduceEq, Int.reduceNeg, true_or, or_true, false_or, or_false, not_false_eq_true, not_true_eq_false, false_implies, true_implies, forall_const, implies_true, Nat.zero_le, Nat.le_refl]
      exact retB1 ⟨by omega, by omega⟩
    · try simp only [lc_lt, lc_le, lc_gt, lc_ge, lc_eq, true_and, and_true, List.length_cons, List.length_nil, ab_ia, Nat.reduceAdd, Nat.reduceLeDiff, Nat.reduceEqDiff, Nat.reduceLT, Int.reduceLT, Int.reduceLE, Int.reduceEq, Int.reduceNeg, true_or, or_true, false_or, or_false, not_false_eq_true, not_true_eq_false, false_implies, true_implies, forall_const, implies_true, Nat.zero_le, Nat.le_refl]
      refine go_178_26 ?_
      simp only [sg_178_26, cl_I, cl_L, cl_R, e_iconst, e_iret1, e_nil, lc_lt, lc_le, lc_gt, lc_ge, lc_eq, true_and, and_true, List.length_cons, List.length_nil, ab_ia, Nat.reduceAdd, Nat.reduceLeDiff, Nat.reduceEqDiff, Nat.reduceLT, Int.reduceLT, Int.reduceLE, Int.reduceEq, Int.reduceNeg, true_or, or_true, false_or, or_false, not_false_eq_true, not_true_eq_false, false_implies, true_implies, forall_const, implies_true, Nat.zero_le, Nat.le_refl]
      exact retB0 (fun q => h2 (by have := q.2; omega))
  · try simp only [lc_lt, lc_le, lc_gt, lc_ge, lc_eq, true_and, and_true, List.length_cons, List.length_nil, ab_ia, Nat.reduceAdd, Nat.reduceLeDiff, Nat.reduceEqDiff, Nat.reduceLT, Int.reduceLT, Int.reduceLE, Int.reduceEq, Int.reduceNeg, true_or, or_true, false_or, or_false, not_false_eq_true, not_true_eq_false, false_implies, true_implies, forall_const, implies_true, Nat.zero_le, Nat.le_refl]
    refine go_178_26 ?_
    simp only [sg_178_26, cl_I, cl_L, cl_R, e_iconst, e_iret1, e_nil, lc_lt, lc_le, lc_gt, lc_ge, lc_eq, true_and, and_true, List.length_cons, List.length_nil, ab_ia, Nat.reduceAdd, Nat.reduceLeDiff, Nat.reduceEqDiff, Nat.reduceLT, Int.reduceLT, Int.reduceLE, Int.reduceEq, Int.reduceNeg, true_or, or_true, false_or, or_false, not_false_eq_true, not_true_eq_false, false_implies, true_implies, forall_const, implies_true, Nat.zero_le, Nat.le_refl]
    exact retB0 (fun q => h1 (by have := q.1; omega))
def up3 (D : ab_D) (a b c : Nat → Int) : ab_D := upr (upr (upr D 85 a) 86 b) 87 c
theorem u3_n {a b c : Nat → Int} {p : Nat} (h : p ≠ 85 ∧ p ≠ 86 ∧ p ≠ 87) : up3 D a b c p = D p := by
  unfold up3
  rw [upr_ne h.2.2, upr_ne h.2.1, upr_ne h.1]
theorem u3_85 {a b c : Nat → Int} : up3 D a b c 85 = a := by
  unfold up3
  rw [upr_ne (by decide), upr_ne (by decide), upr_self]
theorem u3_86 {a b c : Nat → Int} : up3 D a b c 86 = b := by
  unfold up3
  rw [upr_ne (by decide), upr_self]
theorem u3_87 {a b c : Nat → Int} : up3 D a b c 87 = c := by
  unfold up3
  rw [upr_self]
theorem s3_85 {a b c : Nat → Int} {i : Nat} {z : Int} : ups (up3 D a b c) 85 i z = up3 D (fun j => if j = i then z else a j) b c := by
  funext p j
  by_cases hp : p = 85
  · subst hp; simp [up3, ups, upr]
  · simp [up3, ups, upr, hp]
theorem s3_86 {a b c : Nat → Int} {i : Nat} {z : Int} : ups (up3 D a b c) 86 i z = up3 D a (fun j => if j = i then z else b j) c := by
  funext p j
  by_cases hp : p = 86
  · subst hp; simp [up3, ups, upr]
  · simp [up3, ups, upr, hp]
theorem s3_87 {a b c : Nat → Int} {i : Nat} {z : Int} : ups (up3 D a b c) 87 i z = up3 D a b (fun j => if j = i then z else c j) := by
  funext p j
  by_cases hp : p = 87
  · subst hp; simp [up3, ups, upr]
  · simp [up3, ups, upr, hp]
theorem u3_id : up3 D (D 85) (D 86) (D 87) = D := by
  unfold up3
  rw [upr_id (D := upr (upr D 85 (D 85)) 86 (D 86)) (a := 87), upr_id (D := upr D 85 (D 85)) (a := 86), upr_id]
  · intro j; rfl
  · intro j; simp [upr]
  · intro j; simp [upr]
/-- between the least and itself -/
def hdOK (N : Nat) (h : Nat → Nat) (hd : Nat → Int) : Prop := ∀ i, i < N → (h i : Int) ≤ hd i ∧ hd i ≤ i
def setl (h : Nat → Nat) (hd : Nat → Int) : Nat → Bool := fun i => decide (hd i = h i)
theorem round_grows {N : Nat} {R : Nat → Nat → Prop} {h : Nat → Nat} {hd hd' : Nat → Int} (hl : isLab N R h) (hR : ∀ i j, R i j → R j i) (h0 : hdOK N h hd) (h1 : hdOK N h hd') (hle : ∀ i, i < N → hd' i ≤ hd i) (hp : ∀ a b, a < N → b < N → R a b → hd' b ≤ hd a) : (∀ i, i < N → hd' i = h i) ∨ cnt (setl h hd) N + 1 ≤ cnt (setl h hd') N := by
  by_cases hall : ∀ i, i < N → hd' i = h i
  · exact Or.inl hall
  · refine Or.inr (cnt_lt (fun i hi q => ?_) ?_)
    · have q1 : hd i = h i := of_decide_eq_true q
      have := hle i hi
      have := (h1 i hi).1
      exact decide_eq_true (by omega)
    · by_cases hx : ∃ i, i < N ∧ setl h hd i = false ∧ setl h hd' i = true
      · exact hx
      · exfalso
        apply hall
        have same : ∀ i, i < N → (hd' i = h i ↔ hd i = h i) := by
          intro i hi
          constructor
          · intro q
            by_cases q2 : hd i = h i
            · exact q2
            · exact absurd ⟨i, hi, decide_eq_false q2, decide_eq_true q⟩ hx
          · intro q
            have := hle i hi
            have := (h1 i hi).1
            omega
        have inv : inva N R (fun i => hd i = h i) := by
          have half : ∀ a b, a < N → b < N → R a b → hd a = h a → hd b = h b := by
            intro a b ha hb r q
            have := hp a b ha hb r
            have e := hl.2.1 a b ha hb r
            have := (h1 b hb).1
            exact (same b hb).mp (by omega)
          exact fun a b ha hb r => ⟨half a b ha hb r, half b a hb ha (hR a b r)⟩
        intro i hi
        have hle2 := hl.1 i hi
        have hh := h0 (h i) (by omega)
        have hid := isLab_idem hl hi
        rw [hid] at hh
        have : hd (h i) = h (h i) := by rw [hid]; omega
        have := (hl.2.2 _ inv i hi).mpr this
        exact (same i hi).mpr this
theorem divN {k N : Int} (h0 : 0 ≤ k) (hN : 0 < N) (h : k < N * N) : (0 ≤ k / N ∧ k / N < N) ∧ (0 ≤ k % N ∧ k % N < N) := ⟨⟨Int.ediv_nonneg h0 (by omega), Int.ediv_lt_of_lt_mul hN h⟩, Int.emod_nonneg k (by omega), Int.emod_lt_of_pos k hN⟩
theorem m_lg_k {Q : Option ab_V → ab_H → Prop} {N round : Int} {h : Nat → Nat} {hd0 gz bg : Nat → Int} (hN : N = D 69 22) (hk : fOK N (D 83) (D 84)) (hl : isLab N.toNat (kin (D 83) (D 84)) h) (h00 : hdOK N.toNat h hd0)
    (nx : ∀ (hd : Nat → Int), hdOK N.toNat h hd → (∀ i, i < N.toNat → hd i ≤ hd0 i) → (∀ a b, a < N.toNat → b < N.toNat → kin (D 83) (D 84) a b → hd b ≤ hd0 a) → ∀ x2 x3 x4 x5 : ab_V, Sx 179 102 [vR 69, vI round, x2, x3, x4, x5] [] (EE L, up3 D hd gz bg) (0, 0) Q) :
    ∀ (t : Nat) (k : Int) (hd : Nat → Int) (x3 x4 x5 : ab_V), 0 ≤ k → k + t = N * N → hdOK N.toNat h hd → (∀ i, i < N.toNat → hd i ≤ hd0 i) → (∀ a b : Nat, a < N.toNat → b < N.toNat → a * N + b < k → kin (D 83) (D 84) a b → hd b ≤ hd0 a) → Sx 179 31 [vR 69, vI round, vI k, x3, x4, x5] [] (EE L, up3 D hd gz bg) (0, 0) Q := by
  have n69 : ∀ a b c : Nat → Int, up3 D a b c 69 22 = N := fun a b c => by rw [u3_n (by decide), hN]
  have n83 : ∀ a b c : Nat → Int, up3 D a b c 83 = D 83 := fun a b c => u3_n (by decide)
  have n84 : ∀ a b c : Nat → Int, up3 D a b c 84 = D 84 := fun a b c => u3_n (by decide)
  have h16 := hk.1
  have hNN : 0 ≤ N * N ∧ N * N ≤ 256 := by
    refine ⟨Int.mul_nonneg h16.1 h16.1, ?_⟩
    have := Int.mul_le_mul h16.2 h16.2 h16.1 (by decide)
    omega
  intro t
  induction t with
  | zero =>
    intro k hd x3 x4 x5 hk0 hkt ho hle hp
    refine go_179_31 ?_
    simp only [sg_179_31, cl_I, cl_L, cl_R, e_aload_n, e_cs2, e_cs3, e_get0, e_get1, e_goto, e_i2l, e_iaload, e_icmp_ge, e_iconst, e_idiv, e_if_eq, e_iload, e_iload_n, e_imul, e_irem, e_istore, e_istore_n, e_isub, e_lconst, e_ldc2m, e_nil, fl_0, fl_I, fl_L, fl_R, l_ld2, l_ld3, l_ld4, l_ldA0, l_st3, l_st4, rk_1, wRef_some, EE_n, EE_r69_23, EE_r69_24, EE_s69, EE_s83, EE_s84, n69, lc_lt, lc_le, lc_gt, lc_ge, lc_eq, true_and, and_true, List.length_cons, List.length_nil, ab_ia, Nat.reduceAdd, Nat.reduceLeDiff, Nat.reduceEqDiff, Nat.reduceLT, Int.reduceLT, Int.reduceLE, Int.reduceEq, Int.reduceNeg, true_or, or_true, false_or, or_false, not_false_eq_true, not_true_eq_false, false_implies, true_implies, forall_const, implies_true, Nat.zero_le, Nat.le_refl]
    refine ⟨⟨by omega, by omega⟩, fun _ => ?_, fun hc => absurd hc (by omega)⟩
    refine nx hd ho hle (fun a b ha hb r => hp a b ha hb ?_ r) _ _ _ _
    have h1 : ((a : Int) + 1) * N ≤ N * N := Int.mul_le_mul_of_nonneg_right (by omega) h16.1
    have h2 : ((a : Int) + 1) * N = a * N + N := by rw [Int.add_mul, Int.one_mul]
    omega
  | succ t ih =>
    intro k hd x3 x4 x5 hk0 hkt ho hle hp
    have hN0 : 0 < N := by
      rcases Int.lt_or_eq_of_le h16.1 with q | q
      · exact q
      · rw [← q] at hkt; omega
    obtain ⟨⟨a1, a2⟩, b1, b2⟩ := divN hk0 hN0 (by omega)
    have hab : k / N * N + k % N = k := by rw [Int.mul_comm]; exact Int.mul_ediv_add_emod k N
    have hA := hk.2 (k / N).toNat (by omega)
    have hB := hk.2 (k % N).toNat (by omega)
    -- behind one pair
    have fin : ∀ (hd' : Nat → Int) (x5 : ab_V), (∀ j, hd' j = if j = (k % N).toNat then (if kin (D 83) (D 84) (k / N).toNat (k % N).toNat ∧ hd (k / N).toNat < hd (k % N).toNat then hd (k / N).toNat else hd (k % N).toNat) else hd j) → Sx 179 31 [vR 69, vI round, vI (k + 1), vI (k / N), vI (k % N), x5] [] (EE L, up3 D hd' gz bg) (0, 0) Q := by
      intro hd' x5 hh
      have hle' : ∀ i, i < N.toNat → hd' i ≤ hd i := by
        intro i hi
        rw [hh i]
        by_cases q : i = (k % N).toNat
        · rw [if_pos q]
          split
          · rename_i q2; rw [q]; omega
          · rw [q]; omega
        · rw [if_neg q]; omega
      refine ih (k + 1) hd' _ _ _ (by omega) (by omega) ?_ (fun i hi => by have := hle i hi; have := hle' i hi; omega) ?_
      · intro i hi
        have hi0 := ho i hi
        have := hle' i hi
        refine ⟨?_, by omega⟩
        rw [hh i]
        by_cases q : i = (k % N).toNat
        · rw [if_pos q]
          split
          · rename_i q2
            have e := hl.2.1 _ _ (show (k / N).toNat < N.toNat by omega) (show (k % N).toNat < N.toNat by omega) q2.1
            have := (ho (k / N).toNat (by omega)).1
            rw [q, ← e]
            exact this
          · rw [← q]; exact hi0.1
        · rw [if_neg q]; exact hi0.1
      · intro a b ha hb hlt r
        by_cases q : (a : Int) * N + b = k
        · have ea : (a : Int) = k / N := by
            have : (a : Int) * N + b = N * a + b := by rw [Int.mul_comm]
            rw [← q, this, Int.mul_add_ediv_left _ _ (by omega), Int.ediv_eq_zero_of_lt (by omega) (by omega)]
            omega
          have eb : (b : Int) = k % N := by
            rw [← ea] at hab
            omega
          have ea' : a = (k / N).toNat := by omega
          have eb' : b = (k % N).toNat := by omega
          rw [hh b, if_pos eb', ← ea', ← eb']
          have := hle a ha
          split
          · exact this
          · rename_i q2
            have : ¬ hd a < hd b := fun z => q2 ⟨r, z⟩
            omega
        · have := hp a b ha hb (by omega) r
          have := hle' b hb
          omega
    have old : ¬ (kin (D 83) (D 84) (k / N).toNat (k % N).toNat ∧ hd (k / N).toNat < hd (k % N).toNat) → ∀ x5 : ab_V, Sx 179 95 [vR 69, vI round, vI k, vI (k / N), vI (k % N), x5] [vI (k % N), vR 85] (EE L, up3 D hd gz bg) (0, 0) Q := by
      intro hno x5
      refine go_179_95 ?_
      simp only [sg_179_95, cl_I, cl_L, cl_R, e_aload_n, e_get1, e_goto, e_iaload, e_iastore, e_iinc, e_iload, e_nil, l_inc2, l_ld4, l_ldA0, wRef_some, EE_n, EE_r69_25, EE_s69, EE_s85, n69, n83, n84, u3_85, s3_85, lc_lt, lc_le, lc_gt, lc_ge, lc_eq, true_and, and_true, List.length_cons, List.length_nil, ab_ia, Nat.reduceAdd, Nat.reduceLeDiff, Nat.reduceEqDiff, Nat.reduceLT, Int.reduceLT, Int.reduceLE, Int.reduceEq, Int.reduceNeg, true_or, or_true, false_or, or_false, not_false_eq_true, not_true_eq_false, false_implies, true_implies, forall_const, implies_true, Nat.zero_le, Nat.le_refl]
      refine ⟨by omega, by omega, ⟨by omega, by omega⟩, fin _ _ (fun j => ?_)⟩
      rw [if_neg hno]
    have mid : ∀ (fl : Int) (x5 : ab_V), ((kin (D 83) (D 84) (k / N).toNat (k % N).toNat ∧ fl = 1) ∨ (¬ kin (D 83) (D 84) (k / N).toNat (k % N).toNat ∧ fl = 0)) → Sx 179 75 [vR 69, vI round, vI k, vI (k / N), vI (k % N), x5] [vI fl] (EE L, up3 D hd gz bg) (0, 0) Q := by
      intro fl x5 hfl
      refine go_179_75 ?_
      simp only [sg_179_75, cl_I, cl_L, cl_R, e_aload_n, e_get1, e_goto, e_iaload, e_icmp_ge, e_if_eq, e_iload, e_iload_n, e_istore, e_nil, l_ld3, l_ld4, l_ld5, l_ldA0, l_st5, wRef_some, EE_n, EE_r69_25, EE_s69, EE_s85, n69, n83, n84, u3_85, lc_lt, lc_le, lc_gt, lc_ge, lc_eq, true_and, and_true, List.length_cons, List.length_nil, ab_ia, Nat.reduceAdd, Nat.reduceLeDiff, Nat.reduceEqDiff, Nat.reduceLT, Int.reduceLT, Int.reduceLE, Int.reduceEq, Int.reduceNeg, true_or, or_true, false_or, or_false, not_false_eq_true, not_true_eq_false, false_implies, true_implies, forall_const, implies_true, Nat.zero_le, Nat.le_refl]
      refine ⟨fun q => ?_, fun q => ⟨by omega, by omega, fun q2 => ?_, fun q2 => ⟨by omega, ?_⟩⟩⟩
      · refine old (fun z => ?_) _
        rcases hfl with ⟨z1, z2⟩ | ⟨z1, z2⟩
        · omega
        · exact z1 z.1
      · exact old (fun z => by omega) _
      · refine go_179_99 ?_
        simp only [sg_179_99, cl_I, cl_L, cl_R, e_goto, e_iastore, e_iinc, e_nil, l_inc2, EE_s85, EE_n, n69, n83, n84, u3_85, s3_85, lc_lt, lc_le, lc_gt, lc_ge, lc_eq, true_and, and_true, List.length_cons, List.length_nil, ab_ia, Nat.reduceAdd, Nat.reduceLeDiff, Nat.reduceEqDiff, Nat.reduceLT, Int.reduceLT, Int.reduceLE, Int.reduceEq, Int.reduceNeg, true_or, or_true, false_or, or_false, not_false_eq_true, not_true_eq_false, false_implies, true_implies, forall_const, implies_true, Nat.zero_le, Nat.le_refl]
        have hc2 : kin (D 83) (D 84) (k / N).toNat (k % N).toNat ∧ hd (k / N).toNat < hd (k % N).toNat := by
          refine ⟨?_, by omega⟩
          rcases hfl with ⟨z1, z2⟩ | ⟨z1, z2⟩
          · exact z1
          · exact absurd z2 q
        exact ⟨by omega, ⟨by omega, by omega⟩, fin _ _ (fun j => by simp only [if_pos hc2])⟩
    refine go_179_31 ?_
    simp only [sg_179_31, cl_I, cl_L, cl_R, e_aload_n, e_cs2, e_cs3, e_get0, e_get1, e_goto, e_i2l, e_iaload, e_icmp_ge, e_iconst, e_idiv, e_if_eq, e_iload, e_iload_n, e_imul, e_irem, e_istore, e_istore_n, e_isub, e_lconst, e_ldc2m, e_nil, fl_0, fl_I, fl_L, fl_R, l_ld2, l_ld3, l_ld4, l_ldA0, l_st3, l_st4, rk_1, wRef_some, EE_n, EE_r69_23, EE_r69_24, EE_s69, EE_s83, EE_s84, n69, n83, n84, lc_lt, lc_le, lc_gt, lc_ge, lc_eq, true_and, and_true, List.length_cons, List.length_nil, ab_ia, Nat.reduceAdd, Nat.reduceLeDiff, Nat.reduceEqDiff, Nat.reduceLT, Int.reduceLT, Int.reduceLE, Int.reduceEq, Int.reduceNeg, true_or, or_true, false_or, or_false, not_false_eq_true, not_true_eq_false, false_implies, true_implies, forall_const, implies_true, Nat.zero_le, Nat.le_refl]
    refine ⟨⟨by omega, by omega⟩, fun hc => absurd hc (by omega), fun _ => ⟨by omega, by omega, by omega, by omega, ?_⟩⟩
    refine CB.use (m_touch (by omega) (by omega)) (fun h1 => ?_) (fun h1 => ?_)
    · try simp only [n69, n83, n84, lc_lt, lc_le, lc_gt, lc_ge, lc_eq, true_and, and_true, List.length_cons, List.length_nil, ab_ia, Nat.reduceAdd, Nat.reduceLeDiff, Nat.reduceEqDiff, Nat.reduceLT, Int.reduceLT, Int.reduceLE, Int.reduceEq, Int.reduceNeg, true_or, or_true, false_or, or_false, not_false_eq_true, not_true_eq_false, false_implies, true_implies, forall_const, implies_true, Nat.zero_le, Nat.le_refl]
      refine ⟨by omega, by omega, ⟨by omega, by omega⟩, ?_⟩
      refine CB.use m_in (fun h2 => ?_) (fun h2 => ?_)
      · try simp only [lc_lt, lc_le, lc_gt, lc_ge, lc_eq, true_and, and_true, List.length_cons, List.length_nil, ab_ia, Nat.reduceAdd, Nat.reduceLeDiff, Nat.reduceEqDiff, Nat.reduceLT, Int.reduceLT, Int.reduceLE, Int.reduceEq, Int.reduceNeg, true_or, or_true, false_or, or_false, not_false_eq_true, not_true_eq_false, false_implies, true_implies, forall_const, implies_true, Nat.zero_le, Nat.le_refl]
        exact mid 1 _ (Or.inl ⟨⟨h1, by omega⟩, rfl⟩)
      · try simp only [lc_lt, lc_le, lc_gt, lc_ge, lc_eq, true_and, and_true, List.length_cons, List.length_nil, ab_ia, Nat.reduceAdd, Nat.reduceLeDiff, Nat.reduceEqDiff, Nat.reduceLT, Int.reduceLT, Int.reduceLE, Int.reduceEq, Int.reduceNeg, true_or, or_true, false_or, or_false, not_false_eq_true, not_true_eq_false, false_implies, true_implies, forall_const, implies_true, Nat.zero_le, Nat.le_refl]
        refine go_179_74 ?_
        simp only [sg_179_74, cl_I, cl_L, cl_R, e_aload_n, e_get1, e_goto, e_iaload, e_icmp_ge, e_iconst, e_if_eq, e_iload, e_iload_n, e_istore, e_nil, l_ld3, l_ld4, l_ld5, l_ldA0, l_st5, wRef_some, EE_n, EE_r69_25, EE_s69, EE_s85, lc_lt, lc_le, lc_gt, lc_ge, lc_eq, true_and, and_true, List.length_cons, List.length_nil, ab_ia, Nat.reduceAdd, Nat.reduceLeDiff, Nat.reduceEqDiff, Nat.reduceLT, Int.reduceLT, Int.reduceLE, Int.reduceEq, Int.reduceNeg, true_or, or_true, false_or, or_false, not_false_eq_true, not_true_eq_false, false_implies, true_implies, forall_const, implies_true, Nat.zero_le, Nat.le_refl]
        exact old (fun z => h2 (by have := z.1.2; omega)) _
    · try simp only [lc_lt, lc_le, lc_gt, lc_ge, lc_eq, true_and, and_true, List.length_cons, List.length_nil, ab_ia, Nat.reduceAdd, Nat.reduceLeDiff, Nat.reduceEqDiff, Nat.reduceLT, Int.reduceLT, Int.reduceLE, Int.reduceEq, Int.reduceNeg, true_or, or_true, false_or, or_false, not_false_eq_true, not_true_eq_false, false_implies, true_implies, forall_const, implies_true, Nat.zero_le, Nat.le_refl]
      refine go_179_74 ?_
      simp only [sg_179_74, cl_I, cl_L, cl_R, e_aload_n, e_get1, e_goto, e_iaload, e_icmp_ge, e_iconst, e_if_eq, e_iload, e_iload_n, e_istore, e_nil, l_ld3, l_ld4, l_ld5, l_ldA0, l_st5, wRef_some, EE_n, EE_r69_25, EE_s69, EE_s85, lc_lt, lc_le, lc_gt, lc_ge, lc_eq, true_and, and_true, List.length_cons, List.length_nil, ab_ia, Nat.reduceAdd, Nat.reduceLeDiff, Nat.reduceEqDiff, Nat.reduceLT, Int.reduceLT, Int.reduceLE, Int.reduceEq, Int.reduceNeg, true_or, or_true, false_or, or_false, not_false_eq_true, not_true_eq_false, false_implies, true_implies, forall_const, implies_true, Nat.zero_le, Nat.le_refl]
      exact old (fun z => h1 z.1.1) _
theorem m_lg_rounds {Q : Option ab_V → ab_H → Prop} {N : Int} {h : Nat → Nat} {gz bg : Nat → Int} (hN : N = D 69 22) (hk : fOK N (D 83) (D 84)) (hl : isLab N.toNat (kin (D 83) (D 84)) h)
    (nx : ∀ (hd : Nat → Int), (∀ i, i < N.toNat → hd i = h i) → ∀ x1 x2 x3 x4 x5 : ab_V, Sx 179 104 [vR 69, x1, x2, x3, x4, x5] [] (EE L, up3 D hd gz bg) (0, 0) Q) :
    ∀ (t : Nat) (round : Int) (hd : Nat → Int) (x2 x3 x4 x5 : ab_V), 0 ≤ round → round + t = N → hdOK N.toNat h hd → ((∀ i, i < N.toNat → hd i = h i) ∨ round ≤ cnt (setl h hd) N.toNat) → Sx 179 25 [vR 69, vI round, x2, x3, x4, x5] [] (EE L, up3 D hd gz bg) (0, 0) Q := by
  have n69 : ∀ a b c : Nat → Int, up3 D a b c 69 22 = N := fun a b c => by rw [u3_n (by decide), hN]
  have h16 := hk.1
  have hNN : 0 ≤ N * N := Int.mul_nonneg h16.1 h16.1
  intro t
  induction t with
  | zero =>
    intro round hd x2 x3 x4 x5 hr0 hrt ho hs
    refine go_179_25 ?_
    simp only [sg_179_25, cl_I, cl_L, cl_R, e_aload_n, e_get0, e_icmp_ge, e_iconst, e_iload_n, e_istore_n, e_nil, l_ld1, l_ldA0, l_st2, wRef_some, EE_n, EE_s69, n69, lc_lt, lc_le, lc_gt, lc_ge, lc_eq, true_and, and_true, List.length_cons, List.length_nil, ab_ia, Nat.reduceAdd, Nat.reduceLeDiff, Nat.reduceEqDiff, Nat.reduceLT, Int.reduceLT, Int.reduceLE, Int.reduceEq, Int.reduceNeg, true_or, or_true, false_or, or_false, not_false_eq_true, not_true_eq_false, false_implies, true_implies, forall_const, implies_true, Nat.zero_le, Nat.le_refl]
    refine ⟨fun _ => ?_, fun hc => absurd hc (by omega)⟩
    refine nx hd ?_ _ _ _ _ _
    rcases hs with hs | hs
    · exact hs
    · intro i hi
      exact of_decide_eq_true (cnt_all (P := setl h hd) (N := N.toNat) (by omega) i hi)
  | succ t ih =>
    intro round hd x2 x3 x4 x5 hr0 hrt ho hs
    refine go_179_25 ?_
    simp only [sg_179_25, cl_I, cl_L, cl_R, e_aload_n, e_get0, e_icmp_ge, e_iconst, e_iload_n, e_istore_n, e_nil, l_ld1, l_ldA0, l_st2, wRef_some, EE_n, EE_s69, n69, lc_lt, lc_le, lc_gt, lc_ge, lc_eq, true_and, and_true, List.length_cons, List.length_nil, ab_ia, Nat.reduceAdd, Nat.reduceLeDiff, Nat.reduceEqDiff, Nat.reduceLT, Int.reduceLT, Int.reduceLE, Int.reduceEq, Int.reduceNeg, true_or, or_true, false_or, or_false, not_false_eq_true, not_true_eq_false, false_implies, true_implies, forall_const, implies_true, Nat.zero_le, Nat.le_refl]
    refine ⟨fun hc => absurd hc (by omega), fun _ => ?_⟩
    refine m_lg_k hN hk hl ho ?_ (N * N).toNat 0 hd _ _ _ (by omega) (by omega) ho (fun i hi => by omega) (fun a b ha hb hlt r => ?_)
    · intro hd' ho' hle hp x2 x3 x4 x5
      refine go_179_102 ?_
      simp only [sg_179_102, cl_I, cl_L, cl_R, e_goto, e_iinc, e_nil, l_inc1, lc_lt, lc_le, lc_gt, lc_ge, lc_eq, true_and, and_true, List.length_cons, List.length_nil, ab_ia, Nat.reduceAdd, Nat.reduceLeDiff, Nat.reduceEqDiff, Nat.reduceLT, Int.reduceLT, Int.reduceLE, Int.reduceEq, Int.reduceNeg, true_or, or_true, false_or, or_false, not_false_eq_true, not_true_eq_false, false_implies, true_implies, forall_const, implies_true, Nat.zero_le, Nat.le_refl]
      refine ⟨⟨by omega, by omega⟩, ih (round + 1) hd' _ _ _ _ (by omega) (by omega) ho' ?_⟩
      rcases hs with hs | hs
      · refine Or.inl (fun i hi => ?_)
        have := hs i hi
        have := hle i hi
        have := (ho' i hi).1
        omega
      · rcases round_grows hl (fun i j r => kin_symm r) ho ho' hle hp with q | q
        · exact Or.inl q
        · exact Or.inr (by omega)
    · have : 0 ≤ (a : Int) * N := Int.mul_nonneg (by omega) h16.1
      omega
theorem m_lg_last {Q : Option ab_V → ab_H → Prop} {N : Int} {h : Nat → Nat} {hd : Nat → Int} (hN : N = D 69 22) (hk : fOK N (D 83) (D 84)) (hl : isLab N.toNat (kin (D 83) (D 84)) h) (hh : ∀ i, i < N.toNat → hd i = h i)
    (hq : ∀ gz bg : Nat → Int, (∀ i, i < N.toNat → gz i = cnt (gsz h i) N.toNat ∧ bg i = gmin h (D 84) i N.toNat) → Q none (EE L, up3 D hd gz bg)) :
    ∀ (t : Nat) (f : Int) (gz bg : Nat → Int) (x2 x3 x4 x5 : ab_V), 0 ≤ f → f + t = N → (∀ i, i < N.toNat → gz i = cnt (gsz h i) f.toNat ∧ bg i = gmin h (D 84) i f.toNat) → Sx 179 106 [vR 69, vI f, x2, x3, x4, x5] [] (EE L, up3 D hd gz bg) (0, 0) Q := by
  have n69 : ∀ a b c : Nat → Int, up3 D a b c 69 22 = N := fun a b c => by rw [u3_n (by decide), hN]
  have n84 : ∀ a b c : Nat → Int, up3 D a b c 84 = D 84 := fun a b c => u3_n (by decide)
  have h16 := hk.1
  intro t
  induction t with
  | zero =>
    intro f gz bg x2 x3 x4 x5 hf0 hft hi
    refine go_179_106 ?_
    simp only [sg_179_106, cl_I, cl_L, cl_R, e_aload_n, e_dup2, e_get0, e_get1, e_goto, e_iadd, e_iaload, e_iastore, e_icmp_ge, e_iconst, e_iload_n, e_nil, l_ld1, l_ldA0, wRef_some, EE_n, EE_r69_24, EE_r69_25, EE_r69_26, EE_r69_27, EE_s69, EE_s84, EE_s85, EE_s86, EE_s87, n69, lc_lt, lc_le, lc_gt, lc_ge, lc_eq, true_and, and_true, List.length_cons, List.length_nil, ab_ia, Nat.reduceAdd, Nat.reduceLeDiff, Nat.reduceEqDiff, Nat.reduceLT, Int.reduceLT, Int.reduceLE, Int.reduceEq, Int.reduceNeg, true_or, or_true, false_or, or_false, not_false_eq_true, not_true_eq_false, false_implies, true_implies, forall_const, implies_true, Nat.zero_le, Nat.le_refl]
    refine ⟨fun _ => ?_, fun hc => absurd hc (by omega)⟩
    refine go_179_154 ?_
    simp only [sg_179_154, cl_I, cl_L, cl_R, e_nil, e_vret, lc_lt, lc_le, lc_gt, lc_ge, lc_eq, true_and, and_true, List.length_cons, List.length_nil, ab_ia, Nat.reduceAdd, Nat.reduceLeDiff, Nat.reduceEqDiff, Nat.reduceLT, Int.reduceLT, Int.reduceLE, Int.reduceEq, Int.reduceNeg, true_or, or_true, false_or, or_false, not_false_eq_true, not_true_eq_false, false_implies, true_implies, forall_const, implies_true, Nat.zero_le, Nat.le_refl]
    refine hq gz bg (fun i hi2 => ?_)
    rw [show N.toNat = f.toNat by omega]
    exact hi i hi2
  | succ t ih =>
    intro f gz bg x2 x3 x4 x5 hf0 hft hi
    have e1 := hh f.toNat (by omega)
    have e2 := hl.1 f.toNat (by omega)
    have e3 := (hk.2 f.toNat (by omega)).2
    have e4 := hi (h f.toNat) (by omega)
    have ef : (f + 1).toNat = f.toNat + 1 := by omega
    have hcb := cnt_bd (gsz h (h f.toNat)) f.toNat
    have ec : ((h f.toNat : Int)).toNat = h f.toNat := rfl
    have fin : ∀ (bg' : Nat → Int), (∀ j, bg' j = if j = h f.toNat then (if D 84 f.toNat < bg (h f.toNat) then D 84 f.toNat else bg (h f.toNat)) else bg j) → ∀ x2 x3 x4 x5 : ab_V, Sx 179 106 [vR 69, vI (f + 1), x2, x3, x4, x5] [] (EE L, up3 D hd (fun j => if j = h f.toNat then gz (h f.toNat) + 1 else gz j) bg') (0, 0) Q := by
      intro bg' hb x2 x3 x4 x5
      refine ih (f + 1) _ _ _ _ _ _ (by omega) (by omega) (fun i hi2 => ?_)
      have := hi i hi2
      rw [ef]
      constructor
      · have hcl : cnt (gsz h i) (f.toNat + 1) = cnt (gsz h i) f.toNat + if h f.toNat = i then 1 else 0 := by simp [cnt, gsz]
        rw [hcl]
        by_cases q : i = h f.toNat
        · simp only [if_pos q, if_pos q.symm]
          rw [← q]
          omega
        · simp only [if_neg q, if_neg (Ne.symm q)]
          omega
      · rw [hb i]
        simp only [gmin]
        by_cases q : i = h f.toNat
        · simp only [if_pos q, if_pos q.symm]
          rw [← q, this.2]
        · simp only [if_neg q, if_neg (Ne.symm q)]
          exact this.2
    refine go_179_106 ?_
    simp only [sg_179_106, cl_I, cl_L, cl_R, e_aload_n, e_dup2, e_get0, e_get1, e_goto, e_iadd, e_iaload, e_iastore, e_icmp_ge, e_iconst, e_iload_n, e_nil, l_ld1, l_ldA0, wRef_some, EE_n, EE_r69_24, EE_r69_25, EE_r69_26, EE_r69_27, EE_s69, EE_s84, EE_s85, EE_s86, EE_s87, n69, n84, u3_85, u3_86, s3_86, u3_87, e1, ec, lc_lt, lc_le, lc_gt, lc_ge, lc_eq, true_and, and_true, List.length_cons, List.length_nil, ab_ia, Nat.reduceAdd, Nat.reduceLeDiff, Nat.reduceEqDiff, Nat.reduceLT, Int.reduceLT, Int.reduceLE, Int.reduceEq, Int.reduceNeg, true_or, or_true, false_or, or_false, not_false_eq_true, not_true_eq_false, false_implies, true_implies, forall_const, implies_true, Nat.zero_le, Nat.le_refl]
    refine ⟨fun hc => absurd hc (by omega), fun _ => ⟨by omega, by omega, ⟨by omega, by omega⟩, by omega, by omega, by omega, by omega, by omega, fun q => ?_, fun q => ⟨by omega, ?_⟩⟩⟩
    · refine go_179_144 ?_
      simp only [sg_179_144, cl_I, cl_L, cl_R, e_aload_n, e_get1, e_goto, e_iaload, e_iastore, e_iinc, e_iload_n, e_nil, l_inc1, l_ld1, l_ldA0, wRef_some, EE_n, EE_r69_25, EE_r69_27, EE_s69, EE_s85, EE_s87, n69, n84, u3_85, u3_86, u3_87, s3_87, e1, ec, lc_lt, lc_le, lc_gt, lc_ge, lc_eq, true_and, and_true, List.length_cons, List.length_nil, ab_ia, Nat.reduceAdd, Nat.reduceLeDiff, Nat.reduceEqDiff, Nat.reduceLT, Int.reduceLT, Int.reduceLE, Int.reduceEq, Int.reduceNeg, true_or, or_true, false_or, or_false, not_false_eq_true, not_true_eq_false, false_implies, true_implies, forall_const, implies_true, Nat.zero_le, Nat.le_refl]
      refine ⟨by omega, by omega, by omega, ⟨by omega, by omega⟩, fin _ (fun j => ?_) _ _ _ _⟩
      simp only [if_neg (show ¬ D 84 f.toNat < bg (h f.toNat) by omega)]
    · refine go_179_151 ?_
      simp only [sg_179_151, cl_I, cl_L, cl_R, e_goto, e_iastore, e_iinc, e_nil, l_inc1, EE_n, EE_s87, n69, n84, u3_85, u3_86, u3_87, s3_87, e1, ec, lc_lt, lc_le, lc_gt, lc_ge, lc_eq, true_and, and_true, List.length_cons, List.length_nil, ab_ia, Nat.reduceAdd, Nat.reduceLeDiff, Nat.reduceEqDiff, Nat.reduceLT, Int.reduceLT, Int.reduceLE, Int.reduceEq, Int.reduceNeg, true_or, or_true, false_or, or_false, not_false_eq_true, not_true_eq_false, false_implies, true_implies, forall_const, implies_true, Nat.zero_le, Nat.le_refl]
      refine ⟨by omega, ⟨by omega, by omega⟩, fin _ (fun j => ?_) _ _ _ _⟩
      simp only [if_pos (show D 84 f.toNat < bg (h f.toNat) by omega)]
theorem m_lg_init {Q : Option ab_V → ab_H → Prop} {N : Int} (hN : N = D 69 22) (h16 : 0 ≤ N ∧ N ≤ 16)
    (nx : ∀ (hd gz bg : Nat → Int), (∀ i, i < N.toNat → hd i = i ∧ gz i = 0 ∧ bg i = 99) → ∀ x1 x2 x3 x4 x5 : ab_V, Sx 179 23 [vR 69, x1, x2, x3, x4, x5] [] (EE L, up3 D hd gz bg) (0, 0) Q) :
    ∀ (t : Nat) (f : Int) (hd gz bg : Nat → Int) (x2 x3 x4 x5 : ab_V), 0 ≤ f → f + t = N → (∀ i : Nat, (i : Int) < f → hd i = i ∧ gz i = 0 ∧ bg i = 99) → Sx 179 2 [vR 69, vI f, x2, x3, x4, x5] [] (EE L, up3 D hd gz bg) (0, 0) Q := by
  have n69 : ∀ a b c : Nat → Int, up3 D a b c 69 22 = N := fun a b c => by rw [u3_n (by decide), hN]
  intro t
  induction t with
  | zero =>
    intro f hd gz bg x2 x3 x4 x5 hf0 hft hi
    refine go_179_2 ?_
    simp only [sg_179_2, cl_I, cl_L, cl_R, e_aload_n, e_bipush, e_get0, e_get1, e_goto, e_iastore, e_icmp_ge, e_iconst, e_iinc, e_iload_n, e_nil, l_inc1, l_ld1, l_ldA0, wRef_some, EE_n, EE_r69_25, EE_r69_26, EE_r69_27, EE_s69, EE_s85, EE_s86, EE_s87, n69, lc_lt, lc_le, lc_gt, lc_ge, lc_eq, true_and, and_true, List.length_cons, List.length_nil, ab_ia, Nat.reduceAdd, Nat.reduceLeDiff, Nat.reduceEqDiff, Nat.reduceLT, Int.reduceLT, Int.reduceLE, Int.reduceEq, Int.reduceNeg, true_or, or_true, false_or, or_false, not_false_eq_true, not_true_eq_false, false_implies, true_implies, forall_const, implies_true, Nat.zero_le, Nat.le_refl]
    refine ⟨fun _ => nx hd gz bg (fun i hi2 => hi i (by omega)) _ _ _ _ _, fun hc => absurd hc (by omega)⟩
  | succ t ih =>
    intro f hd gz bg x2 x3 x4 x5 hf0 hft hi
    refine go_179_2 ?_
    simp only [sg_179_2, cl_I, cl_L, cl_R, e_aload_n, e_bipush, e_get0, e_get1, e_goto, e_iastore, e_icmp_ge, e_iconst, e_iinc, e_iload_n, e_nil, l_inc1, l_ld1, l_ldA0, wRef_some, EE_n, EE_r69_25, EE_r69_26, EE_r69_27, EE_s69, EE_s85, EE_s86, EE_s87, n69, s3_85, s3_86, s3_87, lc_lt, lc_le, lc_gt, lc_ge, lc_eq, true_and, and_true, List.length_cons, List.length_nil, ab_ia, Nat.reduceAdd, Nat.reduceLeDiff, Nat.reduceEqDiff, Nat.reduceLT, Int.reduceLT, Int.reduceLE, Int.reduceEq, Int.reduceNeg, true_or, or_true, false_or, or_false, not_false_eq_true, not_true_eq_false, false_implies, true_implies, forall_const, implies_true, Nat.zero_le, Nat.le_refl]
    refine ⟨fun hc => absurd hc (by omega), fun _ => ⟨by omega, by omega, by omega, ⟨by omega, by omega⟩, ih (f + 1) _ _ _ _ _ _ _ (by omega) (by omega) (fun i hi2 => ?_)⟩⟩
    by_cases q : i = f.toNat
    · simp only [if_pos q]
      exact ⟨by omega, trivial, trivial⟩
    · simp only [if_neg q]
      exact hi i (by omega)
/-- the reference's groups, by any labelling that is one -/
theorem m_layGroups {h : Nat → Nat} (hk : fOK (D 69 22) (D 83) (D 84)) (hl : isLab (D 69 22).toNat (kin (D 83) (D 84)) h) : CV 179 [vR 69] (EE L, D) (fun D' => ∃ hd gz bg : Nat → Int, D' = up3 D hd gz bg ∧ ∀ i, i < (D 69 22).toNat → hd i = h i ∧ gz i = cnt (gsz h i) (D 69 22).toNat ∧ bg i = gmin h (D 84) i (D 69 22).toNat) := by
  have h16 := hk.1
  refine Sx.un (y := 179) (n := 0) (lo := [vR 69, vU, vU, vU, vU, vU]) (st := []) (u := (0, 0)) ?_
  refine go_179_0 ?_
  simp only [sg_179_0, cl_I, cl_L, cl_R, e_iconst, e_istore_n, e_nil, l_st1, lc_lt, lc_le, lc_gt, lc_ge, lc_eq, true_and, and_true, List.length_cons, List.length_nil, ab_ia, Nat.reduceAdd, Nat.reduceLeDiff, Nat.reduceEqDiff, Nat.reduceLT, Int.reduceLT, Int.reduceLE, Int.reduceEq, Int.reduceNeg, true_or, or_true, false_or, or_false, not_false_eq_true, not_true_eq_false, false_implies, true_implies, forall_const, implies_true, Nat.zero_le, Nat.le_refl]
  have := m_lg_init (L := L) (D := D) (N := D 69 22) rfl h16 (Q := fun r h' => ∃ D', r = none ∧ h' = (EE L, D') ∧ ∃ hd gz bg : Nat → Int, D' = up3 D hd gz bg ∧ ∀ i, i < (D 69 22).toNat → hd i = h i ∧ gz i = cnt (gsz h i) (D 69 22).toNat ∧ bg i = gmin h (D 84) i (D 69 22).toNat) (fun hd gz bg hi x1 x2 x3 x4 x5 => by
    refine go_179_23 ?_
    simp only [sg_179_23, cl_I, cl_L, cl_R, e_iconst, e_istore_n, e_nil, l_st1, lc_lt, lc_le, lc_gt, lc_ge, lc_eq, true_and, and_true, List.length_cons, List.length_nil, ab_ia, Nat.reduceAdd, Nat.reduceLeDiff, Nat.reduceEqDiff, Nat.reduceLT, Int.reduceLT, Int.reduceLE, Int.reduceEq, Int.reduceNeg, true_or, or_true, false_or, or_false, not_false_eq_true, not_true_eq_false, false_implies, true_implies, forall_const, implies_true, Nat.zero_le, Nat.le_refl]
    refine m_lg_rounds rfl hk hl (fun hd' hh x1 x2 x3 x4 x5 => ?_) (D 69 22).toNat 0 hd _ _ _ _ (by omega) (by omega) (fun i hi2 => ?_) (Or.inr (cnt_bd _ _).1)
    · refine go_179_104 ?_
      simp only [sg_179_104, cl_I, cl_L, cl_R, e_iconst, e_istore_n, e_nil, l_st1, lc_lt, lc_le, lc_gt, lc_ge, lc_eq, true_and, and_true, List.length_cons, List.length_nil, ab_ia, Nat.reduceAdd, Nat.reduceLeDiff, Nat.reduceEqDiff, Nat.reduceLT, Int.reduceLT, Int.reduceLE, Int.reduceEq, Int.reduceNeg, true_or, or_true, false_or, or_false, not_false_eq_true, not_true_eq_false, false_implies, true_implies, forall_const, implies_true, Nat.zero_le, Nat.le_refl]
      refine m_lg_last rfl hk hl hh (fun gz' bg' hg => ⟨_, rfl, rfl, hd', gz', bg', rfl, fun i hi2 => ⟨hh i hi2, hg i hi2⟩⟩) (D 69 22).toNat 0 gz bg _ _ _ _ (by omega) (by omega) (fun i hi2 => ⟨(hi i hi2).2.1, (hi i hi2).2.2⟩)
    · have := hl.1 i hi2
      rw [(hi i hi2).1]
      omega) (D 69 22).toNat 0 (D 85) (D 86) (D 87) vU vU vU vU (by omega) (by omega) (fun i hi => absurd hi (by omega))
  rw [u3_id] at this
  exact this
end Finds4

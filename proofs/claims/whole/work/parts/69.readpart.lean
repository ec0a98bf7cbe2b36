/-! the reference reads a part -/
/-- what the reference has read -/
def rM (D : ab_D) (N C : Int → Int) : Prop := D 70 0 = N 0 ∧ (∀ j : Int, 1 ≤ j → j < 8 → D 72 j.toNat = (if N j = -1 then 0 else 1) ∧ D 70 j.toNat = els (N j) (dfl j)) ∧ ∀ a : Int, isCl 6 a → D 72 (8 + 6 * (a / 10) + a % 10).toNat = (if C a = -1 then 0 else 1) ∧ D 70 (8 + 6 * (a / 10) + a % 10).toNat = els (C a) 5
theorem rM.congr {D D' : ab_D} {N C : Int → Int} (h70 : D' 70 = D 70) (h72 : D' 72 = D 72) (h : rM D N C) : rM D' N C := by
  unfold rM
  rw [h70, h72]
  exact h
theorem rM_cell {D D' : ab_D} {N C : Int → Int} {a0 f : Int} {K : Nat} (h : rM D N C) (ha : isCl 6 a0) (hK : K = (8 + 6 * (a0 / 10) + a0 % 10).toNat) (hf : 0 ≤ f ∧ f ≤ 9) (h72 : ∀ j, D' 72 j = if j = K then 1 else D 72 j) (h70 : ∀ j, D' 70 j = if j = K then f else D 70 j) : rM D' N (st1 C a0 f) := by
  have ha' := ha
  unfold isCl at ha'
  refine ⟨?_, fun j j0 j1 => ?_, fun a qa => ?_⟩
  · rw [h70, if_neg (by omega)]; exact h.1
  · have z : ¬ j.toNat = K := by omega
    rw [h70, h72, if_neg z, if_neg z]; exact h.2.1 j j0 j1
  · rw [h70, h72]
    unfold isCl at qa
    by_cases q : a = a0
    · subst q
      rw [if_pos hK.symm, if_pos hK.symm]
      unfold st1 els
      rw [if_pos rfl, if_neg (by omega), if_neg (by omega)]
      exact ⟨rfl, rfl⟩
    · have z : ¬ (8 + 6 * (a / 10) + a % 10).toNat = K := by omega
      rw [if_neg z, if_neg z]
      unfold st1
      rw [if_neg q]
      exact h.2.2 a qa
theorem rM_num {D D' : ab_D} {N C : Int → Int} {j0 f : Int} {K : Nat} (h : rM D N C) (hj : 1 ≤ j0 ∧ j0 < 8) (hK : K = j0.toNat) (hf : 0 ≤ f ∧ f ≤ 9) (h72 : ∀ j, D' 72 j = if j = K then 1 else D 72 j) (h70 : ∀ j, D' 70 j = if j = K then f else D 70 j) : rM D' (st1 N j0 f) C := by
  refine ⟨?_, fun j a0 a1 => ?_, fun a qa => ?_⟩
  · rw [h70, if_neg (by omega)]
    unfold st1
    rw [if_neg (by omega)]; exact h.1
  · rw [h70, h72]
    by_cases q : j = j0
    · subst q
      rw [if_pos hK.symm, if_pos hK.symm]
      unfold st1 els
      rw [if_pos rfl, if_neg (by omega), if_neg (by omega)]
      exact ⟨rfl, rfl⟩
    · have z : ¬ j.toNat = K := by omega
      rw [if_neg z, if_neg z]
      unfold st1
      rw [if_neg q]
      exact h.2.1 j a0 a1
  · have qa' := qa
    unfold isCl at qa'
    have z : ¬ (8 + 6 * (a / 10) + a % 10).toNat = K := by omega
    rw [h70, h72, if_neg z, if_neg z]
    exact h.2.2 a qa
/-- the rows that have a cell that isn't told -/
def rws (D : ab_D) (n k : Nat) : Nat := mskN (fun r => decide (opn D (8 + 6 * (r : Int)) n ≠ 0)) k
def frP (D D' : ab_D) : Prop := (∀ a, a ≠ 69 → a ≠ 70 → a ≠ 72 → D' a = D a) ∧ ∀ j, j ≠ 5 → j ≠ 6 → D' 69 j = D 69 j
theorem frP.refl {D : ab_D} : frP D D := ⟨fun _ _ _ _ => rfl, fun _ _ _ => rfl⟩
theorem frP.trans {D D' D'' : ab_D} (h : frP D D') (k : frP D' D'') : frP D D'' := ⟨fun a h1 h2 h3 => (k.1 a h1 h2 h3).trans (h.1 a h1 h2 h3), fun j h1 h2 => (k.2 j h1 h2).trans (h.2 j h1 h2)⟩
theorem frF.p {D D' : ab_D} (h : frF D D') : frP D D' := ⟨fun a h1 _ _ => h.1 a h1, h.2⟩
theorem frP_ups {b i : Nat} {z : Int} {D D' : ab_D} (hb : b = 70 ∨ b = 72) (h : frP D D') : frP D (ups D' b i z) := ⟨fun a h1 h2 h3 => by
  funext j
  rw [ups_ne1 (by omega), h.1 a h1 h2 h3], fun j h1 h2 => by rw [ups_ne1 (by omega), h.2 j h1 h2]⟩
/-- the answer of one part -/
def rpA (T : Int → Int) (len : Int) (N C : Int → Int) (i pt : Int) (k : Nat) (D D' : ab_D) : Prop := frP D D' ∧ ((∃ p, 0 ≤ p ∧ (rdP T len (k + 1) i N C pt).1 = p ∧ D' 69 6 = p) ∨ ∃ i' N' C', D' 69 6 = -9 ∧ D' 69 5 = i' ∧ (i + 2 ≤ i' ∧ i' ≤ len) ∧ rM D' N' C' ∧ (2 ≤ N' 0 ∧ N' 0 ≤ 6) ∧ rdP T len (k + 1) i N C pt = rdP T len k i' N' C' (pt + 1))
section ReadPart
variable {L : Nat} {D : ab_D} {N C : Int → Int} {T : Int → Int} {len i pt : Int} {k : Nat} {Q : Option ab_V → ab_H → Prop}
theorem op_lt {f : Int} {n : Nat} (hn : n ≤ 6) : opn D f n < 64 := Nat.lt_of_lt_of_le (mskN_lt _ _) (Nat.pow_le_pow_right (by decide) hn)
theorem op_bit {f v : Int} {n : Nat} (hn : n ≤ 6) (hv : 0 ≤ v ∧ v ≤ 9) : bitp (opn D f n : Int) v ↔ v < n ∧ D 72 (f + v).toNat = 0 := by
  rw [bitp_iff (Or.inl (op_lt hn)) hv, opn, mskN_bit, Bool.and_eq_true, decide_eq_true_eq, decide_eq_true_eq, show ((v.toNat : Nat) : Int) = v by omega]
  constructor
  · rintro ⟨a, b⟩; exact ⟨by omega, b⟩
  · rintro ⟨a, b⟩; exact ⟨by omega, b⟩
theorem op_ne {f : Int} {n : Nat} : opn D f n ≠ 0 ↔ ∃ v : Int, 0 ≤ v ∧ v < n ∧ D 72 (f + v).toNat = 0 := by
  rw [opn, mskN_ne]
  constructor
  · rintro ⟨v, a, b⟩; exact ⟨v, by omega, by omega, of_decide_eq_true b⟩
  · rintro ⟨v, a, b, c⟩
    exact ⟨v.toNat, by omega, decide_eq_true (by rw [show ((v.toNat : Nat) : Int) = v by omega]; exact c)⟩
theorem cell0 {r c : Int} (hM : rM D N C) (hr : 0 ≤ r ∧ r < 6) (hc : 0 ≤ c ∧ c < 6) : D 72 (8 + 6 * r + c).toNat = 0 ↔ C (10 * r + c) = -1 := by
  have e := (hM.2.2 (10 * r + c) (by unfold isCl; omega)).1
  rw [show 8 + 6 * ((10 * r + c) / 10) + (10 * r + c) % 10 = 8 + 6 * r + c by omega] at e
  rw [e]
  split
  · exact ⟨fun _ => by assumption, fun _ => rfl⟩
  · exact ⟨fun h => absurd h (by decide), fun h => absurd h (by assumption)⟩
theorem num0 {j : Int} (hM : rM D N C) (hj : 1 ≤ j ∧ j < 8) : D 72 j.toNat = 0 ↔ N j = -1 := by
  rw [(hM.2.1 j hj.1 hj.2).1]
  split
  · exact ⟨fun _ => by assumption, fun _ => rfl⟩
  · exact ⟨fun h => absurd h (by decide), fun h => absurd h (by assumption)⟩
theorem row_ne {r : Int} (hM : rM D N C) (hn : 2 ≤ N 0 ∧ N 0 ≤ 6) (hr : 0 ≤ r ∧ r < N 0) : opn D (8 + 6 * r) (N 0).toNat ≠ 0 ↔ hcIn (N 0) C r := by
  rw [op_ne]
  constructor
  · rintro ⟨v, a, b, c⟩; exact ⟨v, a, by omega, (cell0 hM (by omega) (by omega)).mp c⟩
  · rintro ⟨v, a, b, c⟩; exact ⟨v, a, by omega, (cell0 hM (by omega) (by omega)).mpr c⟩
theorem row_bit {r v : Int} (hM : rM D N C) (hn : 2 ≤ N 0 ∧ N 0 ≤ 6) (hr : 0 ≤ r ∧ r < N 0) (hv : 0 ≤ v ∧ v ≤ 9) : bitp (opn D (8 + 6 * r) (N 0).toNat : Int) v ↔ v < N 0 ∧ C (10 * r + v) = -1 := by
  rw [op_bit (by omega) hv]
  constructor
  · rintro ⟨a, b⟩; exact ⟨by omega, (cell0 hM (by omega) (by omega)).mp b⟩
  · rintro ⟨a, b⟩; exact ⟨by omega, (cell0 hM (by omega) (by omega)).mpr b⟩
theorem rws_ne (hM : rM D N C) (hn : 2 ≤ N 0 ∧ N 0 ≤ 6) : rws D (N 0).toNat (N 0).toNat ≠ 0 ↔ hcAny (N 0) C := by
  rw [rws, mskN_ne]
  constructor
  · rintro ⟨v, a, b⟩; exact ⟨v, by omega, by omega, (row_ne hM hn (by omega)).mp (of_decide_eq_true b)⟩
  · rintro ⟨v, a, b, c⟩
    refine ⟨v.toNat, by omega, decide_eq_true ?_⟩
    rw [show ((v.toNat : Nat) : Int) = v by omega]
    exact (row_ne hM hn (by omega)).mpr c
theorem rws_bit {v : Int} (hM : rM D N C) (hn : 2 ≤ N 0 ∧ N 0 ≤ 6) (hv : 0 ≤ v ∧ v ≤ 9) : bitp (rws D (N 0).toNat (N 0).toNat : Int) v ↔ v < N 0 ∧ hcIn (N 0) C v := by
  have hlt : rws D (N 0).toNat (N 0).toNat < 64 := Nat.lt_of_lt_of_le (mskN_lt _ _) (Nat.pow_le_pow_right (n := 2) (by decide) (show (N 0).toNat ≤ 6 by omega))
  rw [bitp_iff (Or.inl hlt) hv, rws, mskN_bit, Bool.and_eq_true, decide_eq_true_eq, decide_eq_true_eq, show ((v.toNat : Nat) : Int) = v by omega]
  constructor
  · rintro ⟨a, b⟩; exact ⟨by omega, (row_ne hM hn (by omega)).mp b⟩
  · rintro ⟨a, b⟩; exact ⟨by omega, (row_ne hM hn (by omega)).mpr b⟩
theorem wd_ne (hM : rM D N C) : opn D 5 3 ≠ 0 ↔ hwd N := by
  rw [op_ne]
  constructor
  · rintro ⟨v, a, b, c⟩
    have : v = 0 ∨ v = 1 ∨ v = 2 := by omega
    rcases this with rfl | rfl | rfl
    · exact Or.inl ((num0 hM (by omega)).mp c)
    · exact Or.inr (Or.inl ((num0 hM (by omega)).mp c))
    · exact Or.inr (Or.inr ((num0 hM (by omega)).mp c))
  · rintro (c | c | c)
    · exact ⟨0, by omega, by omega, (num0 (j := 5) hM (by omega)).mpr c⟩
    · exact ⟨1, by omega, by omega, (num0 (j := 6) hM (by omega)).mpr c⟩
    · exact ⟨2, by omega, by omega, (num0 (j := 7) hM (by omega)).mpr c⟩
theorem wd_bit {v : Int} (hM : rM D N C) (hv : 0 ≤ v ∧ v ≤ 9) : bitp (opn D 5 3 : Int) v ↔ v < 3 ∧ N (5 + v) = -1 := by
  rw [op_bit (by omega) hv]
  constructor
  · rintro ⟨a, b⟩; exact ⟨by omega, (num0 hM (by omega)).mp b⟩
  · rintro ⟨a, b⟩; exact ⟨by omega, (num0 hM (by omega)).mpr b⟩
theorem rp_51 {lo st : List ab_V} {h : ab_H} {u : Nat × Nat} (hw : Sx 125 52 lo (vI (-9) :: st) h u Q) : Sx 125 51 lo st h u Q := sm_seg [(91, .bipush (-9), 2, [])] (by decide) rfl rfl hw
theorem rp_rows {b n : Int} {x5 x6 : ab_V} (hn : 2 ≤ n ∧ n ≤ 6) (hq : ∀ x4, Sx 125 31 [vR 69, vI b, vI n, vI (rws D n.toNat n.toNat), x4, x5, x6] [] (EE L, D) (0, 0) Q) :
    ∀ (t k : Nat), k + t = n.toNat → Sx 125 9 [vR 69, vI b, vI n, vI (rws D n.toNat k), vI k, x5, x6] [] (EE L, D) (0, 0) Q := by
  intro t
  induction t with
  | zero =>
    intro k ht
    refine go_125_9 ?_
    simp only [sg_125_9, cl_I, cl_L, cl_R, e_aload_n, e_bipush, e_cv3, e_goto, e_iadd, e_icmp_ge, e_iconst, e_if_eq, e_iload, e_iload_n, e_imul, e_ishl, e_nil, fl_0, fl_I, fl_L, fl_R, l_ld2, l_ld3, l_ld4, l_ldA0, rk_1, EE_n, EE_s69, lc_lt, lc_le, lc_gt, lc_ge, lc_eq, true_and, and_true, List.length_cons, List.length_nil, ab_ia, Nat.reduceAdd, Nat.reduceLeDiff, Nat.reduceEqDiff, Nat.reduceLT, Int.reduceLT, Int.reduceLE, Int.reduceEq, Int.reduceNeg, true_or, or_true, false_or, or_false, not_false_eq_true, not_true_eq_false, false_implies, true_implies, forall_const, implies_true, Nat.zero_le, Nat.le_refl]
    refine ⟨fun _ => ?_, fun h => absurd h (by omega)⟩
    have : k = n.toNat := by omega
    subst this
    exact hq _
  | succ t ih =>
    intro k ht
    have nx := ih (k + 1) (by omega)
    rw [show ((k + 1 : Nat) : Int) = (k : Int) + 1 by omega] at nx
    refine go_125_9 ?_
    simp only [sg_125_9, cl_I, cl_L, cl_R, e_aload_n, e_bipush, e_cv3, e_goto, e_iadd, e_icmp_ge, e_iconst, e_if_eq, e_iload, e_iload_n, e_imul, e_ishl, e_nil, fl_0, fl_I, fl_L, fl_R, l_ld2, l_ld3, l_ld4, l_ldA0, rk_1, EE_n, EE_s69, lc_lt, lc_le, lc_gt, lc_ge, lc_eq, true_and, and_true, List.length_cons, List.length_nil, ab_ia, Nat.reduceAdd, Nat.reduceLeDiff, Nat.reduceEqDiff, Nat.reduceLT, Int.reduceLT, Int.reduceLE, Int.reduceEq, Int.reduceNeg, true_or, or_true, false_or, or_false, not_false_eq_true, not_true_eq_false, false_implies, true_implies, forall_const, implies_true, Nat.zero_le, Nat.le_refl]
    refine ⟨fun h => absurd h (by omega), fun _ => ⟨⟨by omega, by omega⟩, ⟨by omega, by omega⟩, ?_⟩⟩
    refine CI.use (m_open (by omega) (by omega)) ?_
    refine ⟨fun h1 => ?_, fun h1 => ?_⟩
    · have h1' : opn D (8 + 6 * (k : Int)) n.toNat = 0 := by omega
      refine go_125_26 ?_
      simp only [sg_125_26, cl_I, cl_L, cl_R, e_goto, e_iconst, e_iinc, e_ior, e_istore_n, e_nil, l_inc4, l_st3, lc_lt, lc_le, lc_gt, lc_ge, lc_eq, true_and, and_true, List.length_cons, List.length_nil, ab_ia, Nat.reduceAdd, Nat.reduceLeDiff, Nat.reduceEqDiff, Nat.reduceLT, Int.reduceLT, Int.reduceLE, Int.reduceEq, Int.reduceNeg, true_or, or_true, false_or, or_false, not_false_eq_true, not_true_eq_false, false_implies, true_implies, forall_const, implies_true, Nat.zero_le, Nat.le_refl]
      have e := mskN_or (b := fun r => decide (opn D (8 + 6 * (r : Int)) n.toNat ≠ 0)) (k := k) (by omega) (Or.inr ⟨decide_eq_false (fun q => q h1'), rfl⟩)
      unfold rws
      rw [e]
      exact ⟨⟨by omega, by omega⟩, nx⟩
    · have h1' : opn D (8 + 6 * (k : Int)) n.toNat ≠ 0 := by omega
      refine go_125_27 ?_
      simp only [sg_125_27, cl_I, cl_L, cl_R, e_goto, e_iinc, e_ior, e_istore_n, e_nil, l_inc4, l_st3, lc_lt, lc_le, lc_gt, lc_ge, lc_eq, true_and, and_true, List.length_cons, List.length_nil, ab_ia, Nat.reduceAdd, Nat.reduceLeDiff, Nat.reduceEqDiff, Nat.reduceLT, Int.reduceLT, Int.reduceLE, Int.reduceEq, Int.reduceNeg, true_or, or_true, false_or, or_false, not_false_eq_true, not_true_eq_false, false_implies, true_implies, forall_const, implies_true, Nat.zero_le, Nat.le_refl]
      have e := mskN_or (b := fun r => decide (opn D (8 + 6 * (r : Int)) n.toNat ≠ 0)) (k := k) (by omega) (Or.inl ⟨decide_eq_true h1', rfl⟩)
      unfold rws
      rw [e]
      exact ⟨⟨by omega, by omega⟩, nx⟩
theorem rp_163 {x1 x2 x3 x4 x5 x6 : ab_V} (h5 : D 69 5 = i) (hi : 0 ≤ i) (hb : (rdP T len (k + 1) i N C pt).1 = i) (hq : ∀ D', rpA T len N C i pt k D D' → Q none (EE L, D')) : Sx 125 163 [vR 69, x1, x2, x3, x4, x5, x6] [] (EE L, D) (0, 0) Q := by
  refine go_125_163 ?_
  simp only [sg_125_163, cl_I, cl_L, cl_R, e_aload_n, e_get0, e_nil, e_put0, e_vret, l_ldA0, wRef_some, EE_n, EE_s69, h5, lc_lt, lc_le, lc_gt, lc_ge, lc_eq, true_and, and_true, List.length_cons, List.length_nil, ab_ia, Nat.reduceAdd, Nat.reduceLeDiff, Nat.reduceEqDiff, Nat.reduceLT, Int.reduceLT, Int.reduceLE, Int.reduceEq, Int.reduceNeg, true_or, or_true, false_or, or_false, not_false_eq_true, not_true_eq_false, false_implies, true_implies, forall_const, implies_true, Nat.zero_le, Nat.le_refl]
  exact hq _ ⟨(frF_ups (by omega) frF.refl).p, Or.inl ⟨i, hi, hb, ups_self⟩⟩
theorem rp_O {x3 x5 x6 : ab_V} (h6 : D 69 6 = -9) (h5 : D 69 5 = i) (h4 : D 69 4 = len) (hT : txt D 73 T len) (hi : 0 ≤ i ∧ i < len ∧ len ≤ 64) (hM : rM D N C) (hn : 2 ≤ N 0 ∧ N 0 ≤ 6)
    (hD : T i = 68 → ¬ hcAny (N 0) C) (hR : T i = 82 → ¬ hwd N) (hq : ∀ D', rpA T len N C i pt k D D' → Q none (EE L, D')) : Sx 125 136 [vR 69, vI (T i), vI (N 0), x3, vI (nOf (T i)), x5, x6] [] (EE L, D) (0, 0) Q := by
  have hb := nOf_bd (b := T i)
  have b0 : T i = 68 ∨ T i = 82 ∨ ¬ (0 ≤ nOf (T i) ∧ N (nOf (T i)) = -1) → (rdP T len (k + 1) i N C pt).1 = i := by
    intro h
    by_cases h68 : T i = 68
    · rw [rd_D0 hi.2.1 h68 (hD h68)]
    · by_cases h82 : T i = 82
      · rw [rd_R0 hi.2.1 h82 (hR h82)]
      · have h' : ¬ (0 ≤ nOf (T i) ∧ N (nOf (T i)) = -1) := by
          rcases h with h | h | h
          · exact absurd h h68
          · exact absurd h h82
          · exact h
        rw [rd_O0 hi.2.1 h68 h82 h']
  refine go_125_136 ?_
  simp only [sg_125_136, cl_I, cl_L, cl_R, e_aload_n, e_baload, e_bastore, e_bipush, e_cv2, e_dupI, e_dupR, e_get0, e_get1, e_goto, e_iadd, e_iastore, e_icmp_eq, e_iconst, e_if_ne, e_iload, e_nil, e_put0, e_sipush, fl_0, fl_I, fl_L, fl_R, l_ld4, l_ldA0, rk_1, wRef_some, EE_n, EE_r69_0, EE_r69_2, EE_s69, EE_s70, EE_s72, h5, lc_lt, lc_le, lc_gt, lc_ge, lc_eq, true_and, and_true, List.length_cons, List.length_nil, ab_ia, Nat.reduceAdd, Nat.reduceLeDiff, Nat.reduceEqDiff, Nat.reduceLT, Int.reduceLT, Int.reduceLE, Int.reduceEq, Int.reduceNeg, true_or, or_true, false_or, or_false, not_false_eq_true, not_true_eq_false, false_implies, true_implies, forall_const, implies_true, Nat.zero_le, Nat.le_refl]
  refine ⟨fun h1 => ?_, fun h1 => ⟨by omega, fun h2 => ?_, fun h2 => ?_⟩⟩
  · exact rp_163 h5 hi.1 (b0 (Or.inr (Or.inr (fun q => by omega)))) hq
  · exact rp_163 h5 hi.1 (b0 (Or.inr (Or.inr (fun q => h2 ((num0 hM (by omega)).mpr q.2))))) hq
  · have a : 0 ≤ nOf (T i) ∧ N (nOf (T i)) = -1 := ⟨by omega, (num0 hM (by omega)).mp (Decidable.not_not.mp h2)⟩
    have h68 : T i ≠ 68 := fun q => by rw [q] at a; exact absurd a.1 (by decide)
    have h82 : T i ≠ 82 := fun q => by rw [q] at a; exact absurd a.1 (by decide)
    refine ⟨⟨by omega, by omega⟩, by omega, ?_⟩
    have f1 : frF D (ups D 69 5 (i + 1)) := frF_ups (by omega) frF.refl
    refine (m_fig (T := T) (i := i + 1) (len := len) (by rw [ups_ne1 (by decide), ups_ne2 (by decide), h6]) (by rw [ups_ne1 (by decide), ups_self]) (by rw [ups_ne1 (by decide), ups_ne2 (by decide), h4]) (fun j j0 j1 => by rw [ups_ne1 (by decide), ups_ne1 (by decide)]; exact hT j j0 j1) (by omega)).mono ?_
    rintro x D2 (⟨⟨c1, c2⟩, rfl, f2, e6, e5⟩ | ⟨c, rfl, f2, e6⟩)
    · refine ⟨by omega, ?_⟩
      refine go_125_167 ?_
      simp only [sg_125_167, cl_I, cl_L, cl_R, e_nil, e_vret, lc_lt, lc_le, lc_gt, lc_ge, lc_eq, true_and, and_true, List.length_cons, List.length_nil, ab_ia, Nat.reduceAdd, Nat.reduceLeDiff, Nat.reduceEqDiff, Nat.reduceLT, Int.reduceLT, Int.reduceLE, Int.reduceEq, Int.reduceNeg, true_or, or_true, false_or, or_false, not_false_eq_true, not_true_eq_false, false_implies, true_implies, forall_const, implies_true, Nat.zero_le, Nat.le_refl]
      have q1 := c1.1
      refine hq _ ⟨frP_ups (by omega) ((frP_ups (by omega) f1.p).trans f2.p), Or.inr ⟨i + 1 + 1, _, C, ?_, ?_, by omega, rM_num (j0 := nOf (T i)) hM (by omega) rfl c1.2 (fun j => ?_) (fun j => ?_), ?_, ?_⟩⟩
      · rw [ups_ne1 (by decide), e6]
      · rw [ups_ne1 (by decide), e5]
      · rw [ups_ne1 (by decide), f2.1 72 (by decide)]
        by_cases z : j = (nOf (T i)).toNat
        · subst z; rw [ups_self, if_pos rfl]
        · rw [ups_ne2 z, if_neg z, ups_ne1 (by decide)]
      · by_cases z : j = (nOf (T i)).toNat
        · subst z; rw [ups_self, if_pos rfl]
        · rw [ups_ne2 z, if_neg z, f2.1 70 (by decide), ups_ne1 (by decide), ups_ne1 (by decide)]
      · unfold st1
        rw [if_neg (by omega)]; exact hn
      · rw [rd_O hi.2.1 h68 h82 a c1, show i + 1 + 1 = i + 2 by omega]
    · refine ⟨by omega, ?_⟩
      refine go_125_167 ?_
      simp only [sg_125_167, cl_I, cl_L, cl_R, e_nil, e_vret, lc_lt, lc_le, lc_gt, lc_ge, lc_eq, true_and, and_true, List.length_cons, List.length_nil, ab_ia, Nat.reduceAdd, Nat.reduceLeDiff, Nat.reduceEqDiff, Nat.reduceLT, Int.reduceLT, Int.reduceLE, Int.reduceEq, Int.reduceNeg, true_or, or_true, false_or, or_false, not_false_eq_true, not_true_eq_false, false_implies, true_implies, forall_const, implies_true, Nat.zero_le, Nat.le_refl]
      refine hq _ ⟨frP_ups (by omega) ((frP_ups (by omega) f1.p).trans f2.p), Or.inl ⟨i + 1, by omega, ?_, ?_⟩⟩
      · rw [rd_O1 hi.2.1 h68 h82 a (fun q => c ⟨q, bit_1023 q.2⟩)]
      · rw [ups_ne1 (by decide), e6]
theorem rp_R {x3 x5 x6 : ab_V} (h6 : D 69 6 = -9) (h5 : D 69 5 = i) (h4 : D 69 4 = len) (hT : txt D 73 T len) (hi : 0 ≤ i ∧ i < len ∧ len ≤ 64) (hM : rM D N C) (hn : 2 ≤ N 0 ∧ N 0 ≤ 6)
    (hD : T i = 68 → ¬ hcAny (N 0) C) (hq : ∀ D', rpA T len N C i pt k D D' → Q none (EE L, D')) : Sx 125 98 [vR 69, vI (T i), vI (N 0), x3, vI (nOf (T i)), x5, x6] [] (EE L, D) (0, 0) Q := by
  refine go_125_98 ?_
  simp only [sg_125_98, cl_I, cl_L, cl_R, e_aload_n, e_bastore, e_bipush, e_cv2, e_cv3, e_dupI, e_dupR, e_get0, e_get1, e_goto, e_iadd, e_iastore, e_icmp_ne, e_iconst, e_if_eq, e_iload, e_iload_n, e_istore, e_nil, e_put0, e_sipush, fl_0, fl_I, fl_L, fl_R, l_ld1, l_ld5, l_ldA0, l_st5, rk_1, wRef_some, EE_n, EE_r69_0, EE_r69_2, EE_s69, EE_s70, EE_s72, h5, lc_lt, lc_le, lc_gt, lc_ge, lc_eq, true_and, and_true, List.length_cons, List.length_nil, ab_ia, Nat.reduceAdd, Nat.reduceLeDiff, Nat.reduceEqDiff, Nat.reduceLT, Int.reduceLT, Int.reduceLE, Int.reduceEq, Int.reduceNeg, true_or, or_true, false_or, or_false, not_false_eq_true, not_true_eq_false, false_implies, true_implies, forall_const, implies_true, Nat.zero_le, Nat.le_refl]
  refine ⟨fun h1 => rp_O h6 h5 h4 hT hi hM hn hD (fun q => absurd q h1) hq, fun h1 => ?_⟩
  have h82 : T i = 82 := Decidable.not_not.mp h1
  refine CI.use (m_open (by omega) (by omega)) ?_
  refine ⟨fun h2 => rp_O h6 h5 h4 hT hi hM hn hD (fun _ q => (wd_ne hM).mpr q (by
    have : ((3 : Int)).toNat = 3 := rfl
    rw [this] at h2
    omega)) hq, fun h2 => ?_⟩
  have a : hwd N := (wd_ne hM).mp (fun q => h2 (by
    have : ((3 : Int)).toNat = 3 := rfl
    rw [this, q]
    rfl))
  rw [h5]
  refine ⟨⟨by omega, by omega⟩, ?_⟩
  have f1 : frF D (ups D 69 5 (i + 1)) := frF_ups (by omega) frF.refl
  have g6 : ups D 69 5 (i + 1) 69 6 = -9 := by rw [ups_ne2 (by decide), h6]
  have g5 : ups D 69 5 (i + 1) 69 5 = i + 1 := ups_self
  have g4 : ups D 69 5 (i + 1) 69 4 = len := by rw [ups_ne2 (by decide), h4]
  generalize ups D 69 5 (i + 1) = D1 at f1 g6 g5 g4
  have M1 : rM D1 N C := hM.congr (f1.1 70 (by decide)) (f1.1 72 (by decide))
  have T1 : txt D1 73 T len := fun j j0 j1 => by rw [f1.1 73 (by decide)]; exact hT j j0 j1
  refine CI.use (m_open (by omega) (by omega)) ?_
  refine (m_fig (T := T) (i := i + 1) (len := len) g6 g5 g4 T1 (by omega)).mono ?_
  rintro x D2 (⟨⟨c1, c2⟩, rfl, f2, e6, e5⟩ | ⟨c, rfl, f2, e6⟩)
  · have b1 : fig T len (i + 1) ∧ T (i + 1) - 48 < 3 ∧ N (5 + (T (i + 1) - 48)) = -1 := ⟨c1, (wd_bit M1 c1.2).mp c2⟩
    have q0 := c1.1
    have q1 := c1.2
    have q2 := b1.2.1
    have f2 := f1.trans f2
    refine ⟨⟨by omega, by omega⟩, by omega, ⟨by omega, by omega⟩, ?_⟩
    refine (m_fig (T := T) (i := i + 2) (len := len) (by rw [ups_ne1 (by decide), e6]) (by rw [ups_ne1 (by decide), e5]; omega) (by rw [ups_ne1 (by decide), f2.2 4 (by decide) (by decide), h4]) (fun j j0 j1 => by rw [ups_ne1 (by decide), f2.1 73 (by decide)]; exact hT j j0 j1) (by omega)).mono ?_
    rintro y D3 (⟨⟨d1, d2⟩, rfl, f3, e6', e5'⟩ | ⟨d, rfl, f3, e6'⟩)
    · have d3 := (bit_1022 d1.2).mp d2
      have d4 := d1.1
      have d5 := d1.2
      refine ⟨by omega, ?_⟩
      refine go_125_167 ?_
      simp only [sg_125_167, cl_I, cl_L, cl_R, e_nil, e_vret, lc_lt, lc_le, lc_gt, lc_ge, lc_eq, true_and, and_true, List.length_cons, List.length_nil, ab_ia, Nat.reduceAdd, Nat.reduceLeDiff, Nat.reduceEqDiff, Nat.reduceLT, Int.reduceLT, Int.reduceLE, Int.reduceEq, Int.reduceNeg, true_or, or_true, false_or, or_false, not_false_eq_true, not_true_eq_false, false_implies, true_implies, forall_const, implies_true, Nat.zero_le, Nat.le_refl]
      refine hq _ ⟨frP_ups (by omega) ((frP_ups (by omega) f2.p).trans f3.p), Or.inr ⟨i + 2 + 1, _, C, ?_, ?_, by omega, rM_num (j0 := 5 + (T (i + 1) - 48)) hM (by omega) rfl d1.2 (fun j => ?_) (fun j => ?_), ?_, ?_⟩⟩
      · rw [ups_ne1 (by decide), e6']
      · rw [ups_ne1 (by decide), e5']
      · rw [ups_ne1 (by decide), f3.1 72 (by decide)]
        by_cases z : j = (5 + (T (i + 1) - 48)).toNat
        · subst z; rw [ups_self, if_pos rfl]
        · rw [ups_ne2 z, if_neg z, f2.1 72 (by decide)]
      · by_cases z : j = (5 + (T (i + 1) - 48)).toNat
        · subst z; rw [ups_self, if_pos rfl]
        · rw [ups_ne2 z, if_neg z, f3.1 70 (by decide), ups_ne1 (by decide), f2.1 70 (by decide)]
      · unfold st1
        rw [if_neg (by omega)]; exact hn
      · rw [rd_R hi.2.1 h82 a b1 ⟨d1, d3⟩, show i + 2 + 1 = i + 3 by omega]
    · refine ⟨by omega, ?_⟩
      refine go_125_167 ?_
      simp only [sg_125_167, cl_I, cl_L, cl_R, e_nil, e_vret, lc_lt, lc_le, lc_gt, lc_ge, lc_eq, true_and, and_true, List.length_cons, List.length_nil, ab_ia, Nat.reduceAdd, Nat.reduceLeDiff, Nat.reduceEqDiff, Nat.reduceLT, Int.reduceLT, Int.reduceLE, Int.reduceEq, Int.reduceNeg, true_or, or_true, false_or, or_false, not_false_eq_true, not_true_eq_false, false_implies, true_implies, forall_const, implies_true, Nat.zero_le, Nat.le_refl]
      refine hq _ ⟨frP_ups (by omega) ((frP_ups (by omega) f2.p).trans f3.p), Or.inl ⟨i + 2, by omega, ?_, ?_⟩⟩
      · rw [rd_R2 hi.2.1 h82 a b1 (fun q => d ⟨q.1, (bit_1022 q.1.2).mpr q.2⟩)]
      · rw [ups_ne1 (by decide), e6']
  · have f2 := f1.trans f2
    have bad : (rdP T len (k + 1) i N C pt).1 = i + 1 := by rw [rd_R1 hi.2.1 h82 a (fun q => c ⟨q.1, (wd_bit M1 q.1.2).mpr q.2⟩)]
    refine ⟨⟨by omega, by omega⟩, by omega, ⟨by omega, by omega⟩, ?_⟩
    refine (m_fig' (by rw [ups_ne1 (by decide), e6]; omega)).mono ?_
    rintro y D3 ⟨rfl, f3, e6'⟩
    refine ⟨by omega, ?_⟩
    refine go_125_167 ?_
    simp only [sg_125_167, cl_I, cl_L, cl_R, e_nil, e_vret, lc_lt, lc_le, lc_gt, lc_ge, lc_eq, true_and, and_true, List.length_cons, List.length_nil, ab_ia, Nat.reduceAdd, Nat.reduceLeDiff, Nat.reduceEqDiff, Nat.reduceLT, Int.reduceLT, Int.reduceLE, Int.reduceEq, Int.reduceNeg, true_or, or_true, false_or, or_false, not_false_eq_true, not_true_eq_false, false_implies, true_implies, forall_const, implies_true, Nat.zero_le, Nat.le_refl]
    refine hq _ ⟨frP_ups (by omega) ((frP_ups (by omega) f2.p).trans f3.p), Or.inl ⟨i + 1, by omega, bad, ?_⟩⟩
    rw [ups_ne1 (by decide), e6', ups_ne1 (by decide), e6]
theorem rp_52 {x4 x5 x6 : ab_V} (h6 : D 69 6 = -9) (h5 : D 69 5 = i) (h4 : D 69 4 = len) (hT : txt D 73 T len) (hi : 0 ≤ i ∧ i < len ∧ len ≤ 64) (hM : rM D N C) (hn : 2 ≤ N 0 ∧ N 0 ≤ 6)
    (hq : ∀ D', rpA T len N C i pt k D D' → Q none (EE L, D')) : Sx 125 52 [vR 69, vI (T i), vI (N 0), vI (rws D (N 0).toNat (N 0).toNat), x4, x5, x6] [vI (nOf (T i))] (EE L, D) (0, 0) Q := by
  refine go_125_52 ?_
  simp only [sg_125_52, cl_I, cl_L, cl_R, e_aload_n, e_bastore, e_bipush, e_cv2, e_cv3, e_dupI, e_dupR, e_get0, e_get1, e_goto, e_iadd, e_iastore, e_icmp_ne, e_iconst, e_if_eq, e_iload, e_iload_n, e_imul, e_istore, e_nil, e_put0, e_sipush, fl_0, fl_I, fl_L, fl_R, l_ld1, l_ld2, l_ld3, l_ld5, l_ld6, l_ldA0, l_st4, l_st5, l_st6, rk_1, wRef_some, EE_n, EE_r69_0, EE_r69_2, EE_s69, EE_s70, EE_s72, h5, lc_lt, lc_le, lc_gt, lc_ge, lc_eq, true_and, and_true, List.length_cons, List.length_nil, ab_ia, Nat.reduceAdd, Nat.reduceLeDiff, Nat.reduceEqDiff, Nat.reduceLT, Int.reduceLT, Int.reduceLE, Int.reduceEq, Int.reduceNeg, true_or, or_true, false_or, or_false, not_false_eq_true, not_true_eq_false, false_implies, true_implies, forall_const, implies_true, Nat.zero_le, Nat.le_refl]
  refine ⟨fun h1 => rp_R h6 h5 h4 hT hi hM hn (fun q => absurd q h1) hq, fun h1 => ⟨fun h2 => rp_R h6 h5 h4 hT hi hM hn (fun _ q => (rws_ne hM hn).mpr q (by omega)) hq, fun h2 => ?_⟩⟩
  have h68 : T i = 68 := Decidable.not_not.mp h1
  have a : hcAny (N 0) C := (rws_ne hM hn).mp (by omega)
  refine ⟨⟨by omega, by omega⟩, ?_⟩
  have f1 : frF D (ups D 69 5 (i + 1)) := frF_ups (by omega) frF.refl
  have g6 : ups D 69 5 (i + 1) 69 6 = -9 := by rw [ups_ne2 (by decide), h6]
  have g5 : ups D 69 5 (i + 1) 69 5 = i + 1 := ups_self
  have g4 : ups D 69 5 (i + 1) 69 4 = len := by rw [ups_ne2 (by decide), h4]
  generalize ups D 69 5 (i + 1) = D1 at f1 g6 g5 g4
  have T1 : txt D1 73 T len := fun j j0 j1 => by rw [f1.1 73 (by decide)]; exact hT j j0 j1
  refine (m_fig (T := T) (i := i + 1) (len := len) g6 g5 g4 T1 (by omega)).mono ?_
  rintro x D2 (⟨⟨c1, c2⟩, rfl, f2, e6, e5⟩ | ⟨c, rfl, f2, e6⟩)
  · have b1 : fig T len (i + 1) ∧ T (i + 1) - 48 < N 0 ∧ hcIn (N 0) C (T (i + 1) - 48) := ⟨c1, (rws_bit hM hn c1.2).mp c2⟩
    have q0 := c1.1
    have q1 := c1.2
    have q2 := b1.2.1
    have f2 := f1.trans f2
    have M2 : rM D2 N C := hM.congr (f2.1 70 (by decide)) (f2.1 72 (by decide))
    refine ⟨⟨by omega, by omega⟩, ⟨by omega, by omega⟩, ⟨by omega, by omega⟩, ⟨by omega, by omega⟩, ?_⟩
    refine CI.use (m_open (by omega) (by omega)) ?_
    refine (m_fig (T := T) (i := i + 2) (len := len) e6 (by rw [e5]; omega) (by rw [f2.2 4 (by decide) (by decide), h4]) (fun j j0 j1 => by rw [f2.1 73 (by decide)]; exact hT j j0 j1) (by omega)).mono ?_
    rintro y D3 (⟨⟨d1, d2⟩, rfl, f3, e6', e5'⟩ | ⟨d, rfl, f3, e6'⟩)
    · have b2 : fig T len (i + 2) ∧ T (i + 2) - 48 < N 0 ∧ C (10 * (T (i + 1) - 48) + (T (i + 2) - 48)) = -1 := ⟨d1, (row_bit M2 hn (by omega) d1.2).mp d2⟩
      have q3 := d1.1
      have q4 := d1.2
      have q5 := b2.2.1
      have f3 := f2.trans f3
      refine ⟨⟨by omega, by omega⟩, by omega, ?_⟩
      refine (m_fig (T := T) (i := i + 3) (len := len) (by rw [ups_ne1 (by decide), e6']) (by rw [ups_ne1 (by decide), e5']; omega) (by rw [ups_ne1 (by decide), f3.2 4 (by decide) (by decide), h4]) (fun j j0 j1 => by rw [ups_ne1 (by decide), f3.1 73 (by decide)]; exact hT j j0 j1) (by omega)).mono ?_
      rintro w D4 (⟨⟨d3, d4⟩, rfl, f4, e6'', e5''⟩ | ⟨dd, rfl, f4, e6''⟩)
      · have q6 := d3.1
        refine ⟨by omega, ?_⟩
        refine go_125_167 ?_
        simp only [sg_125_167, cl_I, cl_L, cl_R, e_nil, e_vret, lc_lt, lc_le, lc_gt, lc_ge, lc_eq, true_and, and_true, List.length_cons, List.length_nil, ab_ia, Nat.reduceAdd, Nat.reduceLeDiff, Nat.reduceEqDiff, Nat.reduceLT, Int.reduceLT, Int.reduceLE, Int.reduceEq, Int.reduceNeg, true_or, or_true, false_or, or_false, not_false_eq_true, not_true_eq_false, false_implies, true_implies, forall_const, implies_true, Nat.zero_le, Nat.le_refl]
        refine hq _ ⟨frP_ups (by omega) ((frP_ups (by omega) f3.p).trans f4.p), Or.inr ⟨i + 3 + 1, N, _, ?_, ?_, by omega, rM_cell (a0 := 10 * (T (i + 1) - 48) + (T (i + 2) - 48)) hM (by unfold isCl; omega) (K := (8 + 6 * (T (i + 1) - 48) + (T (i + 2) - 48)).toNat) (by omega) d3.2 (fun j => ?_) (fun j => ?_), hn, ?_⟩⟩
        · rw [ups_ne1 (by decide), e6'']
        · rw [ups_ne1 (by decide), e5'']
        · rw [ups_ne1 (by decide), f4.1 72 (by decide)]
          by_cases z : j = (8 + 6 * (T (i + 1) - 48) + (T (i + 2) - 48)).toNat
          · subst z; rw [ups_self, if_pos rfl]
          · rw [ups_ne2 z, if_neg z, f3.1 72 (by decide)]
        · by_cases z : j = (8 + 6 * (T (i + 1) - 48) + (T (i + 2) - 48)).toNat
          · subst z; rw [ups_self, if_pos rfl]
          · rw [ups_ne2 z, if_neg z, f4.1 70 (by decide), ups_ne1 (by decide), f3.1 70 (by decide)]
        · rw [rd_D hi.2.1 h68 a b1 b2 d3, show i + 3 + 1 = i + 4 by omega]
      · refine ⟨by omega, ?_⟩
        refine go_125_167 ?_
        simp only [sg_125_167, cl_I, cl_L, cl_R, e_nil, e_vret, lc_lt, lc_le, lc_gt, lc_ge, lc_eq, true_and, and_true, List.length_cons, List.length_nil, ab_ia, Nat.reduceAdd, Nat.reduceLeDiff, Nat.reduceEqDiff, Nat.reduceLT, Int.reduceLT, Int.reduceLE, Int.reduceEq, Int.reduceNeg, true_or, or_true, false_or, or_false, not_false_eq_true, not_true_eq_false, false_implies, true_implies, forall_const, implies_true, Nat.zero_le, Nat.le_refl]
        refine hq _ ⟨frP_ups (by omega) ((frP_ups (by omega) f3.p).trans f4.p), Or.inl ⟨i + 3, by omega, ?_, ?_⟩⟩
        · rw [rd_D3 hi.2.1 h68 a b1 b2 (fun q => dd ⟨q, bit_1023 q.2⟩)]
        · rw [ups_ne1 (by decide), e6'']
    · have f3 := f2.trans f3
      have bad : (rdP T len (k + 1) i N C pt).1 = i + 2 := by rw [rd_D2 hi.2.1 h68 a b1 (fun q => d ⟨q.1, (row_bit M2 hn (by omega) q.1.2).mpr q.2⟩)]
      refine ⟨⟨by omega, by omega⟩, by omega, ?_⟩
      refine (m_fig' (by rw [ups_ne1 (by decide), e6']; omega)).mono ?_
      rintro w D4 ⟨rfl, f4, e6''⟩
      refine ⟨by omega, ?_⟩
      refine go_125_167 ?_
      simp only [sg_125_167, cl_I, cl_L, cl_R, e_nil, e_vret, lc_lt, lc_le, lc_gt, lc_ge, lc_eq, true_and, and_true, List.length_cons, List.length_nil, ab_ia, Nat.reduceAdd, Nat.reduceLeDiff, Nat.reduceEqDiff, Nat.reduceLT, Int.reduceLT, Int.reduceLE, Int.reduceEq, Int.reduceNeg, true_or, or_true, false_or, or_false, not_false_eq_true, not_true_eq_false, false_implies, true_implies, forall_const, implies_true, Nat.zero_le, Nat.le_refl]
      refine hq _ ⟨frP_ups (by omega) ((frP_ups (by omega) f3.p).trans f4.p), Or.inl ⟨i + 2, by omega, bad, ?_⟩⟩
      rw [ups_ne1 (by decide), e6'', ups_ne1 (by decide), e6']
  · have f2 := f1.trans f2
    have bad : (rdP T len (k + 1) i N C pt).1 = i + 1 := by rw [rd_D1 hi.2.1 h68 a (fun q => c ⟨q.1, (rws_bit hM hn q.1.2).mpr q.2⟩)]
    refine ⟨⟨by omega, by omega⟩, ⟨by omega, by omega⟩, ⟨by omega, by omega⟩, ⟨by omega, by omega⟩, ?_⟩
    refine CI.use (m_open (by omega) (by omega)) ?_
    refine (m_fig' (by rw [e6]; omega)).mono ?_
    rintro y D3 ⟨rfl, f3, e6'⟩
    have f3 := f2.trans f3
    refine ⟨⟨by omega, by omega⟩, by omega, ?_⟩
    refine (m_fig' (by rw [ups_ne1 (by decide), e6', e6]; omega)).mono ?_
    rintro w D4 ⟨rfl, f4, e6''⟩
    refine ⟨by omega, ?_⟩
    refine go_125_167 ?_
    simp only [sg_125_167, cl_I, cl_L, cl_R, e_nil, e_vret, lc_lt, lc_le, lc_gt, lc_ge, lc_eq, true_and, and_true, List.length_cons, List.length_nil, ab_ia, Nat.reduceAdd, Nat.reduceLeDiff, Nat.reduceEqDiff, Nat.reduceLT, Int.reduceLT, Int.reduceLE, Int.reduceEq, Int.reduceNeg, true_or, or_true, false_or, or_false, not_false_eq_true, not_true_eq_false, false_implies, true_implies, forall_const, implies_true, Nat.zero_le, Nat.le_refl]
    refine hq _ ⟨frP_ups (by omega) ((frP_ups (by omega) f3.p).trans f4.p), Or.inl ⟨i + 1, by omega, bad, ?_⟩⟩
    rw [ups_ne1 (by decide), e6'', ups_ne1 (by decide), e6', e6]
theorem m_readPart (h6 : D 69 6 = -9) (h5 : D 69 5 = i) (h4 : D 69 4 = len) (hT : txt D 73 T len) (hi : 0 ≤ i ∧ i < len ∧ len ≤ 64) (hM : rM D N C) (hn : 2 ≤ N 0 ∧ N 0 ≤ 6) : CV 125 [vR 69, vI (T i)] (EE L, D) (fun D' => rpA T len N C i pt k D D') := by
  have e0 := hM.1
  refine Sx.un (y := 125) (n := 0) (lo := [vR 69, vI (T i), vU, vU, vU, vU, vU]) (st := []) (u := (0, 0)) ?_
  refine go_125_0 ?_
  simp only [sg_125_0, cl_I, cl_L, cl_R, e_aload_n, e_get1, e_iaload, e_iconst, e_istore, e_istore_n, e_nil, l_ldA0, l_st2, l_st3, l_st4, wRef_some, EE_n, EE_r69_0, EE_s69, EE_s70, Int.reduceToNat, e0, lc_lt, lc_le, lc_gt, lc_ge, lc_eq, true_and, and_true, List.length_cons, List.length_nil, ab_ia, Nat.reduceAdd, Nat.reduceLeDiff, Nat.reduceEqDiff, Nat.reduceLT, Int.reduceLT, Int.reduceLE, Int.reduceEq, Int.reduceNeg, true_or, or_true, false_or, or_false, not_false_eq_true, not_true_eq_false, false_implies, true_implies, forall_const, implies_true, Nat.zero_le, Nat.le_refl]
  refine ⟨by omega, ?_⟩
  refine rp_rows hn (fun x4 => ?_) (N 0).toNat 0 (by omega)
  have fin : ∀ z x4, z = nOf (T i) → Sx 125 52 [vR 69, vI (T i), vI (N 0), vI (rws D (N 0).toNat (N 0).toNat), x4, vU, vU] [vI z] (EE L, D) (0, 0) (fun r h' => ∃ D', r = none ∧ h' = (EE L, D') ∧ rpA T len N C i pt k D D') := by
    intro z x4 hz
    subst hz
    exact rp_52 h6 h5 h4 hT hi hM hn (fun D' q => retV q)
  refine go_125_31 ?_
  simp only [sg_125_31, cl_I, cl_L, cl_R, e_bipush, e_goto, e_icmp_ne, e_iconst, e_iload_n, e_nil, l_ld1, lc_lt, lc_le, lc_gt, lc_ge, lc_eq, true_and, and_true, List.length_cons, List.length_nil, ab_ia, Nat.reduceAdd, Nat.reduceLeDiff, Nat.reduceEqDiff, Nat.reduceLT, Int.reduceLT, Int.reduceLE, Int.reduceEq, Int.reduceNeg, true_or, or_true, false_or, or_false, not_false_eq_true, not_true_eq_false, false_implies, true_implies, forall_const, implies_true, Nat.zero_le, Nat.le_refl]
  refine ⟨fun h1 => ?_, fun h1 => ?_⟩
  · refine go_125_36 ?_
    simp only [sg_125_36, cl_I, cl_L, cl_R, e_bipush, e_goto, e_icmp_ne, e_iconst, e_iload_n, e_nil, l_ld1, lc_lt, lc_le, lc_gt, lc_ge, lc_eq, true_and, and_true, List.length_cons, List.length_nil, ab_ia, Nat.reduceAdd, Nat.reduceLeDiff, Nat.reduceEqDiff, Nat.reduceLT, Int.reduceLT, Int.reduceLE, Int.reduceEq, Int.reduceNeg, true_or, or_true, false_or, or_false, not_false_eq_true, not_true_eq_false, false_implies, true_implies, forall_const, implies_true, Nat.zero_le, Nat.le_refl]
    refine ⟨fun h2 => ?_, fun h2 => ?_⟩
    · refine go_125_41 ?_
      simp only [sg_125_41, cl_I, cl_L, cl_R, e_bipush, e_goto, e_icmp_ne, e_iconst, e_iload_n, e_nil, l_ld1, lc_lt, lc_le, lc_gt, lc_ge, lc_eq, true_and, and_true, List.length_cons, List.length_nil, ab_ia, Nat.reduceAdd, Nat.reduceLeDiff, Nat.reduceEqDiff, Nat.reduceLT, Int.reduceLT, Int.reduceLE, Int.reduceEq, Int.reduceNeg, true_or, or_true, false_or, or_false, not_false_eq_true, not_true_eq_false, false_implies, true_implies, forall_const, implies_true, Nat.zero_le, Nat.le_refl]
      refine ⟨fun h3 => ?_, fun h3 => ?_⟩
      · refine go_125_46 ?_
        simp only [sg_125_46, cl_I, cl_L, cl_R, e_bipush, e_goto, e_icmp_ne, e_iconst, e_iload_n, e_nil, l_ld1, lc_lt, lc_le, lc_gt, lc_ge, lc_eq, true_and, and_true, List.length_cons, List.length_nil, ab_ia, Nat.reduceAdd, Nat.reduceLeDiff, Nat.reduceEqDiff, Nat.reduceLT, Int.reduceLT, Int.reduceLE, Int.reduceEq, Int.reduceNeg, true_or, or_true, false_or, or_false, not_false_eq_true, not_true_eq_false, false_implies, true_implies, forall_const, implies_true, Nat.zero_le, Nat.le_refl]
        refine ⟨fun h4 => ?_, fun h4 => ?_⟩
        · refine rp_51 (fin (-9) _ ?_)
          unfold nOf
          rw [if_neg h1, if_neg h2, if_neg h3, if_neg h4]
        · refine fin 4 _ ?_
          unfold nOf
          rw [if_neg h1, if_neg h2, if_neg h3, if_pos (Decidable.not_not.mp h4)]
      · refine fin 3 _ ?_
        unfold nOf
        rw [if_neg h1, if_neg h2, if_pos (Decidable.not_not.mp h3)]
    · refine fin 2 _ ?_
      unfold nOf
      rw [if_neg h1, if_pos (Decidable.not_not.mp h2)]
  · refine fin 1 _ ?_
    unfold nOf
    rw [if_pos (Decidable.not_not.mp h1)]
end ReadPart

/-! the reference's reader: sets of figures, blank, take, open, figure -/
def mskN (b : Nat → Bool) : Nat → Nat
  | 0 => 0
  | k + 1 => mskN b k + if b k then 2 ^ k else 0
theorem mskN_lt (b : Nat → Bool) (k : Nat) : mskN b k < 2 ^ k := by
  induction k with
  | zero => exact Nat.zero_lt_one
  | succ k ih =>
    rw [mskN, Nat.pow_succ]
    split <;> omega
theorem mskN_bit (b : Nat → Bool) (v : Nat) : ∀ k, (mskN b k).testBit v = (decide (v < k) && b v) := by
  intro k
  induction k with
  | zero => simp [mskN]
  | succ k ih =>
    have hlt := mskN_lt b k
    rw [mskN]
    by_cases hb : b k = true
    · rw [if_pos hb, Nat.add_comm]
      rcases Nat.lt_trichotomy v k with h | h | h
      · rw [Nat.testBit_two_pow_add_gt h, ih, decide_eq_true h, decide_eq_true (show v < k + 1 by omega)]
      · subst h
        rw [Nat.testBit_two_pow_add_eq, Nat.testBit_lt_two_pow hlt, decide_eq_true (show v < v + 1 by omega), hb]
        rfl
      · have h2 : 2 ^ k + mskN b k < 2 ^ v := Nat.lt_of_lt_of_le (show 2 ^ k + mskN b k < 2 ^ (k + 1) by rw [Nat.pow_succ]; omega) (Nat.pow_le_pow_right (by decide) (by omega))
        rw [Nat.testBit_lt_two_pow h2, decide_eq_false (show ¬ v < k + 1 by omega), Bool.false_and]
    · rw [if_neg hb, Nat.add_zero, ih]
      by_cases h : v = k
      · subst h
        have hb' : b v = false := by
          cases q : b v
          · rfl
          · exact absurd q hb
        rw [hb', Bool.and_false, Bool.and_false]
      · by_cases h' : v < k
        · rw [decide_eq_true h', decide_eq_true (show v < k + 1 by omega)]
        · rw [decide_eq_false h', decide_eq_false (show ¬ v < k + 1 by omega)]
theorem mskN_ne (b : Nat → Bool) : ∀ k, mskN b k ≠ 0 ↔ ∃ v, v < k ∧ b v = true := by
  intro k
  induction k with
  | zero =>
    constructor
    · intro h; exact absurd rfl h
    · rintro ⟨v, h, _⟩; omega
  | succ k ih =>
    rw [mskN]
    constructor
    · intro h
      by_cases hb : b k = true
      · exact ⟨k, by omega, hb⟩
      · rw [if_neg hb, Nat.add_zero] at h
        obtain ⟨v, h1, h2⟩ := ih.mp h
        exact ⟨v, by omega, h2⟩
    · rintro ⟨v, h1, h2⟩
      by_cases hv : v = k
      · subst hv
        rw [if_pos h2]
        have : 0 < 2 ^ v := Nat.pow_pos (by decide)
        omega
      · have := ih.mpr ⟨v, by omega, h2⟩
        omega
/-- figure v is in the set al -/
def bitp (al v : Int) : Prop := ¬ (Int32.ofInt ((Int32.ofInt al >>> (Int32.ofInt v &&& 31)).toInt) &&& Int32.ofInt 1).toInt = 0
def bitc (a b : Nat) : Bool := (List.range (b - a)).all (fun m => (List.range 10).all (fun v => decide ((Int32.ofInt ((Int32.ofInt ((a + m : Nat) : Int) >>> (Int32.ofInt (v : Int) &&& 31)).toInt) &&& Int32.ofInt 1).toInt = 0) == !((a + m).testBit v)))
theorem bitc_0 : bitc 0 64 = true := by decide +kernel
theorem bitc_1 : bitc 124 125 = true := by decide +kernel
theorem bitc_2 : bitc 1022 1024 = true := by decide +kernel
theorem bitp_iff {m : Nat} {v : Int} (hm : m < 64 ∨ m = 124 ∨ m = 1022 ∨ m = 1023) (hv : 0 ≤ v ∧ v ≤ 9) : bitp (m : Int) v ↔ m.testBit v.toNat = true := by
  obtain ⟨n, rfl⟩ := Int.eq_ofNat_of_zero_le hv.1
  have key : ∀ a b, bitc a b = true → a ≤ m → m < b → (decide ((Int32.ofInt ((Int32.ofInt (m : Int) >>> (Int32.ofInt (n : Int) &&& 31)).toInt) &&& Int32.ofInt 1).toInt = 0) == !(m.testBit n)) = true := by
    intro a b h h1 h2
    have q := List.all_eq_true.mp (List.all_eq_true.mp h (m - a) (List.mem_range.mpr (by omega))) n (List.mem_range.mpr (by omega))
    rw [show a + (m - a) = m by omega] at q
    exact q
  have q : (decide ((Int32.ofInt ((Int32.ofInt (m : Int) >>> (Int32.ofInt (n : Int) &&& 31)).toInt) &&& Int32.ofInt 1).toInt = 0) == !(m.testBit n)) = true := by
    rcases hm with h | h | h | h
    · exact key 0 64 bitc_0 (by omega) h
    · exact key 124 125 bitc_1 (by omega) (by omega)
    · exact key 1022 1024 bitc_2 (by omega) (by omega)
    · exact key 1022 1024 bitc_2 (by omega) (by omega)
  have q := eq_of_beq q
  unfold bitp
  rw [Int.toNat_natCast]
  constructor
  · intro h
    rw [decide_eq_false h] at q
    cases z : m.testBit n
    · rw [z] at q; cases q
    · rfl
  · intro h
    rw [h] at q
    exact of_decide_eq_false q
theorem bit_124 {v : Int} (hv : 0 ≤ v ∧ v ≤ 9) : bitp 124 v ↔ 2 ≤ v ∧ v ≤ 6 := by
  rw [show (124 : Int) = ((124 : Nat) : Int) from rfl, bitp_iff (by omega) hv]
  have : v = 0 ∨ v = 1 ∨ v = 2 ∨ v = 3 ∨ v = 4 ∨ v = 5 ∨ v = 6 ∨ v = 7 ∨ v = 8 ∨ v = 9 := by omega
  rcases this with rfl | rfl | rfl | rfl | rfl | rfl | rfl | rfl | rfl | rfl <;> decide
theorem bit_1023 {v : Int} (hv : 0 ≤ v ∧ v ≤ 9) : bitp 1023 v := by
  rw [show (1023 : Int) = ((1023 : Nat) : Int) from rfl, bitp_iff (by omega) hv]
  have : v = 0 ∨ v = 1 ∨ v = 2 ∨ v = 3 ∨ v = 4 ∨ v = 5 ∨ v = 6 ∨ v = 7 ∨ v = 8 ∨ v = 9 := by omega
  rcases this with rfl | rfl | rfl | rfl | rfl | rfl | rfl | rfl | rfl | rfl <;> decide
theorem bit_1022 {v : Int} (hv : 0 ≤ v ∧ v ≤ 9) : bitp 1022 v ↔ 1 ≤ v := by
  rw [show (1022 : Int) = ((1022 : Nat) : Int) from rfl, bitp_iff (by omega) hv]
  have : v = 0 ∨ v = 1 ∨ v = 2 ∨ v = 3 ∨ v = 4 ∨ v = 5 ∨ v = 6 ∨ v = 7 ∨ v = 8 ∨ v = 9 := by omega
  rcases this with rfl | rfl | rfl | rfl | rfl | rfl | rfl | rfl | rfl | rfl <;> decide
def orc : Bool := (List.range 6).all (fun k => (List.range (2 ^ k)).all (fun m => decide ((Int32.ofInt (m : Int) ||| Int32.ofInt ((Int32.ofInt 1 <<< (Int32.ofInt (k : Int) &&& 31)).toInt)).toInt = ((m + 2 ^ k : Nat) : Int)) && decide ((Int32.ofInt (m : Int) ||| Int32.ofInt 0).toInt = (m : Int))))
theorem orc_t : orc = true := by decide +kernel
theorem or_bit {m k : Nat} (hk : k < 6) (hm : m < 2 ^ k) : (Int32.ofInt (m : Int) ||| Int32.ofInt ((Int32.ofInt 1 <<< (Int32.ofInt (k : Int) &&& 31)).toInt)).toInt = ((m + 2 ^ k : Nat) : Int) ∧ (Int32.ofInt (m : Int) ||| Int32.ofInt 0).toInt = (m : Int) := by
  have q := List.all_eq_true.mp (List.all_eq_true.mp orc_t k (List.mem_range.mpr hk)) m (List.mem_range.mpr hm)
  simpa using q
theorem mskN_or {b : Nat → Bool} {k : Nat} (hk : k < 6) {z : Int} (hz : (b k = true ∧ z = (Int32.ofInt 1 <<< (Int32.ofInt (k : Int) &&& 31)).toInt) ∨ (b k = false ∧ z = 0)) : (Int32.ofInt (mskN b k : Int) ||| Int32.ofInt z).toInt = (mskN b (k + 1) : Int) := by
  obtain ⟨h1, h2⟩ := or_bit hk (mskN_lt b k)
  rcases hz with ⟨q, rfl⟩ | ⟨q, rfl⟩
  · rw [h1, mskN, if_pos q]
  · rw [h2, mskN, q]
    rfl
/-- what the reference takes where nothing is told -/
def dfl (j : Int) : Int := if j = 1 then 1 else if j = 2 then 4 else if j = 4 ∨ j = 0 then 0 else 5
section RefRead
variable {L : Nat} {D : ab_D}
def frL (D D' : ab_D) : Prop := ∀ a, a ≠ 70 → a ≠ 72 → D' a = D a
theorem frL_ups {b i : Nat} {z : Int} {D D' : ab_D} (hb : b = 70 ∨ b = 72) (h : frL D D') : frL D (ups D' b i z) := fun a h1 h2 => by
  funext j
  rw [ups_ne1 (by omega), h a h1 h2]
theorem m_blank_loop {Q : Option ab_V → ab_H → Prop} (hq : ∀ D', frL D D' → (∀ j : Int, 0 ≤ j → j < 44 → D' 70 j.toNat = dfl j ∧ D' 72 j.toNat = 0) → Q none (EE L, D')) :
    ∀ (t : Nat) (k : Int) (D' : ab_D), 0 ≤ k → k + t = 44 → frL D D' → (∀ j : Int, 0 ≤ j → j < k → D' 70 j.toNat = dfl j ∧ D' 72 j.toNat = 0) → Sx 118 2 [vR 69, vI k] [] (EE L, D') (0, 0) Q := by
  intro t
  induction t with
  | zero =>
    intro k D' h0 ht hf hi
    refine go_118_2 ?_
    simp only [sg_118_2, cl_I, cl_L, cl_R, e_aload_n, e_bipush, e_get1, e_goto, e_icmp_ge, e_icmp_ne, e_iconst, e_iload_n, e_nil, l_ld1, l_ldA0, wRef_some, EE_n, EE_r69_0, EE_s69, EE_s70, lc_lt, lc_le, lc_gt, lc_ge, lc_eq, true_and, and_true, List.length_cons, List.length_nil, ab_ia, Nat.reduceAdd, Nat.reduceLeDiff, Nat.reduceEqDiff, Nat.reduceLT, Int.reduceLT, Int.reduceLE, Int.reduceEq, Int.reduceNeg, true_or, or_true, false_or, or_false, not_false_eq_true, not_true_eq_false, false_implies, true_implies, forall_const, implies_true, Nat.zero_le, Nat.le_refl]
    refine ⟨fun _ => ?_, fun h => absurd h (by omega)⟩
    refine go_118_34 ?_
    simp only [sg_118_34, cl_I, cl_L, cl_R, e_nil, e_vret, lc_lt, lc_le, lc_gt, lc_ge, lc_eq, true_and, and_true, List.length_cons, List.length_nil, ab_ia, Nat.reduceAdd, Nat.reduceLeDiff, Nat.reduceEqDiff, Nat.reduceLT, Int.reduceLT, Int.reduceLE, Int.reduceEq, Int.reduceNeg, true_or, or_true, false_or, or_false, not_false_eq_true, not_true_eq_false, false_implies, true_implies, forall_const, implies_true, Nat.zero_le, Nat.le_refl]
    exact hq D' hf (fun j j0 j1 => hi j j0 (by omega))
  | succ t ih =>
    intro k D' h0 ht hf hi
    have fin : ∀ z, z = dfl k → Sx 118 26 [vR 69, vI k] [vI z, vI k, vR 70] (EE L, D') (0, 0) Q := by
      intro z hz
      refine go_118_26 ?_
      simp only [sg_118_26, cl_I, cl_L, cl_R, e_aload_n, e_bastore, e_get1, e_goto, e_iastore, e_iconst, e_iinc, e_iload_n, e_nil, l_inc1, l_ld1, l_ldA0, wRef_some, EE_n, EE_r69_2, EE_s69, EE_s72, EE_s70, lc_lt, lc_le, lc_gt, lc_ge, lc_eq, true_and, and_true, List.length_cons, List.length_nil, ab_ia, Nat.reduceAdd, Nat.reduceLeDiff, Nat.reduceEqDiff, Nat.reduceLT, Int.reduceLT, Int.reduceLE, Int.reduceEq, Int.reduceNeg, true_or, or_true, false_or, or_false, not_false_eq_true, not_true_eq_false, false_implies, true_implies, forall_const, implies_true, Nat.zero_le, Nat.le_refl]
      refine ⟨by omega, by omega, ⟨by omega, by omega⟩, ih (k + 1) _ (by omega) (by omega) (frL_ups (by omega) (frL_ups (by omega) hf)) (fun j j0 j1 => ?_)⟩
      by_cases q : j = k
      · subst q
        rw [ups_ne1 (by decide), ups_self, ups_self]
        exact ⟨hz, rfl⟩
      · rw [ups_ne1 (by decide), ups_ne2 (by omega), ups_ne2 (by omega), ups_ne1 (by decide)]
        exact hi j j0 (by omega)
    have z0 : (k = 4 ∨ k = 0) → Sx 118 23 [vR 69, vI k] [vI k, vR 70] (EE L, D') (0, 0) Q := by
      intro h
      refine go_118_23 ?_
      simp only [sg_118_23, cl_I, cl_L, cl_R, e_goto, e_iconst, e_nil, lc_lt, lc_le, lc_gt, lc_ge, lc_eq, true_and, and_true, List.length_cons, List.length_nil, ab_ia, Nat.reduceAdd, Nat.reduceLeDiff, Nat.reduceEqDiff, Nat.reduceLT, Int.reduceLT, Int.reduceLE, Int.reduceEq, Int.reduceNeg, true_or, or_true, false_or, or_false, not_false_eq_true, not_true_eq_false, false_implies, true_implies, forall_const, implies_true, Nat.zero_le, Nat.le_refl]
      exact fin 0 (by unfold dfl; rw [if_neg (by omega), if_neg (by omega), if_pos h])
    refine go_118_2 ?_
    simp only [sg_118_2, cl_I, cl_L, cl_R, e_aload_n, e_bipush, e_get1, e_goto, e_icmp_ge, e_icmp_ne, e_iconst, e_iload_n, e_nil, l_ld1, l_ldA0, wRef_some, EE_n, EE_r69_0, EE_s69, EE_s70, lc_lt, lc_le, lc_gt, lc_ge, lc_eq, true_and, and_true, List.length_cons, List.length_nil, ab_ia, Nat.reduceAdd, Nat.reduceLeDiff, Nat.reduceEqDiff, Nat.reduceLT, Int.reduceLT, Int.reduceLE, Int.reduceEq, Int.reduceNeg, true_or, or_true, false_or, or_false, not_false_eq_true, not_true_eq_false, false_implies, true_implies, forall_const, implies_true, Nat.zero_le, Nat.le_refl]
    refine ⟨fun h => absurd h (by omega), fun _ => ⟨fun h1 => ?_, fun h1 => ?_⟩⟩
    · refine go_118_13 ?_
      simp only [sg_118_13, cl_I, cl_L, cl_R, e_goto, e_icmp_ne, e_iconst, e_iload_n, e_nil, l_ld1, lc_lt, lc_le, lc_gt, lc_ge, lc_eq, true_and, and_true, List.length_cons, List.length_nil, ab_ia, Nat.reduceAdd, Nat.reduceLeDiff, Nat.reduceEqDiff, Nat.reduceLT, Int.reduceLT, Int.reduceLE, Int.reduceEq, Int.reduceNeg, true_or, or_true, false_or, or_false, not_false_eq_true, not_true_eq_false, false_implies, true_implies, forall_const, implies_true, Nat.zero_le, Nat.le_refl]
      refine ⟨fun h2 => ?_, fun h2 => ?_⟩
      · refine go_118_18 ?_
        simp only [sg_118_18, cl_I, cl_L, cl_R, e_goto, e_icmp_eq, e_iconst, e_if_ne, e_iload_n, e_nil, l_ld1, lc_lt, lc_le, lc_gt, lc_ge, lc_eq, true_and, and_true, List.length_cons, List.length_nil, ab_ia, Nat.reduceAdd, Nat.reduceLeDiff, Nat.reduceEqDiff, Nat.reduceLT, Int.reduceLT, Int.reduceLE, Int.reduceEq, Int.reduceNeg, true_or, or_true, false_or, or_false, not_false_eq_true, not_true_eq_false, false_implies, true_implies, forall_const, implies_true, Nat.zero_le, Nat.le_refl]
        refine ⟨fun h3 => z0 (Or.inl h3), fun h3 => ⟨fun h4 => ?_, fun h4 => ?_⟩⟩
        · refine go_118_25 ?_
          simp only [sg_118_25, cl_I, cl_L, cl_R, e_aload_n, e_bastore, e_get1, e_goto, e_iastore, e_iconst, e_iinc, e_iload_n, e_nil, l_inc1, l_ld1, l_ldA0, wRef_some, EE_n, EE_r69_2, EE_s69, EE_s72, EE_s70, lc_lt, lc_le, lc_gt, lc_ge, lc_eq, true_and, and_true, List.length_cons, List.length_nil, ab_ia, Nat.reduceAdd, Nat.reduceLeDiff, Nat.reduceEqDiff, Nat.reduceLT, Int.reduceLT, Int.reduceLE, Int.reduceEq, Int.reduceNeg, true_or, or_true, false_or, or_false, not_false_eq_true, not_true_eq_false, false_implies, true_implies, forall_const, implies_true, Nat.zero_le, Nat.le_refl]
          have q := fin 5 (by unfold dfl; rw [if_neg h1, if_neg h2, if_neg (by omega)])
          refine ⟨by omega, by omega, ⟨by omega, by omega⟩, ih (k + 1) _ (by omega) (by omega) (frL_ups (by omega) (frL_ups (by omega) hf)) (fun j j0 j1 => ?_)⟩
          by_cases q : j = k
          · subst q
            rw [ups_ne1 (by decide), ups_self, ups_self]
            exact ⟨by unfold dfl; rw [if_neg h1, if_neg h2, if_neg (by omega)], rfl⟩
          · rw [ups_ne1 (by decide), ups_ne2 (by omega), ups_ne2 (by omega), ups_ne1 (by decide)]
            exact hi j j0 (by omega)
        · exact fin 0 (by unfold dfl; rw [if_neg (by omega), if_neg (by omega), if_pos (by omega)])
      · exact fin 4 (by unfold dfl; rw [if_neg h1, if_pos (by omega)])
    · exact fin 1 (by unfold dfl; rw [if_pos (by omega)])
theorem m_blank : CV 118 [vR 69] (EE L, D) (fun D' => frL D D' ∧ ∀ j : Int, 0 ≤ j → j < 44 → D' 70 j.toNat = dfl j ∧ D' 72 j.toNat = 0) := by
  refine Sx.un (y := 118) (n := 0) (lo := [vR 69, vU]) (st := []) (u := (0, 0)) ?_
  refine go_118_0 ?_
  simp only [sg_118_0, cl_I, cl_L, cl_R, e_iconst, e_istore_n, e_nil, l_st1, lc_lt, lc_le, lc_gt, lc_ge, lc_eq, true_and, and_true, List.length_cons, List.length_nil, ab_ia, Nat.reduceAdd, Nat.reduceLeDiff, Nat.reduceEqDiff, Nat.reduceLT, Int.reduceLT, Int.reduceLE, Int.reduceEq, Int.reduceNeg, true_or, or_true, false_or, or_false, not_false_eq_true, not_true_eq_false, false_implies, true_implies, forall_const, implies_true, Nat.zero_le, Nat.le_refl]
  exact m_blank_loop (fun D' h1 h2 => retV ⟨h1, h2⟩) 44 0 D (by omega) (by omega) (fun _ _ _ => rfl) (fun j j0 j1 => absurd j1 (by omega))
theorem m_take_loop {Q : Option ab_V → ab_H → Prop} (hq : ∀ D', (∀ a, a ≠ 71 → D' a = D a) → (∀ j : Int, 0 ≤ j → j < 44 → D' 71 j.toNat = D 70 j.toNat) → ∀ x, Sx 119 15 [vR 69, x] [] (EE L, D') (0, 0) Q) :
    ∀ (t : Nat) (k : Int) (D' : ab_D), 0 ≤ k → k + t = 44 → (∀ a, a ≠ 71 → D' a = D a) → (∀ j : Int, 0 ≤ j → j < k → D' 71 j.toNat = D 70 j.toNat) → Sx 119 2 [vR 69, vI k] [] (EE L, D') (0, 0) Q := by
  intro t
  induction t with
  | zero =>
    intro k D' h0 ht hf hi
    refine go_119_2 ?_
    simp only [sg_119_2, cl_I, cl_L, cl_R, e_aload_n, e_bipush, e_get1, e_goto, e_iaload, e_iastore, e_icmp_ge, e_iinc, e_iload_n, e_nil, l_inc1, l_ld1, l_ldA0, wRef_some, EE_n, EE_r69_0, EE_r69_1, EE_s69, EE_s70, EE_s71, lc_lt, lc_le, lc_gt, lc_ge, lc_eq, true_and, and_true, List.length_cons, List.length_nil, ab_ia, Nat.reduceAdd, Nat.reduceLeDiff, Nat.reduceEqDiff, Nat.reduceLT, Int.reduceLT, Int.reduceLE, Int.reduceEq, Int.reduceNeg, true_or, or_true, false_or, or_false, not_false_eq_true, not_true_eq_false, false_implies, true_implies, forall_const, implies_true, Nat.zero_le, Nat.le_refl]
    exact ⟨fun _ => hq D' hf (fun j j0 j1 => hi j j0 (by omega)) _, fun h => absurd h (by omega)⟩
  | succ t ih =>
    intro k D' h0 ht hf hi
    have e : D' 70 = D 70 := hf 70 (by decide)
    refine go_119_2 ?_
    simp only [sg_119_2, cl_I, cl_L, cl_R, e_aload_n, e_bipush, e_get1, e_goto, e_iaload, e_iastore, e_icmp_ge, e_iinc, e_iload_n, e_nil, l_inc1, l_ld1, l_ldA0, wRef_some, EE_n, EE_r69_0, EE_r69_1, EE_s69, EE_s70, EE_s71, e, lc_lt, lc_le, lc_gt, lc_ge, lc_eq, true_and, and_true, List.length_cons, List.length_nil, ab_ia, Nat.reduceAdd, Nat.reduceLeDiff, Nat.reduceEqDiff, Nat.reduceLT, Int.reduceLT, Int.reduceLE, Int.reduceEq, Int.reduceNeg, true_or, or_true, false_or, or_false, not_false_eq_true, not_true_eq_false, false_implies, true_implies, forall_const, implies_true, Nat.zero_le, Nat.le_refl]
    refine ⟨fun h => absurd h (by omega), fun _ => ⟨by omega, by omega, ⟨by omega, by omega⟩, ih (k + 1) _ (by omega) (by omega) (fun a ha => ?_) (fun j j0 j1 => ?_)⟩⟩
    · funext j
      rw [ups_ne1 ha, hf a ha]
    · by_cases q : j = k
      · subst q; rw [ups_self]
      · rw [ups_ne2 (by omega)]; exact hi j j0 (by omega)
/-- behind take -/
def tkA (D D' : ab_D) : Prop := (∀ a, a ≠ 69 → a ≠ 71 → a ≠ 77 → D' a = D a) ∧ (∀ j, j ≠ 8 → j ≠ 10 → j ≠ 12 → j ≠ 22 → D' 69 j = D 69 j) ∧ (∀ j : Int, 0 ≤ j → j < 44 → D' 71 j.toNat = D 70 j.toNat) ∧ D' 69 8 = 0 ∧ D' 69 10 = 0 ∧ D' 69 12 = 0 ∧ D' 69 22 = 0 ∧ D' 77 0 = 0 ∧ D' 77 1 = 0
theorem m_take : CV 119 [vR 69] (EE L, D) (fun D' => tkA D D') := by
  refine Sx.un (y := 119) (n := 0) (lo := [vR 69, vU]) (st := []) (u := (0, 0)) ?_
  refine go_119_0 ?_
  simp only [sg_119_0, cl_I, cl_L, cl_R, e_iconst, e_istore_n, e_nil, l_st1, lc_lt, lc_le, lc_gt, lc_ge, lc_eq, true_and, and_true, List.length_cons, List.length_nil, ab_ia, Nat.reduceAdd, Nat.reduceLeDiff, Nat.reduceEqDiff, Nat.reduceLT, Int.reduceLT, Int.reduceLE, Int.reduceEq, Int.reduceNeg, true_or, or_true, false_or, or_false, not_false_eq_true, not_true_eq_false, false_implies, true_implies, forall_const, implies_true, Nat.zero_le, Nat.le_refl]
  refine m_take_loop (fun D' h1 h2 x => ?_) 44 0 D (by omega) (by omega) (fun _ _ => rfl) (fun j j0 j1 => absurd j1 (by omega))
  refine go_119_15 ?_
  simp only [sg_119_15, cl_I, cl_L, cl_R, e_aload_n, e_bastore, e_get1, e_iconst, e_nil, e_put0, e_vret, l_ldA0, wRef_some, EE_n, EE_r69_14, EE_s69, EE_s77, Int.reduceToNat, lc_lt, lc_le, lc_gt, lc_ge, lc_eq, true_and, and_true, List.length_cons, List.length_nil, ab_ia, Nat.reduceAdd, Nat.reduceLeDiff, Nat.reduceEqDiff, Nat.reduceLT, Int.reduceLT, Int.reduceLE, Int.reduceEq, Int.reduceNeg, true_or, or_true, false_or, or_false, not_false_eq_true, not_true_eq_false, false_implies, true_implies, forall_const, implies_true, Nat.zero_le, Nat.le_refl]
  refine ⟨by decide, by decide, retV' ⟨fun a a1 a2 a3 => ?_, fun j j1 j2 j3 j4 => ?_, fun j j0 j1 => ?_, ?_, ?_, ?_, ?_, ?_, ?_⟩⟩
  · funext j
    simp (disch := omega) only [ups_ne1]
    rw [h1 a a2]
  · simp (disch := omega) only [ups_ne1, ups_ne2]
    rw [h1 69 (by decide)]
  · simp (disch := omega) only [ups_ne1]
    exact h2 j j0 j1
  all_goals simp (disch := omega) only [ups_ne1, ups_ne2, ups_self]
/-- the figures of many rows from f on that aren't told, as a set -/
def opn (D : ab_D) (f : Int) (many : Nat) : Nat := mskN (fun j => decide (D 72 (f + (j : Int)).toNat = 0)) many
theorem m_open_loop {Q : Option ab_V → ab_H → Prop} {f : Int} {many : Nat} (hf : 0 ≤ f ∧ f + many ≤ 44) (hm : many ≤ 6) (hb : ∀ j, D 72 j = 0 ∨ D 72 j = 1 ∨ True) (hq : Q (some (.inl (opn D f many))) (EE L, D)) :
    ∀ (t k : Nat), k + t = many → Sx 123 4 [vR 69, vI f, vI many, vI (opn D f k), vI k] [] (EE L, D) (0, 0) Q := by
  intro t
  induction t with
  | zero =>
    intro k ht
    refine go_123_4 ?_
    simp only [sg_123_4, cl_I, cl_L, cl_R, e_aload_n, e_baload, e_get1, e_goto, e_iadd, e_icmp_ge, e_iconst, e_if_eq, e_iload, e_iload_n, e_nil, l_ld1, l_ld2, l_ld3, l_ld4, l_ldA0, wRef_some, EE_n, EE_r69_2, EE_s69, EE_s72, lc_lt, lc_le, lc_gt, lc_ge, lc_eq, true_and, and_true, List.length_cons, List.length_nil, ab_ia, Nat.reduceAdd, Nat.reduceLeDiff, Nat.reduceEqDiff, Nat.reduceLT, Int.reduceLT, Int.reduceLE, Int.reduceEq, Int.reduceNeg, true_or, or_true, false_or, or_false, not_false_eq_true, not_true_eq_false, false_implies, true_implies, forall_const, implies_true, Nat.zero_le, Nat.le_refl]
    refine ⟨fun _ => ?_, fun h => absurd h (by omega)⟩
    refine go_123_24 ?_
    simp only [sg_123_24, cl_I, cl_L, cl_R, e_iload_n, e_iret0, e_nil, l_ld3, lc_lt, lc_le, lc_gt, lc_ge, lc_eq, true_and, and_true, List.length_cons, List.length_nil, ab_ia, Nat.reduceAdd, Nat.reduceLeDiff, Nat.reduceEqDiff, Nat.reduceLT, Int.reduceLT, Int.reduceLE, Int.reduceEq, Int.reduceNeg, true_or, or_true, false_or, or_false, not_false_eq_true, not_true_eq_false, false_implies, true_implies, forall_const, implies_true, Nat.zero_le, Nat.le_refl]
    have : k = many := by omega
    subst this
    exact hq
  | succ t ih =>
    intro k ht
    have nx := ih (k + 1) (by omega)
    rw [show ((k + 1 : Nat) : Int) = (k : Int) + 1 by omega] at nx
    refine go_123_4 ?_
    simp only [sg_123_4, cl_I, cl_L, cl_R, e_aload_n, e_baload, e_get1, e_goto, e_iadd, e_icmp_ge, e_iconst, e_if_eq, e_iload, e_iload_n, e_nil, l_ld1, l_ld2, l_ld3, l_ld4, l_ldA0, wRef_some, EE_n, EE_r69_2, EE_s69, EE_s72, lc_lt, lc_le, lc_gt, lc_ge, lc_eq, true_and, and_true, List.length_cons, List.length_nil, ab_ia, Nat.reduceAdd, Nat.reduceLeDiff, Nat.reduceEqDiff, Nat.reduceLT, Int.reduceLT, Int.reduceLE, Int.reduceEq, Int.reduceNeg, true_or, or_true, false_or, or_false, not_false_eq_true, not_true_eq_false, false_implies, true_implies, forall_const, implies_true, Nat.zero_le, Nat.le_refl]
    refine ⟨fun h => absurd h (by omega), fun _ => ⟨⟨by omega, by omega⟩, by omega, fun h1 => ?_, fun h1 => ?_⟩⟩
    · refine go_123_17 ?_
      simp only [sg_123_17, cl_I, cl_L, cl_R, e_goto, e_iconst, e_iinc, e_iload, e_ior, e_ishl, e_istore_n, e_nil, l_inc4, l_ld4, l_st3, lc_lt, lc_le, lc_gt, lc_ge, lc_eq, true_and, and_true, List.length_cons, List.length_nil, ab_ia, Nat.reduceAdd, Nat.reduceLeDiff, Nat.reduceEqDiff, Nat.reduceLT, Int.reduceLT, Int.reduceLE, Int.reduceEq, Int.reduceNeg, true_or, or_true, false_or, or_false, not_false_eq_true, not_true_eq_false, false_implies, true_implies, forall_const, implies_true, Nat.zero_le, Nat.le_refl]
      have e := mskN_or (b := fun j => decide (D 72 (f + (j : Int)).toNat = 0)) (k := k) (by omega) (Or.inl ⟨decide_eq_true h1, rfl⟩)
      unfold opn
      rw [e]
      exact ⟨⟨by omega, by omega⟩, nx⟩
    · refine go_123_20 ?_
      simp only [sg_123_20, cl_I, cl_L, cl_R, e_goto, e_iinc, e_ior, e_istore_n, e_nil, l_inc4, l_st3, lc_lt, lc_le, lc_gt, lc_ge, lc_eq, true_and, and_true, List.length_cons, List.length_nil, ab_ia, Nat.reduceAdd, Nat.reduceLeDiff, Nat.reduceEqDiff, Nat.reduceLT, Int.reduceLT, Int.reduceLE, Int.reduceEq, Int.reduceNeg, true_or, or_true, false_or, or_false, not_false_eq_true, not_true_eq_false, false_implies, true_implies, forall_const, implies_true, Nat.zero_le, Nat.le_refl]
      have e := mskN_or (b := fun j => decide (D 72 (f + (j : Int)).toNat = 0)) (k := k) (by omega) (Or.inr ⟨decide_eq_false h1, rfl⟩)
      unfold opn
      rw [e]
      exact ⟨⟨by omega, by omega⟩, nx⟩
theorem m_open {f n : Int} (hf : 0 ≤ f ∧ f + n ≤ 44) (hn : 0 ≤ n ∧ n ≤ 6) : CI 123 [vR 69, vI f, vI n] (EE L, D) (fun r D' => r = (opn D f n.toNat : Int) ∧ D' = D) := by
  obtain ⟨m, rfl⟩ := Int.eq_ofNat_of_zero_le hn.1
  refine Sx.un (y := 123) (n := 0) (lo := [vR 69, vI f, vI m, vU, vU]) (st := []) (u := (0, 0)) ?_
  refine go_123_0 ?_
  simp only [sg_123_0, cl_I, cl_L, cl_R, e_iconst, e_istore, e_istore_n, e_nil, l_st3, l_st4, lc_lt, lc_le, lc_gt, lc_ge, lc_eq, true_and, and_true, List.length_cons, List.length_nil, ab_ia, Nat.reduceAdd, Nat.reduceLeDiff, Nat.reduceEqDiff, Nat.reduceLT, Int.reduceLT, Int.reduceLE, Int.reduceEq, Int.reduceNeg, true_or, or_true, false_or, or_false, not_false_eq_true, not_true_eq_false, false_implies, true_implies, forall_const, implies_true, Nat.zero_le, Nat.le_refl]
  exact m_open_loop (by omega) (by omega) (fun _ => Or.inr (Or.inr trivial)) (retI ⟨rfl, rfl⟩) m 0 (by omega)
/-- only the reference's place in the text and its fault changed -/
def frF (D D' : ab_D) : Prop := (∀ a, a ≠ 69 → D' a = D a) ∧ ∀ j, j ≠ 5 → j ≠ 6 → D' 69 j = D 69 j
theorem frF.refl {D : ab_D} : frF D D := ⟨fun _ _ => rfl, fun _ _ _ => rfl⟩
theorem frF.trans {D D' D'' : ab_D} (h : frF D D') (k : frF D' D'') : frF D D'' := ⟨fun a ha => (k.1 a ha).trans (h.1 a ha), fun j h1 h2 => (k.2 j h1 h2).trans (h.2 j h1 h2)⟩
theorem frF_ups {i : Nat} {z : Int} {D D' : ab_D} (hi : i = 5 ∨ i = 6) (h : frF D D') : frF D (ups D' 69 i z) := ⟨fun a ha => by
  funext j
  rw [ups_ne1 ha, h.1 a ha], fun j h1 h2 => by rw [ups_ne2 (by omega), h.2 j h1 h2]⟩
theorem m_fig {T : Int → Int} {al i len : Int} (h6 : D 69 6 = -9) (h5 : D 69 5 = i) (h4 : D 69 4 = len) (hT : txt D 73 T len) (hi : 0 ≤ i ∧ i ≤ len ∧ len ≤ 64) : CI 122 [vR 69, vI al] (EE L, D) (fun r D' => ((fig T len i ∧ bitp al (T i - 48)) ∧ r = T i - 48 ∧ frF D D' ∧ D' 69 6 = -9 ∧ D' 69 5 = i + 1) ∨ (¬ (fig T len i ∧ bitp al (T i - 48)) ∧ r = 0 ∧ frF D D' ∧ D' 69 6 = i)) := by
  have bad : ∀ v, ¬ (fig T len i ∧ bitp al (T i - 48)) → Sx 122 31 [vR 69, vI al, vI v] [] (EE L, D) (0, 0) (fun r h' => ∃ x D', r = some (.inl x) ∧ h' = (EE L, D') ∧ (((fig T len i ∧ bitp al (T i - 48)) ∧ x = T i - 48 ∧ frF D D' ∧ D' 69 6 = -9 ∧ D' 69 5 = i + 1) ∨ (¬ (fig T len i ∧ bitp al (T i - 48)) ∧ x = 0 ∧ frF D D' ∧ D' 69 6 = i))) := by
    intro v hb
    refine go_122_31 ?_
    simp only [sg_122_31, cl_I, cl_L, cl_R, e_aload_n, e_bipush, e_get0, e_goto, e_icmp_ne, e_nil, l_ldA0, wRef_some, EE_n, EE_s69, h6, h5, lc_lt, lc_le, lc_gt, lc_ge, lc_eq, true_and, and_true, List.length_cons, List.length_nil, ab_ia, Nat.reduceAdd, Nat.reduceLeDiff, Nat.reduceEqDiff, Nat.reduceLT, Int.reduceLT, Int.reduceLE, Int.reduceEq, Int.reduceNeg, true_or, or_true, false_or, or_false, not_false_eq_true, not_true_eq_false, false_implies, true_implies, forall_const, implies_true, Nat.zero_le, Nat.le_refl]
    refine go_122_41 ?_
    simp only [sg_122_41, cl_I, cl_L, cl_R, e_iconst, e_iret0, e_nil, e_put0, EE_n, EE_s69, lc_lt, lc_le, lc_gt, lc_ge, lc_eq, true_and, and_true, List.length_cons, List.length_nil, ab_ia, Nat.reduceAdd, Nat.reduceLeDiff, Nat.reduceEqDiff, Nat.reduceLT, Int.reduceLT, Int.reduceLE, Int.reduceEq, Int.reduceNeg, true_or, or_true, false_or, or_false, not_false_eq_true, not_true_eq_false, false_implies, true_implies, forall_const, implies_true, Nat.zero_le, Nat.le_refl]
    exact retI (Or.inr ⟨hb, rfl, frF_ups (by omega) frF.refl, ups_self⟩)
  have out : ¬ i < len → Sx 122 17 [vR 69, vI al, vU] [] (EE L, D) (0, 0) (fun r h' => ∃ x D', r = some (.inl x) ∧ h' = (EE L, D') ∧ (((fig T len i ∧ bitp al (T i - 48)) ∧ x = T i - 48 ∧ frF D D' ∧ D' 69 6 = -9 ∧ D' 69 5 = i + 1) ∨ (¬ (fig T len i ∧ bitp al (T i - 48)) ∧ x = 0 ∧ frF D D' ∧ D' 69 6 = i))) := by
    intro h
    refine go_122_17 ?_
    simp only [sg_122_17, cl_I, cl_L, cl_R, e_aload_n, e_bipush, e_cs3, e_get0, e_goto, e_i2l, e_iand, e_icmp_ne, e_iconst, e_if_eq, e_if_ne, e_iload_n, e_ishr, e_istore_n, e_lconst, e_ldc2, e_nil, fl_0, fl_I, fl_L, fl_R, l_ld1, l_ld2, l_ldA0, l_st2, rk_1, wRef_some, EE_n, EE_s69, lc_lt, lc_le, lc_gt, lc_ge, lc_eq, true_and, and_true, List.length_cons, List.length_nil, ab_ia, Nat.reduceAdd, Nat.reduceLeDiff, Nat.reduceEqDiff, Nat.reduceLT, Int.reduceLT, Int.reduceLE, Int.reduceEq, Int.reduceNeg, true_or, or_true, false_or, or_false, not_false_eq_true, not_true_eq_false, false_implies, true_implies, forall_const, implies_true, Nat.zero_le, Nat.le_refl]
    refine CB.use m_in (fun h1 => absurd h1 (by omega)) (fun h1 => ?_)
    try simp only [lc_lt, lc_le, lc_gt, lc_ge, lc_eq, true_and, and_true, List.length_cons, List.length_nil, ab_ia, Nat.reduceAdd, Nat.reduceLeDiff, Nat.reduceEqDiff, Nat.reduceLT, Int.reduceLT, Int.reduceLE, Int.reduceEq, Int.reduceNeg, true_or, or_true, false_or, or_false, not_false_eq_true, not_true_eq_false, false_implies, true_implies, forall_const, implies_true, Nat.zero_le, Nat.le_refl]
    exact bad _ (fun q => h q.1.1)
  refine Sx.un (y := 122) (n := 0) (lo := [vR 69, vI al, vU]) (st := []) (u := (0, 0)) ?_
  refine go_122_0 ?_
  simp only [sg_122_0, cl_I, cl_L, cl_R, e_aload_n, e_bipush, e_get0, e_get1, e_goto, e_iaload, e_icmp_ge, e_icmp_ne, e_isub, e_nil, l_ldA0, wRef_some, EE_n, EE_r69_3, EE_s69, EE_s73, h6, h5, h4, lc_lt, lc_le, lc_gt, lc_ge, lc_eq, true_and, and_true, List.length_cons, List.length_nil, ab_ia, Nat.reduceAdd, Nat.reduceLeDiff, Nat.reduceEqDiff, Nat.reduceLT, Int.reduceLT, Int.reduceLE, Int.reduceEq, Int.reduceNeg, true_or, or_true, false_or, or_false, not_false_eq_true, not_true_eq_false, false_implies, true_implies, forall_const, implies_true, Nat.zero_le, Nat.le_refl]
  refine ⟨fun h => out (by omega), fun h => ?_⟩
  obtain ⟨e, b0, b1⟩ := hT i (by omega) (by omega)
  rw [e]
  refine ⟨by omega, ⟨by omega, by omega⟩, ?_⟩
  refine go_122_18 ?_
  simp only [sg_122_18, cl_I, cl_L, cl_R, e_aload_n, e_bipush, e_cs3, e_get0, e_goto, e_i2l, e_iand, e_icmp_ne, e_iconst, e_if_eq, e_if_ne, e_iload_n, e_ishr, e_istore_n, e_lconst, e_ldc2, e_nil, fl_0, fl_I, fl_L, fl_R, l_ld1, l_ld2, l_ldA0, l_st2, rk_1, wRef_some, EE_n, EE_s69, lc_lt, lc_le, lc_gt, lc_ge, lc_eq, true_and, and_true, List.length_cons, List.length_nil, ab_ia, Nat.reduceAdd, Nat.reduceLeDiff, Nat.reduceEqDiff, Nat.reduceLT, Int.reduceLT, Int.reduceLE, Int.reduceEq, Int.reduceNeg, true_or, or_true, false_or, or_false, not_false_eq_true, not_true_eq_false, false_implies, true_implies, forall_const, implies_true, Nat.zero_le, Nat.le_refl]
  refine CB.use m_in (fun h1 => ?_) (fun h1 => ?_)
  · try simp only [lc_lt, lc_le, lc_gt, lc_ge, lc_eq, true_and, and_true, List.length_cons, List.length_nil, ab_ia, Nat.reduceAdd, Nat.reduceLeDiff, Nat.reduceEqDiff, Nat.reduceLT, Int.reduceLT, Int.reduceLE, Int.reduceEq, Int.reduceNeg, true_or, or_true, false_or, or_false, not_false_eq_true, not_true_eq_false, false_implies, true_implies, forall_const, implies_true, Nat.zero_le, Nat.le_refl]
    refine ⟨fun h2 => ?_, fun h2 => ?_⟩
    · refine go_122_44 ?_
      simp only [sg_122_44, cl_I, cl_L, cl_R, e_aload_n, e_dupI, e_dupR, e_get0, e_iadd, e_iconst, e_iload_n, e_iret0, e_nil, e_put0, l_ld2, l_ldA0, wRef_some, EE_n, EE_s69, h5, lc_lt, lc_le, lc_gt, lc_ge, lc_eq, true_and, and_true, List.length_cons, List.length_nil, ab_ia, Nat.reduceAdd, Nat.reduceLeDiff, Nat.reduceEqDiff, Nat.reduceLT, Int.reduceLT, Int.reduceLE, Int.reduceEq, Int.reduceNeg, true_or, or_true, false_or, or_false, not_false_eq_true, not_true_eq_false, false_implies, true_implies, forall_const, implies_true, Nat.zero_le, Nat.le_refl]
      refine ⟨⟨by omega, by omega⟩, retI (Or.inl ⟨⟨⟨by omega, by omega, by omega⟩, h2⟩, rfl, frF_ups (by omega) frF.refl, ?_, ups_self⟩)⟩
      rw [ups_ne2 (by decide), h6]
    · refine ⟨fun h => absurd h6 h, fun _ => ?_⟩
      rw [h5]
      refine go_122_41 ?_
      simp only [sg_122_41, cl_I, cl_L, cl_R, e_iconst, e_iret0, e_nil, e_put0, EE_n, EE_s69, lc_lt, lc_le, lc_gt, lc_ge, lc_eq, true_and, and_true, List.length_cons, List.length_nil, ab_ia, Nat.reduceAdd, Nat.reduceLeDiff, Nat.reduceEqDiff, Nat.reduceLT, Int.reduceLT, Int.reduceLE, Int.reduceEq, Int.reduceNeg, true_or, or_true, false_or, or_false, not_false_eq_true, not_true_eq_false, false_implies, true_implies, forall_const, implies_true, Nat.zero_le, Nat.le_refl]
      exact retI (Or.inr ⟨fun q => q.2 (Decidable.not_not.mp h2), rfl, frF_ups (by omega) frF.refl, ups_self⟩)
  · try simp only [lc_lt, lc_le, lc_gt, lc_ge, lc_eq, true_and, and_true, List.length_cons, List.length_nil, ab_ia, Nat.reduceAdd, Nat.reduceLeDiff, Nat.reduceEqDiff, Nat.reduceLT, Int.reduceLT, Int.reduceLE, Int.reduceEq, Int.reduceNeg, true_or, or_true, false_or, or_false, not_false_eq_true, not_true_eq_false, false_implies, true_implies, forall_const, implies_true, Nat.zero_le, Nat.le_refl]
    exact bad _ (fun q => h1 (by have := q.1.2; omega))
theorem m_fig' {al : Int} (h6 : D 69 6 ≠ -9) : CI 122 [vR 69, vI al] (EE L, D) (fun r D' => r = 0 ∧ frF D D' ∧ D' 69 6 = D 69 6) := by
  refine Sx.un (y := 122) (n := 0) (lo := [vR 69, vI al, vU]) (st := []) (u := (0, 0)) ?_
  refine go_122_0 ?_
  simp only [sg_122_0, cl_I, cl_L, cl_R, e_aload_n, e_bipush, e_get0, e_get1, e_goto, e_iaload, e_icmp_ge, e_icmp_ne, e_isub, e_nil, l_ldA0, wRef_some, EE_n, EE_r69_3, EE_s69, EE_s73, lc_lt, lc_le, lc_gt, lc_ge, lc_eq, true_and, and_true, List.length_cons, List.length_nil, ab_ia, Nat.reduceAdd, Nat.reduceLeDiff, Nat.reduceEqDiff, Nat.reduceLT, Int.reduceLT, Int.reduceLE, Int.reduceEq, Int.reduceNeg, true_or, or_true, false_or, or_false, not_false_eq_true, not_true_eq_false, false_implies, true_implies, forall_const, implies_true, Nat.zero_le, Nat.le_refl]
  refine ⟨fun h => ?_, fun h => absurd (Decidable.not_not.mp h) h6⟩
  refine go_122_17 ?_
  simp only [sg_122_17, cl_I, cl_L, cl_R, e_aload_n, e_bipush, e_cs3, e_get0, e_goto, e_i2l, e_iand, e_icmp_ne, e_iconst, e_if_eq, e_if_ne, e_iload_n, e_ishr, e_istore_n, e_lconst, e_ldc2, e_nil, fl_0, fl_I, fl_L, fl_R, l_ld1, l_ld2, l_ldA0, l_st2, rk_1, wRef_some, EE_n, EE_s69, lc_lt, lc_le, lc_gt, lc_ge, lc_eq, true_and, and_true, List.length_cons, List.length_nil, ab_ia, Nat.reduceAdd, Nat.reduceLeDiff, Nat.reduceEqDiff, Nat.reduceLT, Int.reduceLT, Int.reduceLE, Int.reduceEq, Int.reduceNeg, true_or, or_true, false_or, or_false, not_false_eq_true, not_true_eq_false, false_implies, true_implies, forall_const, implies_true, Nat.zero_le, Nat.le_refl]
  refine CB.use m_in (fun h1 => absurd h1 (by omega)) (fun h1 => ?_)
  try simp only [lc_lt, lc_le, lc_gt, lc_ge, lc_eq, true_and, and_true, List.length_cons, List.length_nil, ab_ia, Nat.reduceAdd, Nat.reduceLeDiff, Nat.reduceEqDiff, Nat.reduceLT, Int.reduceLT, Int.reduceLE, Int.reduceEq, Int.reduceNeg, true_or, or_true, false_or, or_false, not_false_eq_true, not_true_eq_false, false_implies, true_implies, forall_const, implies_true, Nat.zero_le, Nat.le_refl]
  refine go_122_31 ?_
  simp only [sg_122_31, cl_I, cl_L, cl_R, e_aload_n, e_bipush, e_get0, e_goto, e_icmp_ne, e_nil, l_ldA0, wRef_some, EE_n, EE_s69, lc_lt, lc_le, lc_gt, lc_ge, lc_eq, true_and, and_true, List.length_cons, List.length_nil, ab_ia, Nat.reduceAdd, Nat.reduceLeDiff, Nat.reduceEqDiff, Nat.reduceLT, Int.reduceLT, Int.reduceLE, Int.reduceEq, Int.reduceNeg, true_or, or_true, false_or, or_false, not_false_eq_true, not_true_eq_false, false_implies, true_implies, forall_const, implies_true, Nat.zero_le, Nat.le_refl]
  refine ⟨fun _ => ?_, fun h => absurd (Decidable.not_not.mp h) h6⟩
  refine go_122_39 ?_
  simp only [sg_122_39, cl_I, cl_L, cl_R, e_aload_n, e_get0, e_iconst, e_iret0, e_nil, e_put0, l_ldA0, wRef_some, EE_n, EE_s69, lc_lt, lc_le, lc_gt, lc_ge, lc_eq, true_and, and_true, List.length_cons, List.length_nil, ab_ia, Nat.reduceAdd, Nat.reduceLeDiff, Nat.reduceEqDiff, Nat.reduceLT, Int.reduceLT, Int.reduceLE, Int.reduceEq, Int.reduceNeg, true_or, or_true, false_or, or_false, not_false_eq_true, not_true_eq_false, false_implies, true_implies, forall_const, implies_true, Nat.zero_le, Nat.le_refl]
  exact retI ⟨rfl, frF_ups (by omega) frF.refl, ups_self⟩
end RefRead

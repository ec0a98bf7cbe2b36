/-! the law from its entry: both are made, and stand alike (printed by wip/gen/gen_start.py) -/
section Start
variable {L : Nat} {D D1 D2 : ab_D} {Q : Option ab_V → ab_H → Prop}
theorem rmc_189 : (mRm 189).cells = 88 := rfl
theorem rms_189 : (mRm 189).slots = 2658 := rfl
theorem nG_0 : nG (st1 (fun _ => -1) 0 2) (fun _ => -1) := ⟨by unfold st1; rw [if_pos rfl]; omega, fun j j0 j1 => by unfold st1; rw [if_neg (by omega)]; show (-1 : Int) ≤ -1 ∧ (-1 : Int) ≤ 9; omega, fun j j0 j1 => by unfold st1; rw [if_neg (by omega)]; exact Or.inl rfl, fun a => by show (-1 : Int) ≤ -1 ∧ (-1 : Int) ≤ 9; omega⟩
theorem Rel_0 (he : pE D) (h1 : iP (upr D 0 (fun _ => 0)) D1) (h2 : iM (upr D1 69 (fun _ => 0)) D2) : Rel 0 D2 := by
  obtain ⟨a1, a2, a3, a4, a5, a6, a7, a8, a9, a10, a11, a12⟩ := h1
  obtain ⟨m1, m2, m3, m4, m5, m6, m7, m8, m9, m10⟩ := h2
  have c : ∀ a, ¬ (69 ≤ a ∧ a < 88) → D2 a = D1 a := fun a ha => by rw [m1 a ha, upr_ne (by omega)]
  have z : ∀ j, D2 69 j = 0 := fun j => by
    have q := m2 j
    rw [upr_self] at q
    rcases q with q | q <;> exact q
  have e1 : D2 1001 = D 1001 := by rw [c 1001 (by decide), a1 1001 (by decide), upr_ne (by decide)]
  have e2 : D2 1002 = D 1002 := by rw [c 1002 (by decide), a1 1002 (by decide), upr_ne (by decide)]
  refine ⟨grd (st1 (fun _ => -1) 0 2) (fun _ => -1), emV, fun _ => emV, fun _ => 0, fun _ => 0, 0, 0, fun _ => 0, fun _ => 0, 0, fun _ => 0, fun _ => 0, ⟨grd_ok nG_0, ⟨emV_ok, by show (0 : Int) ≤ 0; omega⟩, fun s hs k => absurd rfl k, by omega, ⟨by omega, fun k hk => absurd hk (by omega)⟩, fun j hj => by show (0 : Int) ≤ 0 ∧ (0 : Int) ≤ 9; omega, ⟨by omega, fun i hi => absurd hi (by omega)⟩⟩,
    ⟨?_, vP_cg (fun a x1 x2 => c a (by omega)) a5, ⟨⟨by rw [c 58 (by decide)]; exact a6 0, fun k => absurd rfl k⟩, by rw [c 58 (by decide)]; exact a6 1, fun k => absurd rfl k⟩, ⟨by rw [c 0 (by decide)]; exact a2, fun j j0 j1 => absurd j1 (by omega)⟩, ⟨by rw [c 59 (by decide)]; exact a7 1, (c 60 (by decide)).trans a8⟩, (c 62 (by decide)).trans a9, ⟨by rw [c 63 (by decide)]; exact a10 1, (c 64 (by decide)).trans a11, (c 65 (by decide)).trans a12, ⟨fun i => i, ⟨fun i hi => absurd hi (by show ¬ i < 0; omega), fun i j hi => absurd hi (by show ¬ i < 0; omega), fun P _ i hi => absurd hi (by show ¬ i < 0; omega)⟩, fun i hi => absurd hi (by show ¬ i < 0; omega)⟩⟩, he.cg e1 e2⟩,
    ⟨m6, m3, fun s hs => ⟨?_, fun k => absurd rfl k⟩, ⟨z 4, fun j j0 j1 => absurd j1 (by omega)⟩, ⟨z 19, m7⟩, m8, ⟨m5, m9, m10⟩⟩⟩
  · refine grd_P (D := D) (by unfold st1; rw [if_pos rfl]; decide) he.1 (fun j j0 j1 => ?_) (fun a x0 x1 => ?_)
    · rw [c 7 (by decide), a3 j j0 j1, upr_ne (by decide)]
      unfold st1 els
      by_cases q : j = 0
      · subst q
        rw [if_pos rfl, if_neg (by decide)]
        exact he.1.1
      · rw [if_neg q, if_pos rfl]
    · rw [c 8 (by decide), a4 a x0 x1]
      rfl
  · have : s = 0 ∨ s = 1 := by omega
    rcases this with rfl | rfl
    · exact m4.1
    · exact m4.2
theorem law_start (he : pE D) (hL : L ≤ 2560) (hq : ∀ D', Q (some (.inl 1)) (EE L, D')) : Sx 189 0 [vR 1000, vU, vU, vU] [] (EEk 0 L, D) (0, 0) Q := by
  refine go_189_0 ?_
  simp only [sg_189_0, cl_I, cl_L, cl_R, e_astore_n, e_ci1, e_dupI, e_dupR, e_iconst, e_istore_n, e_new, e_nil, fl_0, fl_I, fl_L, fl_R, l_st3, l_stA1, l_stA2, rk_3, kO_0, kn_1, ks_1_0, kO_142, kn_143, ks_143_69, rmc_69, rms_69, rmc_116, rms_116, rmc_189, rms_189, EE_n, true_and, and_true, List.length_cons, List.length_nil, Nat.reduceAdd, Nat.reduceLeDiff, Nat.reduceEqDiff, Nat.reduceLT, Int.reduceLT, Int.reduceLE, Int.reduceEq, Int.reduceNeg, not_false_eq_true, not_true_eq_false, Nat.zero_le, Nat.le_refl, Nat.zero_add]
  refine CN.mono pi_0 ?_
  rintro ⟨E', D1⟩ ⟨e, i1⟩
  have e : E' = EEk 142 L := e
  subst e
  refine ⟨Nat.le_of_ble_eq_true rfl, ?_⟩
  simp only [cl_I, cl_L, cl_R, e_astore_n, e_ci1, e_dupI, e_dupR, e_iconst, e_istore_n, e_new, e_nil, fl_0, fl_I, fl_L, fl_R, l_st3, l_stA1, l_stA2, rk_3, kO_0, kn_1, ks_1_0, kO_142, kn_143, ks_143_69, rmc_69, rms_69, rmc_116, rms_116, rmc_189, rms_189, EE_n, true_and, and_true, List.length_cons, List.length_nil, Nat.reduceAdd, Nat.reduceLeDiff, Nat.reduceEqDiff, Nat.reduceLT, Int.reduceLT, Int.reduceLE, Int.reduceEq, Int.reduceNeg, not_false_eq_true, not_true_eq_false, Nat.zero_le, Nat.le_refl, Nat.zero_add]
  refine CN.mono mi_69 ?_
  rintro ⟨E', D2⟩ ⟨e, i2⟩
  have e : E' = EE L := e
  subst e
  refine ⟨Nat.le_of_ble_eq_true rfl, ?_⟩
  have h := law_loop (u := (88, 2658)) hL hq 600 0 D2 (by omega) (by omega) (Rel_0 he i1 i2)
  rw [show (5 * 0 : Int) = 0 by decide] at h
  exact h
end Start

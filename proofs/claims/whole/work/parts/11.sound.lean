/-! library members -/
theorem cat_le (ac : Nat → Nat × ClassId) (st : List ab_V) : ((st.map (cv ac)).map fun v => v.category).sum ≤ 2 * st.length := by
  induction st with
  | nil => simp
  | cons a r ih =>
    have h : (cv ac a).category ≤ 2 := by
      rcases lv_cat (cv ac a) with q | q <;> omega
    simp only [List.map_cons, List.sum_cons, List.length_cons]
    omega
theorem ck_lib : Jvm.Cond.instanceMethod objectInit ∈ lw_tbl ∧ Jvm.Cond.native arraycopyName ∈ lw_tbl ∧ Jvm.Cond.static arraycopyName ∈ lw_tbl ∧ Jvm.Cond.initialized "java/lang/System" ∈ lw_tbl ∧ Jvm.Cond.initialized "java/lang/Math" ∈ lw_tbl ∧ Jvm.Cond.static Lib.Math.abs.name ∈ lw_tbl ∧ Jvm.Cond.static Lib.Math.max.name ∈ lw_tbl ∧ Jvm.Cond.static Lib.MathLoose.max_long.x ∈ lw_tbl ∧ Jvm.Cond.static Lib.Math.min.name ∈ lw_tbl := by decide +kernel
theorem ck_libc : Jvm.Cond.code objectInit ⟨#[0xb1]⟩ 1 none ∈ lw_tbl ∧ Jvm.Cond.code Lib.Math.abs.name Lib.Math.abs.code 1 (some .int) ∈ lw_tbl ∧ Jvm.Cond.code Lib.Math.max.name Lib.Math.max.code 2 (some .int) ∈ lw_tbl ∧ Jvm.Cond.code Lib.MathLoose.max_long.x Lib.MathLoose.max_long.code 4 (some .long) ∈ lw_tbl ∧ Jvm.Cond.code Lib.Math.min.name Lib.Math.min.code 2 (some .int) ∈ lw_tbl := by decide +kernel
section Steps
variable {y n pc len : Nat} {ax : List Nat} {ct : ab_C} {K : Nat → ab_C} {lo st : List ab_V} {h : ab_H} {u : Nat × Nat} {Q : Option ab_V → ab_H → Prop}
theorem x_objInit {idx t : Nat} (hh : okX y (pc, .invokespecial idx, len, [t]) = true) : len = 3 ∧ Jvm.Cond.methodLink (mN y).cls idx objectInit ∈ lw_tbl ∧ 1 ≤ (mRm y).frames ∧ 24 ≤ (mRm y).locals := by
  rcases len with _ | _ | _ | _ | len
  all_goals first | exact absurd (show false = true from hh) (by decide) | skip
  have h1 := Bool.and_eq_true_iff.mp hh
  exact ⟨rfl, ix_mem h1.1, of_decide_eq_true h1.2⟩
theorem s_objInit {idx t : Nat} (F : Fq y n (pc, .invokespecial idx, len, [t])) (hc : ∀ lo st h u, ct lo st h u → Sem y (n + 1) lo st h u Q) (hw : wI y Q K (pc, .invokespecial idx, len, [t]) ct lo st h u) : Sem y n lo st h u Q := by
  obtain ⟨rfl, hm, hf, hl⟩ := x_objInit F.x
  match st, hw with
  | .inr (.inr (some i)) :: r, hw =>
    obtain ⟨h4, hw⟩ := hw
    intro p l e s m args below meth cd dC dI base Z hC hb ac H locs ls hRet hR hS hL hlo hst hu
    have hts := hC.2.2.2.2.1
    refine W.objInit hC.1 hC.2.1 hC.2.2.2.1 (hts _ hm rfl) (hts _ ck_lib.1 rfl) (hts _ ck_libc.1 rfl) (g := F0 m (pcN y n) ls (.ref (ac i).1 :: r.map (cv ac))) rfl (by rw [hC.2.2.1]; exact hL.1) rfl F.dec hf ?_ ?_
    · have := cat_le ac r
      show 2 * 0 + _ + 12 ≤ _
      omega
    · have := hc _ _ _ _ hw p l e s m args below meth cd dC dI base Z hC hb ac H locs ls hRet hR hS hL hlo (al_cons.mp hst).2 hu
      rw [F.nx] at this
      exact this
theorem x_copy {idx t : Nat} (hh : okX y (pc, .invokestatic idx, len, [t]) = true) : len = 3 ∧ Jvm.Cond.methodLink (mN y).cls idx arraycopyName ∈ lw_tbl ∧ 1 ≤ (mRm y).frames ∧ 8 + (nativeFrameWords "java/lang/System" "arraycopy" 5 + 11) ≤ (mRm y).locals := by
  rcases len with _ | _ | _ | _ | len
  all_goals first | exact absurd (show false = true from hh) (by decide) | skip
  have h1 := Bool.and_eq_true_iff.mp hh
  exact ⟨rfl, ix_mem h1.1, of_decide_eq_true h1.2⟩
theorem s_copy {idx t : Nat} (F : Fq y n (pc, .invokestatic idx, len, [t])) (hc : ∀ lo st h u, ct lo st h u → Sem y (n + 1) lo st h u Q) (hw : wI y Q K (pc, .invokestatic idx, len, [t]) ct lo st h u) : Sem y n lo st h u Q := by
  obtain ⟨rfl, hm, hf, hl⟩ := x_copy F.x
  match st, hw with
  | .inl nn :: .inl dp :: .inr (.inr (some b)) :: .inl sp :: .inr (.inr (some a)) :: r, hw =>
    obtain ⟨⟨h4, ha, hb', ka, kb, g1, g2, g3, g4, g5⟩, hw⟩ := hw
    intro p l e s m args below meth cd dC dI base Z hC hb ac H locs ls hRet hR hS hL hlo hst hu
    have hts := hC.2.2.2.2.1
    obtain ⟨o1, o2⟩ := al_cons.mp hst
    obtain ⟨o3, o4⟩ := al_cons.mp o2
    obtain ⟨-, o5⟩ := al_cons.mp o4
    obtain ⟨o6, o7⟩ := al_cons.mp o5
    obtain ⟨-, o8⟩ := al_cons.mp o7
    have i1 : i32 nn := o1
    have i2 : i32 dp := o3
    have i3 : i32 sp := o6
    have hK2 : va_K (dC, dI) cls [((ac a).2, .int), ((ac b).2, .int)] s := (hR.2.2.2.1.1 a ha _ (kind_eta ka)).app (hR.2.2.2.1.1 b hb' _ (kind_eta kb))
    refine va_copyi (D := (dC, dI)) (cl := cls) (A := fun q => base ≤ q) (ty := .int) hC.1 hC.2.1 (by rw [hC.2.2.1]; exact hL.1.symm) hC.2.2.2.1 (hts _ hm rfl) (hts _ ck_lib.2.1 rfl) (hts _ ck_lib.2.2.1 rfl) (hts _ ck_lib.2.2.2.1 rfl) hK2 hR.2.1 hR.2.2.1 hS a b 0 1 (by rw [ab_ws_at ha, enc_i ka]) (by rw [ab_ws_at hb', enc_i kb]) rfl rfl rfl (n_nn i3 g1) (n_nn i2 g2) (n_nn i1 g3) (by rw [n_cl i3, n_cl i1]; omega) (by rw [n_cl i2, n_cl i1]; omega) (fun _ _ => rfl) hf (by have := cat_le ac r; omega) F.dec (fun H1 locs1 hP1 hD1 hS1 => ?_)
    have e1 : (ab_ws ac h).set b ((ac b).1, .inl ((ac b).2, (h.1.2.1 b).2, .inl (va_cpy (fun j => Int32.ofInt (h.2 a j)) (fun j => Int32.ofInt (h.2 b j)) (Int32.ofInt sp).toNatClampNeg (Int32.ofInt dp).toNatClampNeg (Int32.ofInt nn).toNatClampNeg))) = ab_ws ac (h.1, upr h.2 b (fun j => if dp.toNat ≤ j ∧ j < dp.toNat + nn.toNat then h.2 a (sp.toNat + (j - dp.toNat)) else h.2 b j)) := by
      refine ab_ws_set rfl hb' ?_ (fun j hj => enc_ext rfl (by simp [upr, hj]) rfl rfl (fun _ _ _ => rfl))
      rw [enc_i (h := (h.1, upr h.2 b _)) kb, n_cl i1, n_cl i2, n_cl i3]
      congr 4
      funext j
      simp only [upr, va_cpy, if_true]
      split <;> rfl
    rw [e1] at hP1 hD1
    have hR1 : sm_R dC dI base ac s H1 (h.1, upr h.2 b (fun j => if dp.toNat ≤ j ∧ j < dp.toNat + nn.toNat then h.2 a (sp.toNat + (j - dp.toNat)) else h.2 b j)) := by
      refine hR.upd hb hS hS1 hP1 hD1 rfl rfl (fun k j => ?_) hR.2.2.2.2.2.1 (fun k hk => ?_)
      · show i32 (upr h.2 b _ k j)
        unfold upr
        split
        · dsimp only
          split
          · exact hR.2.2.2.2.1 _ _
          · exact hR.2.2.2.2.1 _ _
        · exact hR.2.2.2.2.1 _ _
      · show upr h.2 b _ k = _
        unfold upr
        rw [if_neg (by have := hR.2.2.2.2.2.2.1; omega)]
    have := hc _ _ _ _ hw p l e s m args below meth cd dC dI base Z hC hb ac H1 locs1 ls hRet hR1 hS1 hL hlo o8 hu
    rw [F.nx] at this
    exact this
theorem x_math0 {idx t : Nat} (hh : okX y (pc, .invokestatic idx, len, [0, t]) = true) : len = 3 ∧ Jvm.Cond.methodLink (mN y).cls idx Lib.Math.abs.name ∈ lw_tbl ∧ 1 ≤ (mRm y).frames ∧ 24 ≤ (mRm y).locals := by
  rcases len with _ | _ | _ | _ | len
  all_goals first | exact absurd (show false = true from hh) (by decide) | skip
  have h1 := Bool.and_eq_true_iff.mp hh
  exact ⟨rfl, ix_mem h1.1, of_decide_eq_true h1.2⟩
theorem x_math1 {idx t : Nat} (hh : okX y (pc, .invokestatic idx, len, [1, t]) = true) : len = 3 ∧ Jvm.Cond.methodLink (mN y).cls idx Lib.Math.max.name ∈ lw_tbl ∧ 1 ≤ (mRm y).frames ∧ 24 ≤ (mRm y).locals := by
  rcases len with _ | _ | _ | _ | len
  all_goals first | exact absurd (show false = true from hh) (by decide) | skip
  have h1 := Bool.and_eq_true_iff.mp hh
  exact ⟨rfl, ix_mem h1.1, of_decide_eq_true h1.2⟩
theorem x_math2 {idx t : Nat} (hh : okX y (pc, .invokestatic idx, len, [2, t]) = true) : len = 3 ∧ Jvm.Cond.methodLink (mN y).cls idx Lib.MathLoose.max_long.x ∈ lw_tbl ∧ 1 ≤ (mRm y).frames ∧ 24 ≤ (mRm y).locals := by
  rcases len with _ | _ | _ | _ | len
  all_goals first | exact absurd (show false = true from hh) (by decide) | skip
  have h1 := Bool.and_eq_true_iff.mp hh
  exact ⟨rfl, ix_mem h1.1, of_decide_eq_true h1.2⟩
theorem x_math3 {idx t : Nat} (hh : okX y (pc, .invokestatic idx, len, [3, t]) = true) : len = 3 ∧ Jvm.Cond.methodLink (mN y).cls idx Lib.Math.min.name ∈ lw_tbl ∧ 1 ≤ (mRm y).frames ∧ 24 ≤ (mRm y).locals := by
  rcases len with _ | _ | _ | _ | len
  all_goals first | exact absurd (show false = true from hh) (by decide) | skip
  have h1 := Bool.and_eq_true_iff.mp hh
  exact ⟨rfl, ix_mem h1.1, of_decide_eq_true h1.2⟩
theorem s_math0 {idx t : Nat} (F : Fq y n (pc, .invokestatic idx, len, [0, t])) (hc : ∀ lo st h u, ct lo st h u → Sem y (n + 1) lo st h u Q) (hw : wI y Q K (pc, .invokestatic idx, len, [0, t]) ct lo st h u) : Sem y n lo st h u Q := by
  obtain ⟨rfl, hm, hf, hl⟩ := x_math0 F.x
  match st, hw with
  | .inl a :: r, hw =>
    obtain ⟨⟨h4, hn⟩, hw⟩ := hw
    refine sm_pure F (hc _ _ _ _ hw) (fun p l e s m args below meth cd H locs cells slots Z ls ac hC hL hlo hst hd hu kk => ?_) (fun hlo hst => al_cons.mpr ⟨?_, (al_cons.mp hst).2⟩)
    · have hts := hC.2.2.2.2.1
      have ia : i32 a := (al_cons.mp hst).1
      refine va_mabs hC.1 hC.2.1 (by rw [hC.2.2.1]; exact hL.1.symm) hC.2.2.2.1 (hts _ hm rfl) (hts _ ck_lib.2.2.2.2.2.1 rfl) (hts _ ck_lib.2.2.2.2.1 rfl) (hts _ ck_libc.2.1 rfl) hf (by have := cat_le ac r; omega) hu.1 hu.2 hd ?_
      have e1 : (if (0 : Int32) ≤ Int32.ofInt a then Int32.ofInt a else 0 - Int32.ofInt a) = Int32.ofInt (if 0 ≤ a then a else -a) := by
        have h0 : (0 : Int32) ≤ Int32.ofInt a ↔ 0 ≤ a := n_le n_i0 ia
        by_cases q : 0 ≤ a
        · rw [if_pos q, if_pos (h0.mpr q)]
        · rw [if_neg q, if_neg (fun z => q (h0.mp z)), Int32.ofInt_neg]
          simp
      rw [e1]
      exact kk
    · show i32 (if 0 ≤ a then a else -a)
      split
      · exact (al_cons.mp hst).1
      · exact hn
theorem s_math1 {idx t : Nat} (F : Fq y n (pc, .invokestatic idx, len, [1, t])) (hc : ∀ lo st h u, ct lo st h u → Sem y (n + 1) lo st h u Q) (hw : wI y Q K (pc, .invokestatic idx, len, [1, t]) ct lo st h u) : Sem y n lo st h u Q := by
  obtain ⟨rfl, hm, hf, hl⟩ := x_math1 F.x
  match st, hw with
  | .inl b :: .inl a :: r, hw =>
    obtain ⟨h4, hw⟩ := hw
    refine sm_pure F (hc _ _ _ _ hw) (fun p l e s m args below meth cd H locs cells slots Z ls ac hC hL hlo hst hd hu kk => ?_) (fun hlo hst => al_cons.mpr ⟨?_, (al_cons.mp (al_cons.mp hst).2).2⟩)
    · have hts := hC.2.2.2.2.1
      have ib : i32 b := (al_cons.mp hst).1
      have ia : i32 a := (al_cons.mp (al_cons.mp hst).2).1
      refine va_mmax hC.1 hC.2.1 (by rw [hC.2.2.1]; exact hL.1.symm) hC.2.2.2.1 (hts _ hm rfl) (hts _ ck_lib.2.2.2.2.2.2.1 rfl) (hts _ ck_lib.2.2.2.2.1 rfl) (hts _ ck_libc.2.2.1 rfl) hf (by have := cat_le ac r; omega) hu.1 hu.2 hd ?_
      have e1 : (if Int32.ofInt a < Int32.ofInt b then Int32.ofInt b else Int32.ofInt a) = Int32.ofInt (if a < b then b else a) := by
        by_cases q : a < b
        · rw [if_pos q, if_pos ((n_lt ia ib).mpr q)]
        · rw [if_neg q, if_neg (fun z => q ((n_lt ia ib).mp z))]
      rw [e1]
      exact kk
    · show i32 (if a < b then b else a)
      split
      · exact (al_cons.mp hst).1
      · exact (al_cons.mp (al_cons.mp hst).2).1
theorem s_math3 {idx t : Nat} (F : Fq y n (pc, .invokestatic idx, len, [3, t])) (hc : ∀ lo st h u, ct lo st h u → Sem y (n + 1) lo st h u Q) (hw : wI y Q K (pc, .invokestatic idx, len, [3, t]) ct lo st h u) : Sem y n lo st h u Q := by
  obtain ⟨rfl, hm, hf, hl⟩ := x_math3 F.x
  match st, hw with
  | .inl b :: .inl a :: r, hw =>
    obtain ⟨h4, hw⟩ := hw
    refine sm_pure F (hc _ _ _ _ hw) (fun p l e s m args below meth cd H locs cells slots Z ls ac hC hL hlo hst hd hu kk => ?_) (fun hlo hst => al_cons.mpr ⟨?_, (al_cons.mp (al_cons.mp hst).2).2⟩)
    · have hts := hC.2.2.2.2.1
      have ib : i32 b := (al_cons.mp hst).1
      have ia : i32 a := (al_cons.mp (al_cons.mp hst).2).1
      refine va_mmin hC.1 hC.2.1 (by rw [hC.2.2.1]; exact hL.1.symm) hC.2.2.2.1 (hts _ hm rfl) (hts _ ck_lib.2.2.2.2.2.2.2.2 rfl) (hts _ ck_lib.2.2.2.2.1 rfl) (hts _ ck_libc.2.2.2.2 rfl) hf (by have := cat_le ac r; omega) hu.1 hu.2 hd ?_
      have e1 : (if Int32.ofInt b < Int32.ofInt a then Int32.ofInt b else Int32.ofInt a) = Int32.ofInt (if b < a then b else a) := by
        by_cases q : b < a
        · rw [if_pos q, if_pos ((n_lt ib ia).mpr q)]
        · rw [if_neg q, if_neg (fun z => q ((n_lt ib ia).mp z))]
      rw [e1]
      exact kk
    · show i32 (if b < a then b else a)
      split
      · exact (al_cons.mp hst).1
      · exact (al_cons.mp (al_cons.mp hst).2).1
theorem s_math2 {idx t : Nat} (F : Fq y n (pc, .invokestatic idx, len, [2, t])) (hc : ∀ lo st h u, ct lo st h u → Sem y (n + 1) lo st h u Q) (hw : wI y Q K (pc, .invokestatic idx, len, [2, t]) ct lo st h u) : Sem y n lo st h u Q := by
  obtain ⟨rfl, hm, hf, hl⟩ := x_math2 F.x
  match st, hw with
  | .inr (.inl b) :: .inr (.inl a) :: r, hw =>
    obtain ⟨h4, hw⟩ := hw
    refine sm_pure F (hc _ _ _ _ hw) (fun p l e s m args below meth cd H locs cells slots Z ls ac hC hL hlo hst hd hu kk => ?_) (fun hlo hst => al_cons.mpr ⟨?_, (al_cons.mp (al_cons.mp hst).2).2⟩)
    · have hts := hC.2.2.2.2.1
      have ib : i64 b := (al_cons.mp hst).1
      have ia : i64 a := (al_cons.mp (al_cons.mp hst).2).1
      refine va_mmax_long hC.1 hC.2.1 (by rw [hC.2.2.1]; exact hL.1.symm) hC.2.2.2.1 (hts _ hm rfl) (hts _ ck_lib.2.2.2.2.2.2.2.1 rfl) (hts _ ck_lib.2.2.2.2.1 rfl) (hts _ ck_libc.2.2.2.1 rfl) hf (by have := cat_le ac r; omega) hu.1 hu.2 hd ?_
      have e1 : (if Int64.ofInt b < Int64.ofInt a then Int64.ofInt a else Int64.ofInt b) = Int64.ofInt (if a < b then b else a) := by
        have hlt : Int64.ofInt b < Int64.ofInt a ↔ b < a := by rw [Int64.lt_iff_toInt_lt, n_tl ia, n_tl ib]
        by_cases q : b < a
        · rw [if_pos (hlt.mpr q), if_neg (by omega)]
        · rw [if_neg (fun z => q (hlt.mp z))]
          by_cases q2 : a < b
          · rw [if_pos q2]
          · rw [if_neg q2, show a = b by omega]
      rw [e1]
      exact kk
    · show i64 (if a < b then b else a)
      split
      · exact (al_cons.mp hst).1
      · exact (al_cons.mp (al_cons.mp hst).2).1
end Steps

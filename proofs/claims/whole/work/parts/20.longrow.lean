/-! the long row -/
def isLR (E : ab_E) (x : Nat) : Prop := (x < E.1 ∧ E.2.1 x = (5, 0)) ∧ E.2.2 x 0 = some (x + 1) ∧ (x + 1 < E.1 ∧ E.2.1 (x + 1) = (0, 60))
def uS (w : Nat → Int) : Nat → Int → Int → Int
  | 0, _, _ => 0
  | k + 1, r, l => (if 0 ≤ w l.toNat - r % 10 then w l.toNat - r % 10 else -(w l.toNat - r % 10)) + uS w k (r / 10) (l - 1)
theorem lr_unlike_loop {E : ab_E} {D : ab_D} {x : Nat} {Q : Option ab_V → ab_H → Prop} {n rings last : Int} (hx : isLR E x) (hw : ∀ j, j < 60 → 0 ≤ D (x + 1) j ∧ D (x + 1) j ≤ 9) (hn : 1 ≤ n ∧ n ≤ 9) (hl : n - 1 ≤ last ∧ last < 60) :
    ∀ (k : Nat) (sum rest a : Int), a = last - n + k → (k : Int) ≤ n → (0 ≤ rest ∧ rest < 2147483648) → (0 ≤ sum ∧ sum ≤ 9 * (n - k)) → Q (some (.inl (sum + uS (D (x + 1)) k rest a))) (E, D) → Sem 28 6 [vR x, vI n, vI rings, vI last, vI sum, vI rest, vI a] [] (E, D) (0, 0) Q := by
  obtain ⟨⟨h1, h2⟩, h3, h4, h5⟩ := hx
  intro k
  induction k with
  | zero =>
    intro sum rest a ha hk h0 hs hq
    refine go_28_6 ?_
    simp only [sg_28_6, cl_I, cl_L, cl_R, e_abs, e_aload_n, e_bipush, e_get1, e_goto, e_iadd, e_iaload, e_icmp_le, e_idiv, e_if_lt, e_iinc, e_iload, e_iload_n, e_irem, e_istore, e_isub, e_nil, l_inc6, l_ld1, l_ld3, l_ld4, l_ld5, l_ld6, l_ldA0, l_st4, l_st5, wRef_some, h1, h2, h3, h4, h5]
    trace_state
    sorry
  | succ k ih =>
    intro sum rest a ha hk h0 hs hq
    refine go_28_6 ?_
    simp only [sg_28_6, cl_I, cl_L, cl_R, e_abs, e_aload_n, e_bipush, e_get1, e_goto, e_iadd, e_iaload, e_icmp_le, e_idiv, e_if_lt, e_iinc, e_iload, e_iload_n, e_irem, e_istore, e_isub, e_nil, l_inc6, l_ld1, l_ld3, l_ld4, l_ld5, l_ld6, l_ldA0, l_st4, l_st5, wRef_some, h1, h2, h3, h4, h5]
    trace_state
    sorry

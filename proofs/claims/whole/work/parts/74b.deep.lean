/-! a constructor called with five values below it on the stack, none of them long -/
section Deep
variable {y n pc len : Nat} {lo st : List ab_V} {h : ab_H} {u : Nat × Nat} {Q : Option ab_V → ab_H → Prop}
theorem s_deep {idx z na t ne ml kc : Nat} (F : Fq y n (pc, .invokespecial idx, len, [z, na, 3, t, ne, ml, kc])) (hcat : ∀ ac, (((st.drop na).map (cv ac)).map fun v => v.category).sum ≤ 8) (hnl : na ≤ st.length) (hfl : (ab_fl (st.take na).reverse).length ≤ ml) (hrecv : ∃ i, (st.take na).getLast? = some (.inr (.inr (some i))) ∧ i < h.1.1 ∧ (h.1.2.1 i).1 = kc) (hroom : u.1 + (mRm z).cells ≤ (mRm y).cells ∧ u.2 + (mRm z).slots ≤ (mRm y).slots)
    (kz : CN z (st.take na).reverse h (fun h' => h.1.1 ≤ h'.1.1 ∧ Sem y (n + 1) lo (st.drop na) h' (u.1 + (mRm z).cells, u.2 + (mRm z).slots) Q)) : Sem y n lo st h u Q := by
  obtain ⟨rfl, hk⟩ := x_call (kd := 2) (Or.inr (Or.inr ⟨rfl, rfl⟩)) F.x
  obtain ⟨hlink, hkd, hz, hna, hfr, hlc, hrk, hml, hkc⟩ := okCall_spec hk
  obtain ⟨n1, n2, n3, n4, n5, n6, n7⟩ := nN hz.1 hz.2
  rw [if_neg (by rw [hkd]; decide)] at n2
  obtain ⟨k1, k2, k3⟩ : 3 ≤ kc ∧ kc < 11 ∧ cN (kc - 3) = (mN z).cls := by
    rcases hkc with q | q
    · exact absurd q (by decide)
    · exact q
  have hT : mT z = none := ck_init z hz.2 hkd
  subst hml
  intro p l e s m args below meth cd dC dI base Z hC hb ac H locs ls hRet hR hS hL hlo hst hu
  have hargs : ∀ v ∈ (st.take na).reverse, ab_ok h.1.1 v := fun v hv => hst v (List.mem_of_mem_take (List.mem_reverse.mp hv))
  have hrest : ∀ v ∈ st.drop na, ab_ok h.1.1 v := fun v hv => hst v (List.mem_of_mem_drop hv)
  have hM := sm_met hz.1 hz.2 kz hfl hargs l dC dI base ac
  have hbH : base ≤ H.size := Nat.le_trans hb hS.1
  have hts := hC.2.2.2.2.1
  obtain ⟨i, hi1, hi2, hi3⟩ := hrecv
  obtain ⟨L', hL'⟩ := last_split hi1
  have eA : (st.take na).reverse = .inr (.inr (some i)) :: L'.reverse := by rw [hL', List.reverse_append]; rfl
  have hlen0 : (st.take na).length = na := by rw [List.length_take]; omega
  have hlen : (L'.reverse.map (cv ac)).length = mNp z := by
    rw [hL', List.length_append] at hlen0
    rw [if_neg (by decide)] at hna
    simp at hlen0 ⊢
    omega
  have hstk : st.map (cv ac) = (L'.reverse.map (cv ac)).reverse ++ .ref (ac i).1 :: (st.drop na).map (cv ac) := by
    rw [st_split st na ac, eA]
    simp [cv]
  rw [eA] at hM
  have hp : PreS s H (cPc (.inr (.inr (some i)) :: L'.reverse) h dC dI base ac) (.ref (ac i).1 :: L'.reverse.map (cv ac)) :=
    ⟨cPc_blind, fun U hU hW => ⟨rfl, by rw [hU]; exact hbH, hC.2.2.2.2.2.1.warm hW, by rw [hU]; exact hR.moved hW.alike⟩⟩
  have S : CallFix p m cd (mB y) (mL y) s args tbg (mN y).cls := ⟨hC.1, hC.2.1, hC.2.2.1, hC.2.2.2.1, mts hC⟩
  have hw0 : cWs z = Jvm.Cond.code (mN z) (mB z) (mL z) none :: tbg := by show _ :: _ = _; rw [hT]
  have run : va_Run p l e (mRm y) s m args below meth cd H locs u.1 u.2 (mRm z).cells (mRm z).slots (F0 m (pcN y n) ls (st.map (cv ac))) ((st.drop na).map (cv ac)) (cQc h (fun r h' => r = none ∧ h.1.1 ≤ h'.1.1 ∧ Sem y (n + 1) lo (st.drop na) h' (u.1 + (mRm z).cells, u.2 + (mRm z).slots) Q) dC dI base ac (((.inr (.inr (some i)) :: L'.reverse : List ab_V).map (cv ac)).toArray)) (fun q => base ≤ q) := by
    rcases hlink with hl | hl
    · exact va_runIN S hM ⟨va_cnB (mNp z) (mts hC) (go_tbg hz.1 hz.2) hw0 rfl rfl (hC.2.2.2.2.2.1.2.1 _ _ _ _ hl) (hts _ n1 rfl) ⟨n5.1, n5.2, n6⟩ ⟨hfr, hlc⟩, n7.mp hkd, hts _ n2 rfl⟩ hp rfl hlen hL.1 hstk (lv_room (hcat ac)) F.dec hroom
    · exact va_runI S hM ⟨callB_of (mNp z) (mts hC) (go_tbg hz.1 hz.2) hw0 rfl rfl (hts _ n1 rfl) (hts _ hl rfl) ⟨n5.1, n5.2, n6⟩ ⟨hfr, hlc⟩, n7.mp hkd, hts _ n2 rfl⟩ hp rfl hlen hL.1 hstk (lv_room (hcat ac)) F.dec hroom
  refine sm_after run hS (fun v h' ac' H1 locs1 hq hR1 hS1 hv hn hac => ?_)
  obtain ⟨rfl, _, hq⟩ := hq
  have := hq p l e s m args below meth cd dC dI base Z hC hb ac' H1 locs1 ls (hRet.to hn hac) hR1 hS1 (hL.to hlo hac) (fun v hv => ok_mono hn (hlo v hv)) (fun w hw => ok_mono hn (hrest w hw)) hroom
  rw [F.nx, cv_map hrest hac] at this
  exact this
theorem cat5 {a b c d : Nat} {z : Int} (ac : Nat → Nat × ClassId) : ((([vR a, vI z, vR b, vR c, vR d] : List ab_V).map (cv ac)).map fun v => v.category).sum ≤ 8 := by
  exact Nat.le_of_ble_eq_true rfl
end Deep

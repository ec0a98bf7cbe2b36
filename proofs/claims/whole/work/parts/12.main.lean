/-! calls: a method's contract out of its abstract run -/
theorem pcN_0 (y : Nat) : pcN y 0 = 0 := by
  unfold pcN
  cases mC y <;> rfl
def tbg : List Jvm.Cond := lw_tbl.filter goodWord
theorem tbg_mem {w : Jvm.Cond} (h : w ∈ lw_tbl) (hg : goodWord w = true) : w ∈ tbg := List.mem_filter.mpr ⟨h, hg⟩
theorem sm_N.same {u U : State} (h : u.vm = U.vm) (q : sm_N u) : sm_N U := ⟨va_AO.moved (by rw [← h]; exact Vm.Alike.refl _) q.1, fun a i x z hm => va_Nw.same rfl h (q.2.1 a i x z hm), fun a i b n d z hm => va_Nw.same rfl h (q.2.2 a i b n d z hm)⟩
theorem ab_sec_len {ac : Nat → Nat × ClassId} (a : ab_V) (l : List ab_V) : (ab_sec a l).length = (if (cv ac a).category = 2 then 1 else 0) + l.length := by
  match a with
  | .inl z => simp [ab_sec, cv, Value.category]
  | .inr (.inl z) => simp [ab_sec, cv, Value.category]; omega
  | .inr (.inr (some k)) => simp [ab_sec, cv, Value.category]
  | .inr (.inr none) => simp [ab_sec, cv, Value.category]
theorem sl_len (ac : Nat → Nat × ClassId) (as : List ab_V) : (lg_sl (as.map (cv ac))).length = (ab_fl as).length := by
  induction as with
  | nil => rfl
  | cons a r ih =>
    have e : lg_sl ((a :: r).map (cv ac)) = (if (cv ac a).category = 2 then [.val (cv ac a), .second] else [.val (cv ac a)]) ++ lg_sl (r.map (cv ac)) := by simp [lg_sl]
    rw [e, List.length_append, ih]
    show _ = (ab_sec a (ab_fl r)).length + 1
    rw [ab_sec_len (ac := ac)]
    split <;> simp <;> omega
theorem fl_args (ac : Nat → Nat × ClassId) (as : List ab_V) : ∀ (i0 j : Nat) (v : ab_V), (ab_fl as)[j]? = some v → v ≠ vU → (i0 + j, cv ac v) ∈ lv_args i0 (as.map (cv ac)) := by
  induction as with
  | nil => intro i0 j v h; simp [ab_fl] at h
  | cons a r ih =>
    intro i0 j v h hv
    cases j with
    | zero =>
      simp [ab_fl] at h
      subst h
      exact List.mem_cons_self
    | succ j =>
      have h : (ab_sec a (ab_fl r))[j]? = some v := by simpa [ab_fl] using h
      refine List.mem_cons_of_mem _ ?_
      match a, h with
      | .inl z, h =>
        have := ih (i0 + 1) j v h hv
        rw [show i0 + (j + 1) = i0 + 1 + j by omega]
        exact this
      | .inr (.inl z), h =>
        cases j with
        | zero =>
          simp [ab_sec] at h
          exact absurd h.symm hv
        | succ j =>
          have h : (ab_fl r)[j]? = some v := by simpa [ab_sec] using h
          have := ih (i0 + 2) j v h hv
          rw [show i0 + (j + 1 + 1) = i0 + 2 + j by omega]
          exact this
      | .inr (.inr (some k)), h =>
        have := ih (i0 + 1) j v h hv
        rw [show i0 + (j + 1) = i0 + 1 + j by omega]
        exact this
      | .inr (.inr none), h =>
        have := ih (i0 + 1) j v h hv
        rw [show i0 + (j + 1) = i0 + 1 + j by omega]
        exact this
theorem lo_entry {ac : Nat → Nat × ClassId} {as : List ab_V} {N : Nat} (hN : (ab_fl as).length ≤ N) : sm_L N ((lg_sl (as.map (cv ac)) ++ List.replicate (N - (lg_sl (as.map (cv ac))).length) Slot.unset).toArray) ac (ab_lo N as) := by
  have h := lv_entry (as.map (cv ac)) (n := N) (by rw [sl_len]; exact hN)
  refine ⟨h.1, h.2.1, by simp [ab_lo]; omega, fun i v hi hv => ?_⟩
  unfold ab_lo at hi
  by_cases hl : i < (ab_fl as).length
  · rw [List.getElem?_append_left hl] at hi
    have := fl_args ac as 0 i v hi hv
    rw [Nat.zero_add] at this
    exact h.2.2 _ this
  · rw [List.getElem?_append_right (by omega)] at hi
    have := List.mem_of_getElem? hi
    exact absurd (List.mem_replicate.mp this).2 hv
theorem fl_ok {N : Nat} {as : List ab_V} (h : ∀ v ∈ as, ab_ok N v) : ∀ v ∈ ab_fl as, ab_ok N v := by
  induction as with
  | nil => intro v hv; simp [ab_fl] at hv
  | cons a r ih =>
    have h2 := ih (al_cons.mp h).2
    refine al_cons.mpr ⟨(al_cons.mp h).1, ?_⟩
    match a with
    | .inl z => exact h2
    | .inr (.inl z) => exact al_cons.mpr ⟨trivial, h2⟩
    | .inr (.inr (some k)) => exact h2
    | .inr (.inr none) => exact h2
theorem lo_ok {N n : Nat} {as : List ab_V} (h : ∀ v ∈ as, ab_ok N v) : ∀ v ∈ ab_lo n as, ab_ok N v := by
  intro v hv
  rcases List.mem_append.mp hv with q | q
  · exact fl_ok h v q
  · rw [(List.mem_replicate.mp q).2]
    exact trivial
def cPc (args : List ab_V) (h : ab_H) (dC : Nat → ClassId) (dI : Nat → Nat → Nat) (base : Nat) (ac : Nat → Nat × ClassId) : Array Value → State → Prop := fun v U => v = (args.map (cv ac)).toArray ∧ base ≤ U.heap.size ∧ sm_N U ∧ sm_R dC dI base ac U U.heap h
def cQc (h : ab_H) (Q : Option ab_V → ab_H → Prop) (dC : Nat → ClassId) (dI : Nat → Nat → Nat) (base : Nat) (ac : Nat → Nat × ClassId) : Array Value → State → Outcome → State → Prop := fun _ st o t => ∃ (v : Option ab_V) (h' : ab_H) (ac' : Nat → Nat × ClassId), o = .returned (v.map (cv ac')) ∧ Q v h' ∧ sm_R dC dI base ac' t t.heap h' ∧ (∀ w, v = some w → ab_ok h'.1.1 w) ∧ h.1.1 ≤ h'.1.1 ∧ (∀ k, k < h.1.1 ∨ 1000 ≤ k → ac' k = ac k) ∧ va_F (fun q => base ≤ q) st t
theorem cPc_blind {args : List ab_V} {h : ab_H} {dC : Nat → ClassId} {dI : Nat → Nat → Nat} {base : Nat} {ac : Nat → Nat × ClassId} : FrameBlind (cPc args h dC dI base ac) := fun a U g mk q => ⟨q.1, q.2.1, sm_N.same (u := U) (U := U.calling g mk a) rfl q.2.2.1, sm_R.moved (u := U) (U := U.calling g mk a) (Vm.Alike.refl U.vm) q.2.2.2⟩
abbrev cWs (z : Nat) : List Jvm.Cond := Jvm.Cond.code (mN z) (mB z) (mL z) (mT z) :: tbg
theorem nN {z : Nat} (h4 : 4 ≤ z) (hz : z < 189) : Jvm.Cond.initialized (mN z).cls ∈ lw_tbl ∧ (if mKd z = 1 then Jvm.Cond.static (mN z) ∈ lw_tbl else Jvm.Cond.instanceMethod (mN z) ∈ lw_tbl) ∧ (mKd z = 0 → Jvm.Cond.selects (mN z).cls (mN z) (mN z) ∈ lw_tbl) ∧ plainName (mN z).cls = true ∧ ((mN z).cls ≠ "java/lang/invoke/MethodHandle" ∧ (mN z).cls ≠ "java/lang/invoke/VarHandle") ∧ (parseMethodDescriptor (mN z).desc).map (fun d => d.parameters.length) = some (mNp z) ∧ (mKd z = 2 ↔ (mN z).name = "<init>") := by
  have h := ck_N z h4 hz
  unfold okN at h
  simp only [Bool.and_eq_true, decide_eq_true_eq] at h
  obtain ⟨⟨⟨⟨⟨⟨h1, h2⟩, h3⟩, h4⟩, h5⟩, h6⟩, h7⟩ := h
  refine ⟨ix_mem h1, ?_, fun q => ?_, h4, h5, h6, h7⟩
  · split at h2
    · rename_i q
      rw [if_pos q]
      exact ix_mem h2
    · rename_i q
      rw [if_neg q]
      exact ix_mem h2
  · rw [if_pos q] at h3
    exact ix_mem h3
theorem sm_met {z : Nat} {args : List ab_V} {h : ab_H} {Q : Option ab_V → ab_H → Prop} (h4 : 4 ≤ z) (hz : z < 189) (k : Con z args h Q) (hfl : (ab_fl args).length ≤ mL z) (hok : ∀ v ∈ args, ab_ok h.1.1 v) (l : Launch) (dC : Nat → ClassId) (dI : Nat → Nat → Nat) (base : Nat) (ac : Nat → Nat × ClassId) : Met l (mN z) (cWs z) (mRm z) (cPc args h dC dI base ac) (cQc h Q dC dI base ac) (mRm z).cells (mRm z).slots (fun q => base ≤ q) := by
  refine Met.ofW (cc := mB z) (maxL := mL z) (ret := mT z) (nN h4 hz).2.2.2.1 rfl ?_
  intro p e s m args' below meth c s₁ B hml hv
  obtain ⟨rfl, hbase, hN, hR⟩ := hv
  have hts : ∀ w ∈ cWs z, w.before ((args.map (cv ac)).toArray) s = true := atoms_spec (ws := cWs z) B.pre
  have hlocks := B.notSynchronized
  have hC : sm_C z p s m ((args.map (cv ac)).toArray) meth c := ⟨B.exec, B.bytes, hml, findClass_of_methodNamed B.named, fun w hw hg => hts w (List.mem_cons_of_mem _ (tbg_mem hw hg)), hN, fun hi => by rw [(name_of_methodNamed B.named B.method).1]; exact hi⟩
  rw [lg_entry_eq]
  have hRet : sm_Ret z Q p l e s m ((args.map (cv ac)).toArray) below meth c dC dI base (MQ below (cQc h Q dC dI base ac) ((args.map (cv ac)).toArray) s (mRm z).cells (mRm z).slots (fun q => base ≤ q)) ac h.1.1 := by
    intro v h' u' ac' H' locs' ls pc hq hu hR' hS' hv hn hac hr
    refine W.widen hu.1 hu.2 ?_
    have hqc : ∀ t : State, t.heap = H' → s.WarmedH t.vm → cQc h Q dC dI base ac ((args.map (cv ac)).toArray) s (.returned (v.map (cv ac'))) t := fun t ht hW => ⟨v, h', ac', rfl, hq, by rw [ht]; exact hR'.moved hW.alike, hv, hn, hac, hS'.F ht⟩
    match v, hr, hqc with
    | none, hr, hqc => exact W.vret B.exec B.bytes (by rw [B.returns]; exact hr.1) hqc hS'.2.2 hr.2
    | some (.inl x), hr, hqc =>
      rcases hr.2 with ht | ⟨ht, h01⟩
      · exact W.iret B.exec B.bytes (by rw [B.returns]; exact ht) hqc hS'.2.2 hr.1
      · exact W.zret (ty := .boolean) B.exec B.bytes (by rw [B.returns]; exact ht) (by rcases h01 with rfl | rfl <;> rfl) hqc hS'.2.2 hr.1
    | some (.inr (.inl x)), hr, hqc => exact W.lret B.exec B.bytes (by rw [B.returns]; exact hr.1) hqc hS'.2.2 hr.2
  have := k p l e s m ((args.map (cv ac)).toArray) below meth c dC dI base _ hC hbase ac s.heap [] _ hRet hR va_S.rf (lo_entry hfl) (lo_ok hok) (fun v hv => absurd hv List.not_mem_nil) ⟨Nat.zero_le _, Nat.zero_le _⟩
  rw [pcN_0] at this
  exact this
/-- behind a call -/
theorem sm_after {p : Program} {l : Launch} {e : Env} {R : Room} {s : State} {m : MethodId} {args : Array Value} {below : List Frame} {meth : Method} {c : Code} {H : Heap} {locs : List Loc} {cells slots mc ms pc : Nat} {Z : State → Prop} {ls : Array Slot} {st0 rest : List Value} {a : Array Value} {h : ab_H} {Q : Option ab_V → ab_H → Prop} {dC : Nat → ClassId} {dI : Nat → Nat → Nat} {base : Nat} {ac : Nat → Nat × ClassId}
    (hr : va_Run p l e R s m args below meth c H locs cells slots mc ms (F0 m pc ls st0) rest (cQc h Q dC dI base ac a) (fun q => base ≤ q)) (hS : va_S (fun q => base ≤ q) s.heap H locs)
    (kk : ∀ (v : Option ab_V) (h' : ab_H) (ac' : Nat → Nat × ClassId) (H1 : Heap) (locs1 : List Loc), Q v h' → sm_R dC dI base ac' s H1 h' → va_S (fun q => base ≤ q) s.heap H1 locs1 → (∀ w, v = some w → ab_ok h'.1.1 w) → h.1.1 ≤ h'.1.1 → (∀ k, k < h.1.1 ∨ 1000 ≤ k → ac' k = ac k) → W p l e R s m args below meth c H1 locs1 (cells + mc) (slots + ms) Z (F0 m (pc + 3) ls ((v.map (cv ac')).toList ++ rest))) : W p l e R s m args below meth c H locs cells slots Z (F0 m pc ls st0) := by
  intro T hT X
  obtain ⟨v, st₀, t, T', L, h0, X', hL, e1, e2, ⟨w, h', ac', hv, hq, hR', hok, hn, hac, hz, hk⟩, st⟩ := hr T hT X
  cases hv
  rw [h0] at hz hk
  have hal : t.vm.Alike s.vm := by rw [← e2]; exact X'.warmed.alike.symm
  obtain ⟨t2, a1, b1⟩ := kk w h' ac' T'.heap (locs ++ L) hq (by rw [e1]; exact hR'.moved hal)
    ⟨Nat.le_trans hS.1 (by rw [e1]; exact hz), fun q h1 h2 => by rw [e1, hk q (Nat.lt_of_lt_of_le h1 hS.1) h2]; exact hS.2.1 q h1 h2, fun q hq => by
      rcases List.mem_append.mp hq with g | g
      · exact hS.2.2 q g
      · exact hL q g⟩ hok hn hac T' rfl X'
  exact ⟨t2, st t2 a1, b1⟩
theorem go_tbg {z : Nat} (h4 : 4 ≤ z) (hz : z < 189) : GoodIn tbg (cWs z) := by
  intro w hw
  rcases List.mem_cons.mp hw with rfl | hw
  · exact ⟨tbg_mem (ck_C z h4 hz) rfl, good_of_word rfl⟩
  · exact ⟨hw, good_of_word (List.mem_filter.mp hw).2⟩
theorem okCall_spec {y z idx na rk t ne ml kc kd : Nat} (h : okCall y z idx na rk t ne ml kc kd = true) : (Jvm.Cond.methodLinkNest (mN y).cls idx (mN z) "PolesInALake" ∈ lw_tbl ∨ Jvm.Cond.methodLink (mN y).cls idx (mN z) ∈ lw_tbl) ∧ mKd z = kd ∧ (4 ≤ z ∧ z < 189) ∧ na = mNp z + (if kd = 1 then 0 else 1) ∧ (mRm z).frames + 1 ≤ (mRm y).frames ∧ 8 + (mL z + 11) + (mRm z).locals ≤ (mRm y).locals ∧ (rk ≠ 3 → (mRm z).cells = 0 ∧ (mRm z).slots = 0) ∧ ml = mL z ∧ (kd = 1 ∨ (3 ≤ kc ∧ kc < 11 ∧ cN (kc - 3) = (mN z).cls)) := by
  unfold okCall at h
  simp only [Bool.and_eq_true, decide_eq_true_eq] at h
  obtain ⟨⟨⟨⟨⟨⟨⟨⟨⟨⟨⟨h1, h2⟩, h3⟩, h4⟩, h5⟩, h6⟩, h7⟩, h8⟩, h9⟩, h10⟩, h11⟩, h12⟩ := h
  refine ⟨?_, h2, h3, h4, h5, h6, h10, h11, h12⟩
  split at h1
  · exact Or.inl (ix_mem h1)
  · exact Or.inr (ix_mem h1)
theorem ck_init : ∀ z, z < 189 → mKd z = 2 → mT z = none := by decide +kernel
section Steps
variable {y n pc len : Nat} {ax : List Nat} {ct : ab_C} {K : Nat → ab_C} {lo st : List ab_V} {h : ab_H} {u : Nat × Nat} {Q : Option ab_V → ab_H → Prop}
/-- a call, of any kind: the machine's run of it, what is on the stack behind it -/
theorem s_callG {z na rk ml kc : Nat} (hz : 4 ≤ z ∧ z < 189) (hml : ml = mL z) (hrk : rk ≠ 3 → (mRm z).cells = 0 ∧ (mRm z).slots = 0) (hnx : pcN y (n + 1) = pcN y n + 3)
    (run : ∀ (Qz : Option ab_V → ab_H → Prop) (p : Program) (l : Launch) (e : Env) (s : State) (m : MethodId) (args : Array Value) (below : List Frame) (meth : Method) (cd : Code) (dC : Nat → ClassId) (dI : Nat → Nat → Nat) (base : Nat) (ac : Nat → Nat × ClassId) (H : Heap) (locs : List Loc) (ls : Array Slot), Met l (mN z) (cWs z) (mRm z) (cPc (st.take na).reverse h dC dI base ac) (cQc h Qz dC dI base ac) (mRm z).cells (mRm z).slots (fun q => base ≤ q) → sm_C y p s m args meth cd → base ≤ H.size → sm_R dC dI base ac s H h → ls.size = mL y → u.1 + (mRm z).cells ≤ (mRm y).cells ∧ u.2 + (mRm z).slots ≤ (mRm y).slots → (st.drop na).length ≤ 4 → na ≤ st.length → (kc = 0 ∨ ∃ i, (st.take na).getLast? = some (.inr (.inr (some i))) ∧ i < h.1.1 ∧ (h.1.2.1 i).1 = kc) → va_Run p l e (mRm y) s m args below meth cd H locs u.1 u.2 (mRm z).cells (mRm z).slots (F0 m (pcN y n) ls (st.map (cv ac))) ((st.drop na).map (cv ac)) (cQc h Qz dC dI base ac (((st.take na).reverse.map (cv ac)).toArray)) (fun q => base ≤ q))
    (hc : ∀ lo st h u, ct lo st h u → Sem y (n + 1) lo st h u Q) (hw : wCall y z na rk ml kc ct lo st h u) : Sem y n lo st h u Q := by
  obtain ⟨⟨h4, hna, hfl⟩, hrecv, hw⟩ := hw
  subst hml
  intro p l e s m args below meth cd dC dI base Z hC hb ac H locs ls hRet hR hS hL hlo hst hu
  have hargs : ∀ v ∈ (st.take na).reverse, ab_ok h.1.1 v := fun v hv => hst v (List.mem_of_mem_take (List.mem_reverse.mp hv))
  have hrest : ∀ v ∈ st.drop na, ab_ok h.1.1 v := fun v hv => hst v (List.mem_of_mem_drop hv)
  have go : ∀ (Qz : Option ab_V → ab_H → Prop), Con z (st.take na).reverse h Qz → (u.1 + (mRm z).cells ≤ (mRm y).cells ∧ u.2 + (mRm z).slots ≤ (mRm y).slots) → (∀ v h', Qz v h' → h.1.1 ≤ h'.1.1 → (∀ w, v = some w → ab_ok h'.1.1 w) → Sem y (n + 1) lo (v.toList ++ st.drop na) h' (u.1 + (mRm z).cells, u.2 + (mRm z).slots) Q) → W p l e (mRm y) s m args below meth cd H locs u.1 u.2 Z (F0 m (pcN y n) ls (st.map (cv ac))) := by
    intro Qz kz hroom kk
    refine sm_after (run Qz p l e s m args below meth cd dC dI base ac H locs ls (sm_met hz.1 hz.2 kz hfl hargs l dC dI base ac) hC (Nat.le_trans hb hS.1) hR hL.1 hroom h4 hna hrecv) hS (fun v h' ac' H1 locs1 hq hR1 hS1 hv hn hac => ?_)
    have := kk v h' hq hn hv p l e s m args below meth cd dC dI base Z hC hb ac' H1 locs1 ls (hRet.to hn hac) hR1 hS1 (hL.to hlo hac) (fun v hv => ok_mono hn (hlo v hv)) (fun w hw => by
      rcases List.mem_append.mp hw with g | g
      · exact hv w (Option.mem_toList.mp g)
      · exact ok_mono hn (hrest w g)) hroom
    rw [hnx, List.map_append, cv_map hrest hac] at this
    rw [show (v.map (cv ac')).toList = v.toList.map (cv ac') by cases v <;> rfl]
    exact this
  match rk, hw, hrk with
  | 0, hw, hrk =>
    obtain ⟨e1, e2⟩ := hrk (by decide)
    refine go _ hw (by rw [e1, e2]; exact hu) (fun v h' q hn hv => ?_)
    obtain ⟨D', rfl, rfl, q⟩ := q
    rw [e1, e2]
    exact hc _ _ _ _ q
  | 1, hw, hrk =>
    obtain ⟨e1, e2⟩ := hrk (by decide)
    refine go _ hw (by rw [e1, e2]; exact hu) (fun v h' q hn hv => ?_)
    obtain ⟨x, D', rfl, rfl, q⟩ := q
    rw [e1, e2]
    exact hc _ _ _ _ q
  | 2, hw, hrk =>
    obtain ⟨e1, e2⟩ := hrk (by decide)
    refine go _ hw (by rw [e1, e2]; exact hu) (fun v h' q hn hv => ?_)
    obtain ⟨x, D', rfl, rfl, q⟩ := q
    rw [e1, e2]
    exact hc _ _ _ _ q
  | rk + 3, hw, hrk =>
    refine go _ hw.2 hw.1 (fun v h' q hn hv => ?_)
    obtain ⟨rfl, q⟩ := q
    exact hc _ _ _ _ q.2
theorem st_split (st : List ab_V) (na : Nat) (ac : Nat → Nat × ClassId) : st.map (cv ac) = ((st.take na).reverse.map (cv ac)).reverse ++ (st.drop na).map (cv ac) := by
  rw [← List.map_reverse, List.reverse_reverse, ← List.map_append, List.take_append_drop]
theorem mts {args : Array Value} {s : State} {p : Program} {m : MethodId} {meth : Method} {cd : Code} (hC : sm_C y p s m args meth cd) : ∀ w ∈ tbg, w.before args s = true := fun w hw => hC.2.2.2.2.1 w (List.mem_filter.mp hw).1 (List.mem_filter.mp hw).2
theorem x_call {i : Instr} {kd idx : Nat} {z na rk t ne ml kc : Nat} (hi : (i = .invokevirtual idx ∧ kd = 0) ∨ (i = .invokestatic idx ∧ kd = 1) ∨ (i = .invokespecial idx ∧ kd = 2)) (hh : okX y (pc, i, len, [z, na, rk, t, ne, ml, kc]) = true) : len = 3 ∧ okCall y z idx na rk t ne ml kc kd = true := by
  rcases hi with ⟨rfl, rfl⟩ | ⟨rfl, rfl⟩ | ⟨rfl, rfl⟩ <;> rcases len with _ | _ | _ | _ | len
  all_goals first | exact absurd (show false = true from hh) (by decide) | exact ⟨rfl, hh⟩
theorem rest8 {ac : Nat → Nat × ClassId} {m : MethodId} {pc : Nat} {ls : Array Slot} {r : List Value} {q : List ab_V} (h : q.length ≤ 4) : 2 * (F0 m pc ls r).monitorRoom + ((q.map (cv ac)).map fun v => v.category).sum ≤ 8 := lv_room (by have := cat_le ac q; omega)
theorem s_static {idx z na rk t ne ml kc : Nat} (F : Fq y n (pc, .invokestatic idx, len, [z, na, rk, t, ne, ml, kc])) (hc : ∀ lo st h u, ct lo st h u → Sem y (n + 1) lo st h u Q) (hw : wI y Q K (pc, .invokestatic idx, len, [z, na, rk, t, ne, ml, kc]) ct lo st h u) : Sem y n lo st h u Q := by
  obtain ⟨rfl, hk⟩ := x_call (kd := 1) (Or.inr (Or.inl ⟨rfl, rfl⟩)) F.x
  obtain ⟨hlink, hkd, hz, hna, hfr, hlc, hrk, hml, hkc⟩ := okCall_spec hk
  obtain ⟨n1, n2, n3, n4, n5, n6, n7⟩ := nN hz.1 hz.2
  rw [if_pos hkd] at n2
  refine s_callG hz hml hrk F.nx (fun Qz p l e s m args below meth cd dC dI base ac H locs ls hM hC hbH hR hls hroom h4 hnl hrecv => ?_) hc hw
  have hts := hC.2.2.2.2.1
  have hp : PreS s H (cPc (st.take na).reverse h dC dI base ac) ((st.take na).reverse.map (cv ac)) := ⟨cPc_blind, fun U hU hW => ⟨rfl, by rw [hU]; exact hbH, hC.2.2.2.2.2.1.warm hW, by rw [hU]; exact hR.moved hW.alike⟩⟩
  have hlen : ((st.take na).reverse.map (cv ac)).length = mNp z := by simp; rw [if_pos rfl] at hna; omega
  have S : CallFix p m cd (mB y) (mL y) s args tbg (mN y).cls := ⟨hC.1, hC.2.1, hC.2.2.1, hC.2.2.2.1, mts hC⟩
  rcases hlink with hl | hl
  · exact va_runSN S hM ⟨va_cnB (mNp z) (mts hC) (go_tbg hz.1 hz.2) rfl rfl rfl (hC.2.2.2.2.2.1.2.1 _ _ _ _ hl) (hts _ n1 rfl) ⟨n5.1, n5.2, n6⟩ ⟨hfr, hlc⟩, hts _ n2 rfl, trivial⟩ hp rfl hlen hls (st_split st na ac) (rest8 h4) F.dec hroom
  · exact va_runS S hM ⟨callB_of (mNp z) (mts hC) (go_tbg hz.1 hz.2) rfl rfl rfl (hts _ n1 rfl) (hts _ hl rfl) ⟨n5.1, n5.2, n6⟩ ⟨hfr, hlc⟩, hts _ n2 rfl⟩ hp rfl hlen hls (st_split st na ac) (rest8 h4) F.dec hroom
theorem last_split {L : List ab_V} {i : Nat} (h : L.getLast? = some (.inr (.inr (some i)))) : ∃ L', L = L' ++ [.inr (.inr (some i))] := by
  obtain ⟨L', h'⟩ := List.getLast?_eq_some_iff.mp h
  exact ⟨L', h'⟩
theorem s_virtual {idx z na rk t ne ml kc : Nat} (F : Fq y n (pc, .invokevirtual idx, len, [z, na, rk, t, ne, ml, kc])) (hc : ∀ lo st h u, ct lo st h u → Sem y (n + 1) lo st h u Q) (hw : wI y Q K (pc, .invokevirtual idx, len, [z, na, rk, t, ne, ml, kc]) ct lo st h u) : Sem y n lo st h u Q := by
  obtain ⟨rfl, hk⟩ := x_call (kd := 0) (Or.inl ⟨rfl, rfl⟩) F.x
  obtain ⟨hlink, hkd, hz, hna, hfr, hlc, hrk, hml, hkc⟩ := okCall_spec hk
  obtain ⟨n1, n2, n3, n4, n5, n6, n7⟩ := nN hz.1 hz.2
  rw [if_neg (by rw [hkd]; decide)] at n2
  obtain ⟨k1, k2, k3⟩ : 3 ≤ kc ∧ kc < 11 ∧ cN (kc - 3) = (mN z).cls := by
    rcases hkc with q | q
    · exact absurd q (by decide)
    · exact q
  refine s_callG hz hml hrk F.nx (fun Qz p l e s m args below meth cd dC dI base ac H locs ls hM hC hbH hR hls hroom h4 hnl hrecv => ?_) hc hw
  have hts := hC.2.2.2.2.1
  rcases hrecv with q | ⟨i, hi1, hi2, hi3⟩
  · omega
  obtain ⟨L', hL'⟩ := last_split hi1
  have eA : (st.take na).reverse = .inr (.inr (some i)) :: L'.reverse := by rw [hL', List.reverse_append]; rfl
  rw [eA] at hM ⊢
  have hp : PreV s H (mN z).cls (ac i).1 (cPc (.inr (.inr (some i)) :: L'.reverse) h dC dI base ac) (L'.reverse.map (cv ac)) := by
    refine ⟨cPc_blind, ?_, fun U hU hW => ⟨rfl, by rw [hU]; exact hbH, hC.2.2.2.2.2.1.warm hW, by rw [hU]; exact hR.moved hW.alike⟩⟩
    have hcl : cls[kc - 3]? = some (cN (kc - 3), fT (kc - 3), nF (kc - 3)) := cls_at (by omega)
    have := va_recv hR.1 hR.2.1 hcl (q0 := i) (a := (ac i).1) (fs := (List.range (nF (kc - 3))).map (fun j => ab_fv ac h i (kc - 3) j)) (by rw [ab_ws_at hi2, enc_obj (c := kc - 3) (by omega)])
    rw [← k3]
    exact this
  have hlen0 : (st.take na).length = na := by rw [List.length_take]; omega
  have hlen : (L'.reverse.map (cv ac)).length = mNp z := by
    rw [hL', List.length_append] at hlen0
    rw [if_neg (by decide)] at hna
    simp at hlen0 ⊢
    omega
  have hstk : st.map (cv ac) = (L'.reverse.map (cv ac)).reverse ++ .ref (ac i).1 :: (st.drop na).map (cv ac) := by
    rw [st_split st na ac, eA]
    simp [cv]
  have S : CallFix p m cd (mB y) (mL y) s args tbg (mN y).cls := ⟨hC.1, hC.2.1, hC.2.2.1, hC.2.2.2.1, mts hC⟩
  rcases hlink with hl | hl
  · exact va_runVN (C := (mN z).cls) S hM ⟨va_cnB (mNp z) (mts hC) (go_tbg hz.1 hz.2) rfl rfl rfl (hC.2.2.2.2.2.1.2.1 _ _ _ _ hl) (hts _ n1 rfl) ⟨n5.1, n5.2, n6⟩ ⟨hfr, hlc⟩, hts _ n2 rfl, hts _ (n3 hkd) rfl⟩ hp rfl hlen hls hstk (rest8 h4) F.dec hroom
  · exact va_runV (C := (mN z).cls) S hM ⟨callB_of (mNp z) (mts hC) (go_tbg hz.1 hz.2) rfl rfl rfl (hts _ n1 rfl) (hts _ hl rfl) ⟨n5.1, n5.2, n6⟩ ⟨hfr, hlc⟩, hts _ n2 rfl, hts _ (n3 hkd) rfl⟩ hp rfl hlen hls hstk (rest8 h4) F.dec hroom
theorem s_special {idx z na rk t ne ml kc : Nat} (F : Fq y n (pc, .invokespecial idx, len, [z, na, rk, t, ne, ml, kc])) (hc : ∀ lo st h u, ct lo st h u → Sem y (n + 1) lo st h u Q) (hw : wI y Q K (pc, .invokespecial idx, len, [z, na, rk, t, ne, ml, kc]) ct lo st h u) : Sem y n lo st h u Q := by
  obtain ⟨rfl, hk⟩ := x_call (kd := 2) (Or.inr (Or.inr ⟨rfl, rfl⟩)) F.x
  obtain ⟨hlink, hkd, hz, hna, hfr, hlc, hrk, hml, hkc⟩ := okCall_spec hk
  obtain ⟨n1, n2, n3, n4, n5, n6, n7⟩ := nN hz.1 hz.2
  rw [if_neg (by rw [hkd]; decide)] at n2
  obtain ⟨k1, k2, k3⟩ : 3 ≤ kc ∧ kc < 11 ∧ cN (kc - 3) = (mN z).cls := by
    rcases hkc with q | q
    · exact absurd q (by decide)
    · exact q
  have hT : mT z = none := ck_init z hz.2 hkd
  refine s_callG hz hml hrk F.nx (fun Qz p l e s m args below meth cd dC dI base ac H locs ls hM hC hbH hR hls hroom h4 hnl hrecv => ?_) hc hw
  have hts := hC.2.2.2.2.1
  rcases hrecv with q | ⟨i, hi1, hi2, hi3⟩
  · omega
  obtain ⟨L', hL'⟩ := last_split hi1
  have eA : (st.take na).reverse = .inr (.inr (some i)) :: L'.reverse := by rw [hL', List.reverse_append]; rfl
  rw [eA] at hM ⊢
  have hp : PreS s H (cPc (.inr (.inr (some i)) :: L'.reverse) h dC dI base ac) (.ref (ac i).1 :: L'.reverse.map (cv ac)) :=
    ⟨cPc_blind, fun U hU hW => ⟨rfl, by rw [hU]; exact hbH, hC.2.2.2.2.2.1.warm hW, by rw [hU]; exact hR.moved hW.alike⟩⟩
  have hlen0 : (st.take na).length = na := by rw [List.length_take]; omega
  have hlen : (L'.reverse.map (cv ac)).length = mNp z := by
    rw [hL', List.length_append] at hlen0
    rw [if_neg (by decide)] at hna
    simp at hlen0 ⊢
    omega
  have hstk : st.map (cv ac) = (L'.reverse.map (cv ac)).reverse ++ .ref (ac i).1 :: (st.drop na).map (cv ac) := by
    rw [st_split st na ac, eA]
    simp [cv]
  have S : CallFix p m cd (mB y) (mL y) s args tbg (mN y).cls := ⟨hC.1, hC.2.1, hC.2.2.1, hC.2.2.2.1, mts hC⟩
  have hw0 : cWs z = Jvm.Cond.code (mN z) (mB z) (mL z) none :: tbg := by show _ :: _ = _; rw [hT]
  rcases hlink with hl | hl
  · exact va_runIN S hM ⟨va_cnB (mNp z) (mts hC) (go_tbg hz.1 hz.2) hw0 rfl rfl (hC.2.2.2.2.2.1.2.1 _ _ _ _ hl) (hts _ n1 rfl) ⟨n5.1, n5.2, n6⟩ ⟨hfr, hlc⟩, n7.mp hkd, hts _ n2 rfl⟩ hp rfl hlen hls hstk (rest8 h4) F.dec hroom
  · exact va_runI S hM ⟨callB_of (mNp z) (mts hC) (go_tbg hz.1 hz.2) hw0 rfl rfl (hts _ n1 rfl) (hts _ hl rfl) ⟨n5.1, n5.2, n6⟩ ⟨hfr, hlc⟩, n7.mp hkd, hts _ n2 rfl⟩ hp rfl hlen hls hstk (rest8 h4) F.dec hroom
/-- every instruction -/
theorem s_all {q : ab_I} (F : Fq y n q) (hc : ∀ lo st h u, ct lo st h u → Sem y (n + 1) lo st h u Q) (hK : ∀ t lo st h u, K t lo st h u → Sem y t lo st h u Q) (hw : wI y Q K q ct lo st h u) : Sem y n lo st h u Q := by
  obtain ⟨pc, i, len, ax⟩ := q
  have hX := F.x
  cases i with
  | iload_n k => exact s_iload_n F hc hw
  | aload_n k => exact s_aload_n F hc hw
  | lload_n k => exact s_lload_n F hc hw
  | iload k => exact s_iload F hc hw
  | aload k => exact s_aload F hc hw
  | lload k => exact s_lload F hc hw
  | istore_n k => exact s_istore_n F hc hw
  | astore_n k => exact s_astore_n F hc hw
  | lstore_n k => exact s_lstore_n F hc hw
  | istore k => exact s_istore F hc hw
  | astore k => exact s_astore F hc hw
  | lstore k => exact s_lstore F hc hw
  | iinc k z => exact s_iinc F hc hw
  | iconst z => exact s_iconst F hc hw
  | bipush z => exact s_bipush F hc hw
  | sipush z => exact s_sipush F hc hw
  | lconst z => exact s_lconst F hc hw
  | ldc2_w k => exact s_ldc2 F hc hw
  | iadd => exact s_iadd F hc hw
  | isub => exact s_isub F hc hw
  | imul => exact s_imul F hc hw
  | idiv => exact s_idiv F hc hw
  | irem => exact s_irem F hc hw
  | ineg => exact s_ineg F hc hw
  | iand => exact s_iand F hc hw
  | ior => exact s_ior F hc hw
  | ishl => exact s_ishl F hc hw
  | ishr => exact s_ishr F hc hw
  | lsub => exact s_lsub F hc hw
  | lmul => exact s_lmul F hc hw
  | ldiv => exact s_ldiv F hc hw
  | lrem => exact s_lrem F hc hw
  | land => exact s_land F hc hw
  | lor => exact s_lor F hc hw
  | lshl => exact s_lshl F hc hw
  | lshr => exact s_lshr F hc hw
  | lushr => exact s_lushr F hc hw
  | i2l => exact s_i2l F hc hw
  | l2i => exact s_l2i F hc hw
  | lcmp => exact s_lcmp F hc hw
  | dup => exact s_dup F hc hw
  | dup2 => exact s_dup2 F hc hw
  | pop => exact s_pop F hc hw
  | iaload => exact s_iaload F hc hw
  | iastore => exact s_iastore F hc hw
  | baload => exact s_baload F hc hw
  | bastore => exact s_bastore F hc hw
  | aaload => exact s_aaload F hc hw
  | aastore => exact s_aastore F hc hw
  | arraylength => exact s_alen F hc hw
  | ifCond c o => exact s_if F hc hK hw
  | if_icmp c o => exact s_icmp F hc hK hw
  | goto o => exact s_goto F hK hw
  | tableswitch d a b o => exact s_tab F hK hw
  | lookupswitch d o => exact s_lk F hK hw
  | getfield k => exact s_get F hc hw
  | putfield k => exact s_put F hc hw
  | getstatic k => exact s_gets F hc hw
  | new k => exact s_new F hc hw
  | newarray k => exact s_newa F hc hw
  | anewarray k => exact s_anew F hc hw
  | ireturn => exact s_iret F hw
  | lreturn => exact s_lret F hw
  | return_ => exact s_vret F hw
  | invokevirtual k =>
    rcases ax with _ | ⟨a1, _ | ⟨a2, _ | ⟨a3, _ | ⟨a4, _ | ⟨a5, _ | ⟨a6, _ | ⟨a7, _ | ⟨a8, ax⟩⟩⟩⟩⟩⟩⟩⟩
    all_goals first | exact False.elim hw | exact s_virtual F hc hw
  | invokespecial k =>
    rcases ax with _ | ⟨a1, _ | ⟨a2, _ | ⟨a3, _ | ⟨a4, _ | ⟨a5, _ | ⟨a6, _ | ⟨a7, _ | ⟨a8, ax⟩⟩⟩⟩⟩⟩⟩⟩
    all_goals first | exact False.elim hw | exact s_objInit F hc hw | exact s_special F hc hw
  | invokestatic k =>
    rcases ax with _ | ⟨a1, _ | ⟨a2, _ | ⟨a3, _ | ⟨a4, _ | ⟨a5, _ | ⟨a6, _ | ⟨a7, _ | ⟨a8, ax⟩⟩⟩⟩⟩⟩⟩⟩
    · exact False.elim hw
    · exact s_copy F hc hw
    · match a1, F, hw with
      | 0, F, hw => exact s_math0 F hc hw
      | 1, F, hw => exact s_math1 F hc hw
      | 2, F, hw => exact s_math2 F hc hw
      | 3, F, hw => exact s_math3 F hc hw
      | a + 4, F, hw => exact False.elim hw
    all_goals first | exact False.elim hw | exact s_static F hc hw
  | _ => exact False.elim hw
end Steps
/-- THE ABSTRACT MACHINE IS SOUND: what it asks of the code from n on suffices -/
theorem sm_sound {y n : Nat} (hy : 4 ≤ y ∧ y < 190) {lo st : List ab_V} {h : ab_H} {u : Nat × Nat} {Q : Option ab_V → ab_H → Prop} (hw : wB y Q (fun t lo st h u => Sem y t lo st h u Q) ((mC y).drop n) lo st h u) : Sem y n lo st h u Q := by
  have key : ∀ (r : List ab_I) (n : Nat) (lo st : List ab_V) (h : ab_H) (u : Nat × Nat), (mC y).drop n = r → wB y Q (fun t lo st h u => Sem y t lo st h u Q) r lo st h u → Sem y n lo st h u Q := by
    intro r
    induction r with
    | nil => intro n lo st h u _ hw; exact hw.elim
    | cons q r ih =>
      intro n lo st h u hr hw
      have hq : (mC y)[n]? = some q := by
        have := congrArg (fun l => l[0]?) hr
        simpa using this
      have hr' : (mC y).drop (n + 1) = r := by
        have := congrArg List.tail hr
        simpa using this
      exact s_all (F := ⟨hy, hq⟩) (fun lo st h u k => ih (n + 1) lo st h u hr' k) (fun t lo st h u k => k) hw
  exact key _ n lo st h u rfl hw

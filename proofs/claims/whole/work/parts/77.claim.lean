/-! THE CLAIM OUT OF ONE WALK OF THE LAW'S BODY. Your part is whole_start (and what it stands on); all else here is the same for every law, but numbers. -/
def R_law : String := "PolesInALakeLaw"
def lw_P (b : Addr) (xs : List Int32) (args : Array Value) (s : State) : Prop := args = #[.ref b] ∧ s.IntsAt b xs ∧ xs.length ≤ 2560 ∧ (Jvm.Cond.and given_1 narrow_1).before args s = true
def lw_Q (_ : Array Value) (s : State) (o : Outcome) (t : State) : Prop := o = .returned (some (.int 1)) ∧ Framed s o t [] 88 2658
def lw_Z (below : List Frame) (a : Array Value) (s : State) : State → Prop := fun t => ∃ o, t.status = .running ∧ Ended t below o ∧ lw_Q a s o t
/-- the law's own end, with 1 on the stack, nothing written that was there before, its room as the claim has it -/
theorem lw_ret {p : Program} {l : Launch} {e : Env} {s : State} {m : MethodId} {below : List Frame} {meth : Method} {c : Code} {b : Nat} (hx : p.tables.exec = Jvm.exec) (hb : c.code = code) (hr : meth.sig.returnType = ret) (hlocks : meth.locks = false) {pc : Nat} {H : Heap} {ls : Array Slot} (hdg : decode code pc = .ok (.ireturn, 1)) : W p l e room_1 s m #[Value.ref b] below meth c H [] 88 2658 (lw_Z below #[Value.ref b] s) (F0 m pc ls [.int 1]) := by
  intro T hT X
  obtain ⟨fs, hret, hrun, hended, hW, hframe⟩ := X.leave (v := some (.int 1)) (hlocks := hlocks) (fun h => by rw [hr] at h; cases h)
  have hmeth' : T.vm.method? m = some meth := X.method'
  refine ⟨T.setFrames fs, ?_, .returned (some (.int 1)), hrun, hended, rfl, ⟨_, rfl⟩, hW, hframe⟩
  jvm_step X.here [X.here.top, hx, hb, hdg, hmeth', hr, ret, narrow_b1]
  (try refine ⟨rfl, ?_⟩); (try refine ⟨rfl, ?_⟩)
  first | (intro acts; rw [hret _ acts rfl rfl rfl]) | rw [hret _ _ rfl rfl rfl]
  exact Steps.refl _
/-- what holds at the law's entry: the machine, the code, the tables' words (any of lw_tbl by 'hts w (by decide +kernel)'), the script of L ints xs at the cell b, what the Statement gives of the start (any of its parts by flat_of_before) -/
def lw_At (p : Program) (s : State) (m : MethodId) (meth : Method) (c : Code) (b L : Nat) (xs : Nat → Int32) : Prop :=
  p.tables.exec = Jvm.exec ∧ c.code = code ∧ meth.sig.returnType = ret ∧ c.maxLocals = 4 ∧ s.vm.findClass R_law = some m.cls ∧ (∀ w ∈ lw_tbl, w.before #[Value.ref b] s = true) ∧ va_X b L xs s s.heap ∧ b < s.heap.size ∧ meth.locks = false ∧ (Jvm.Cond.and given_1 narrow_1).before #[Value.ref b] s = true
/-- the two tables of the class -/
def eT (j : Nat) : Int32 := match j with
  | 0 => 2
  | 1 => 1
  | 2 => 4
  | 3 => 5
  | 4 => 0
  | _ => 5
def tT (j : Nat) : Int32 := match j with
  | 0 => 1
  | 1 => 10
  | 2 => 100
  | 3 => 1000
  | 4 => 10000
  | 5 => 100000
  | 6 => 1000000
  | 7 => 10000000
  | 8 => 100000000
  | _ => 1000000000
/-- the numbers at the start: the script, the tables -/
def D0 (xs : Nat → Int32) : ab_D := fun k j => if k = 1000 then (xs j).toInt else if k = 1001 then (eT j).toInt else if k = 1002 then (tT j).toInt else 0
theorem D0_ok {xs : Nat → Int32} (k j : Nat) : i32 (D0 xs k j) := by
  unfold D0
  split
  · exact n_of _
  · split
    · exact n_of _
    · split
      · exact n_of _
      · exact n_i0
theorem D0_E {xs : Nat → Int32} : pE (D0 xs) := ⟨⟨rfl, rfl, rfl, rfl, rfl, rfl, rfl, rfl⟩, fun j hj => by
  have : j = 0 ∨ j = 1 ∨ j = 2 ∨ j = 3 ∨ j = 4 ∨ j = 5 ∨ j = 6 ∨ j = 7 ∨ j = 8 ∨ j = 9 := by omega
  rcases this with rfl | rfl | rfl | rfl | rfl | rfl | rfl | rfl | rfl | rfl <;> rfl⟩
theorem ins_8 : ∀ c, c < 8 → Jvm.Cond.instantiable (cN c) (nF c) ∈ lw_tbl := by decide +kernel
theorem tm_E {args : Array Value} {s : State} (hf : ∀ c ∈ flatC (Jvm.Cond.and given_1 narrow_1), c.before args s = true) : ∀ j : Nat, j < 8 → (Term.elem (.static "PolesInALake" "ELSE" "[I") (.int (Int32.ofNat j))).eval args s none [] s = some (.int (eT j)) := by
  intro j hj
  have : j = 0 ∨ j = 1 ∨ j = 2 ∨ j = 3 ∨ j = 4 ∨ j = 5 ∨ j = 6 ∨ j = 7 := by omega
  rcases this with rfl | rfl | rfl | rfl | rfl | rfl | rfl | rfl <;> exact va_eqt (hf _ (by decide +kernel))
theorem tm_T {args : Array Value} {s : State} (hf : ∀ c ∈ flatC (Jvm.Cond.and given_1 narrow_1), c.before args s = true) : ∀ j : Nat, j < 10 → (Term.elem (.static "PolesInALake" "TENS" "[I") (.int (Int32.ofNat j))).eval args s none [] s = some (.int (tT j)) := by
  intro j hj
  have : j = 0 ∨ j = 1 ∨ j = 2 ∨ j = 3 ∨ j = 4 ∨ j = 5 ∨ j = 6 ∨ j = 7 ∨ j = 8 ∨ j = 9 := by omega
  rcases this with rfl | rfl | rfl | rfl | rfl | rfl | rfl | rfl | rfl | rfl <;> exact va_eqt (hf _ (by decide +kernel))
theorem known_8 {args : Array Value} {s : State} (hts : ∀ w ∈ lw_tbl, w.before args s = true) : ∃ (dC : Nat → ClassId) (dI : Nat → Nat → Nat), va_K (dC, dI) cls [] s := by
  have h1 : ∀ c, c < 8 → ∃ (q : ClassId × (Nat → Nat)), u_Kn s (cN c) (fT c) (nF c) q.1 q.2 := by
    intro c hc
    obtain ⟨cC, iS, h⟩ := u_known (C := cN c) (T := fT c) (N := nF c) (n := nF c) hts (fun w hw => by
      have := List.all_eq_true.mp (ck_u c hc) w hw
      simp only [Bool.and_eq_true, decide_eq_true_eq] at this
      exact this.1) (hts _ (ins_8 c hc))
    exact ⟨(cC, iS), h⟩
  obtain ⟨q0, h0⟩ := h1 0 (by decide)
  have h2 : ∀ c, ∃ (q : ClassId × (Nat → Nat)), c < 8 → u_Kn s (cN c) (fT c) (nF c) q.1 q.2 := fun c => by
    by_cases hc : c < 8
    · obtain ⟨q, h⟩ := h1 c hc
      exact ⟨q, fun _ => h⟩
    · exact ⟨q0, fun h => absurd h hc⟩
  refine ⟨fun c => (h2 c).choose.1, fun c => (h2 c).choose.2, fun c q hq => ?_, fun k q h => by simp at h⟩
  by_cases hc : c < 8
  · rw [cls_at hc] at hq
    cases hq
    exact (h2 c).choose_spec hc
  · have : cls[c]? = none := List.getElem?_eq_none (by show 8 ≤ c; omega)
    rw [this] at hq
    cases hq
set_option maxHeartbeats 4000000 in
set_option maxRecDepth 100000 in
/-- from the entry, for every script of at most 2560 ints, the law comes to its end with true -/
theorem whole_start {p : Program} {e : Env} {s : State} {m : MethodId} {below : List Frame} {meth : Method} {c : Code} (l : Launch) {b L : Nat} {xs : Nat → Int32} (hL : L ≤ 2560) (C0 : lw_At p s m meth c b L xs) : W p l e room_1 s m #[Value.ref b] below meth c s.heap [] 0 0 (lw_Z below #[Value.ref b] s) (entryFrame m ([Value.ref b] : List Value).toArray 4) := by
  obtain ⟨hx, hb, hr, hml, hown, hts, hX, hbl, hlocks, hgv⟩ := C0
  have hA : ∀ a : Nat, a < s.heap.size → ¬ (fun q : Nat => s.heap.size ≤ q) a := fun a h => Nat.not_le.mpr h
  have hf := flat_of_before _ hgv
  obtain ⟨tE, evE, cellE, e1, e2, e3, e4, e5, e6, e7⟩ := va_Tof (tm := .static "PolesInALake" "ELSE" "[I") (ty := .int) (N := 8) (f := fun j => .int (eT j)) (A := fun q : Nat => s.heap.size ≤ q) (by decide) (hf _ (by decide +kernel)) (va_eqt (hf _ (by decide +kernel))) (tm_E hf) hA
  obtain ⟨tN, evN, cellN, n1, n2, n3, n4, n5, n6, n7⟩ := va_Tof (tm := .static "PolesInALake" "TENS" "[I") (ty := .int) (N := 10) (f := fun j => .int (tT j)) (A := fun q : Nat => s.heap.size ≤ q) (by decide) (hf _ (by decide +kernel)) (va_eqt (hf _ (by decide +kernel))) (tm_T hf) hA
  have zE := va_Zref (A := fun q : Nat => s.heap.size ≤ q) (hts (.laysStatic "PolesInALake" "ELSE" "[I") (by decide +kernel)) (hts (.initialized "PolesInALake") (by decide +kernel)) evE hA
  have zN := va_Zref (A := fun q : Nat => s.heap.size ≤ q) (hts (.laysStatic "PolesInALake" "TENS" "[I") (by decide +kernel)) (hts (.initialized "PolesInALake") (by decide +kernel)) evN hA
  obtain ⟨dC, dI, hK⟩ := known_8 hts
  obtain ⟨scr, x1, x2, x3, x4, x5⟩ := hX
  let ac : Nat → Nat × ClassId := fun k => if k = 1000 then (b, m.cls) else if k = 1001 then (tE, m.cls) else if k = 1002 then (tN, m.cls) else (0, m.cls)
  have hC : sm_C 189 p s m #[Value.ref b] meth c := ⟨hx, hb, hml, hown, fun w hw _ => hts w hw, ⟨va_AO.of (hts _ (by decide +kernel)), fun a i x q hm => va_Nw.of rfl (hts _ hm), fun a i x n d q hm => va_Nw.of rfl (hts _ hm)⟩, fun h => absurd h (by decide +kernel)⟩
  have hR : sm_R dC dI s.heap.size ac s s.heap (EE0 L, D0 xs) := by
    refine ⟨hK, fun k q h => by simp [ab_ws, EE0] at h, ⟨fun i j p q h => by simp [ab_ws, EE0] at h, fun k q h => by simp [ab_ws, EE0] at h⟩, ⟨fun k hk => absurd hk (Nat.not_lt_zero k), fun k hk => absurd hk (Nat.not_lt_zero k), fun k hk => absurd hk (Nat.not_lt_zero k)⟩, fun k j => D0_ok k j, fun k j i h => absurd h (fun z => nomatch z), Nat.zero_le _, fun k hk N hN => ?_, zE, zN⟩
    have hN : (if k = 1000 then ((5, L) : Nat × Nat) else if k = 1001 then (5, 8) else if k = 1002 then (5, 10) else (6, 0)) = (5, N) := hN
    by_cases k0 : k = 1000
    · subst k0
      rw [if_pos rfl] at hN
      cases hN
      refine ⟨hbl, scr, x1, x2, x3, by omega, by rw [x4]; rfl, by omega, fun j hj => ?_⟩
      rw [x5 j hj]
      show some (Value.int (xs j)) = some (Value.int (Int32.ofInt (xs j).toInt))
      rw [Int32.ofInt_toInt]
    · rw [if_neg k0] at hN
      by_cases k1 : k = 1001
      · subst k1
        rw [if_pos rfl] at hN
        cases hN
        refine ⟨(Array.getElem?_eq_some_iff.mp e1).1, cellE, e1, e2, e3, e4, e5, by decide, fun j hj => ?_⟩
        rw [e6 j hj]
        show some (Value.int (eT j)) = some (Value.int (Int32.ofInt (eT j).toInt))
        rw [Int32.ofInt_toInt]
      · rw [if_neg k1] at hN
        by_cases k2 : k = 1002
        · subst k2
          rw [if_pos rfl] at hN
          cases hN
          refine ⟨(Array.getElem?_eq_some_iff.mp n1).1, cellN, n1, n2, n3, n4, n5, by decide, fun j hj => ?_⟩
          rw [n6 j hj]
          show some (Value.int (tT j)) = some (Value.int (Int32.ofInt (tT j).toInt))
          rw [Int32.ofInt_toInt]
        · rw [if_neg k2] at hN
          cases hN
  have hRet : sm_Ret 189 (fun v _ => v = some (.inl 1)) p l e s m #[Value.ref b] below meth c dC dI s.heap.size (lw_Z below #[Value.ref b] s) ac 0 := by
    intro v h' u' ac' H' locs' ls pc hq hu hR' hS' hv hn hac hrin
    subst hq
    refine va_forget hS'.2.2 ?_
    refine W.widen (k := 88) (n := 2658) hu.1 hu.2 ?_
    exact lw_ret hx hb hr hlocks hrin.1
  have key := (law_start (L := L) (D := D0 xs) (Q := fun v _ => v = some (.inl 1)) D0_E hL (fun _ => rfl)).un p l e s m #[Value.ref b] below meth c dC dI s.heap.size (lw_Z below #[Value.ref b] s) hC (Nat.le_refl _) ac s.heap [] _ hRet hR va_S.rf (lo_entry (as := [vR 1000]) (N := 4) (by decide)) (lo_ok (N := 0) (n := 4) (as := [vR 1000]) (fun v hv => by
    rcases List.mem_singleton.mp hv with rfl
    exact Or.inr (Nat.le_refl _))) (fun v hv => absurd hv List.not_mem_nil) ⟨Nat.zero_le _, Nat.zero_le _⟩
  rw [lg_entry_eq]
  rw [pcN_0] at key
  exact key
set_option maxHeartbeats 4000000 in
theorem lw_walk (l : Launch) (b : Addr) (xs : List Int32) : MetFree l x (headSpec (Jvm.Cond.code x code maxLocals ret :: tables_1) room_1) (lw_P b xs) (fun _ _ _ _ _ => True) lw_Q := by
  refine MetFree.of_bodyS (code := code) (maxLocals := maxLocals) (ret := ret) (by decide) ?_ ?_
  · intro args s m h hn
    obtain ⟨meth, c, h1, h2, h3, h4, h5, h6, -, -⟩ := Cond.code_spec hn (atoms_spec (ws := Jvm.Cond.code x code maxLocals ret :: tables_1) h _ List.mem_cons_self)
    exact ⟨meth, c, h1, h2, h3, h4, h5, h6⟩
  · intro p e s m args below meth c s₁ B hml0 hP _
    obtain ⟨rfl, hx, hbd, hgv⟩ := hP
    obtain ⟨scr, harrAt, hlist, hof, hsmall⟩ := hx
    obtain ⟨hcb, hkn, -, -⟩ := State.arrayAt?_spec harrAt
    have hown : s.vm.findClass R_law = some m.cls := findClass_of_methodNamed B.named
    have hts0 : ∀ c ∈ (Jvm.Cond.code x code maxLocals ret :: tables_1), c.before #[Value.ref b] s = true := atoms_spec (ws := Jvm.Cond.code x code maxLocals ret :: tables_1) B.pre
    have hts : ∀ w ∈ lw_tbl, w.before #[Value.ref b] s = true := k2_hts_sels lw_privs (fun w hw => hts0 w (List.mem_cons_of_mem _ hw)) lw_privs_ok
    have hml : c.maxLocals = 4 := B.maxLocals_eq (hts0 _ List.mem_cons_self)
    have X₀ : Stand p l e room_1 s m #[Value.ref b] below meth c s₁ [] 0 0 := Stand.of_body B
    have hh0 : s₁.heap = s.heap := by rw [B.state]; rfl
    have hsz : scr.slots.size = xs.length := by rw [← Array.length_toList, hlist, List.length_map]
    have hval : ∀ j : Nat, j < xs.length → scr.slots[j]? = some (.int (xs.getD j 0)) := fun j hj => by
      rw [← Array.getElem?_toList, hlist]
      simp [hj]
    have hbl : b < s.heap.size := (Array.getElem?_eq_some_iff.mp hcb).1
    have hX : va_X b xs.length (fun j => xs.getD j 0) s s.heap := ⟨scr, hcb, hof, hkn, hsz, hval⟩
    have K : W p l e room_1 s m #[Value.ref b] below meth c s₁.heap [] 0 0 (lw_Z below #[Value.ref b] s) (entryFrame m ([Value.ref b] : List Value).toArray 4) := by
      rw [hh0]
      exact whole_start l hbd ⟨B.exec, B.bytes, B.returns, hml, hown, hts, hX, hbl, B.notSynchronized, hgv⟩
    obtain ⟨t, a1, o, b1, b2, b3⟩ := K s₁ rfl X₀
    exact ⟨t, o, a1, b1, b2, b3⟩
theorem lw_pre_spec {args : Array Value} {s : State} (h : (Jvm.Cond.and given_1 narrow_1).before args s = true) (hr : rest_1_c.before args s = true) : ∃ (b : Addr) (xs : List Int32), lw_P b xs args s := by
  have hs := flat_of_before _ h
  have hq := flat_of_before _ hr
  have hc : (Cond.count 1).before args s = true := hs _ (by decide +kernel)
  have harr : (Cond.arrayOf (.arg 0) .int).before args s = true := hs _ (by decide +kernel)
  have hle : (Cond.le (.length (.arg 0)) (.int 2560)).before args s = true := hs _ (by decide +kernel)
  have hlen : (Cond.isInt (.length (.arg 0))).before args s = true := hq _ (by decide +kernel)
  have hall : (Cond.all (.arg 0) (.isInt (.elem (.arg 0) (.index 0)))).before args s = true := hq _ (by decide +kernel)
  obtain ⟨b, xs, hb, hx⟩ := State.ints_of_pre rfl harr hlen hall
  have hsm : xs.length < 2 ^ 31 := hx.choose_spec.2.2.2
  have hev : (Term.length (.arg 0)).eval args s none [] s = some (.int xs.length.toInt32) := hx.length_eval hb
  have hv := Cond.le_ints hev (show (Term.int 2560).eval args s none [] s = some (.int 2560) from rfl)
  have hd : xs.length.toInt32 ≤ 2560 := by
    simpa [Cond.before, Cond.holds, hv] using hle
  have hN : xs.length ≤ 2560 := (Int32.ofNat_le_ofNat hsm (by decide)).mp (show Int32.ofNat xs.length ≤ Int32.ofNat 2560 from hd)
  exact ⟨b, xs, Cond.one_arg hc (show args[0]? = some (.ref b) from hb), hx, hN, h⟩
theorem lw_comes (l : Launch) : Comes l x (Jvm.Cond.code x code maxLocals ret :: tables_1) room_1 (fun tb e args s => Calls_1 tb e args s ∧ rest_1 tb e args s ∧ Pre_1 tb e args s)
    (fun _ _ args s o t => lw_Q args s o t) := by
  intro p e ha hc hk s m args below hf hfit hheap happ hpre
  obtain ⟨b, xs, hP⟩ := lw_pre_spec hpre.2.2 hpre.2.1
  obtain ⟨k, o, h1, h2, h3, hQ⟩ := lw_walk l b xs p e ha hc hk s m args below hf ((Spec.applies_iff_loose hf).mp happ).1 hP trivial
  exact ⟨k, o, h1, h2, h3, hQ⟩
theorem lw_frame {s t : State} {o : Outcome} {args : Array Value} (h : Framed s o t [] 88 2658) :
    Framed s o t (fieldLocs frame_1_writes args s ++ arrayLocs frame_1_arrays args s ++ staticLocs frame_1_statics s) 88 2658 := h
theorem lw_limb (L : Cond) (hL : ∀ (args : Array Value) (s t : State), L.after args s (.returned (some (.int 1))) t = true) :
    ArmFor flags0 classFile x code maxLocals ret World_1 tables_1 room_1 Calls_1 rest_1 Pre_1
      (fun tb e a s o t => postC L tb e a s o t ∧ Framed s o t (fieldLocs frame_1_writes a s ++ arrayLocs frame_1_arrays a s ++ staticLocs frame_1_statics s) 88 2658) := by
  intro l _ _ _ p e ha hc hk s m args below hf hfit hheap happ hpre
  obtain ⟨k, o, h1, h2, h3, rfl, hF⟩ := lw_comes l p e ha hc hk s m args below hf hfit hheap happ hpre
  exact ⟨k, _, h1, h2, h3, hL args s _, lw_frame hF⟩
theorem i_vc : Claimed_1_1 ∧ Claimed_1_2 := ⟨lw_limb limb_1_1 (fun args s t => by simp [limb_1_1, Cond.after, Cond.holds, Cond.value]), lw_limb limb_1_2 (fun args s t => Cond.after_iff.mpr (by
  first | (rw [show limb_1_2 = Cond.eq .result (.int 1) from rfl, Cond.eq_ints (x := 1) (y := 1) rfl rfl]; simp; done) | (simp [limb_1_2, Cond.value, Term.eval]; done)))⟩

/-! numbers: an int of the machine is an Int in range -/
theorem n_ti {a : Int} (h : i32 a) : (Int32.ofInt a).toInt = a := Int32.toInt_ofInt_of_le (by have := h.1; omega) (by have := h.2; omega)
theorem n_tl {a : Int} (h : i64 a) : (Int64.ofInt a).toInt = a := Int64.toInt_ofInt_of_le (by have := h.1; omega) (by have := h.2; omega)
theorem n_lt {a b : Int} (ha : i32 a) (hb : i32 b) : Int32.ofInt a < Int32.ofInt b ↔ a < b := by rw [Int32.lt_iff_toInt_lt, n_ti ha, n_ti hb]
theorem n_le {a b : Int} (ha : i32 a) (hb : i32 b) : Int32.ofInt a ≤ Int32.ofInt b ↔ a ≤ b := by rw [Int32.le_iff_toInt_le, n_ti ha, n_ti hb]
theorem n_eq {a b : Int} (ha : i32 a) (hb : i32 b) : Int32.ofInt a = Int32.ofInt b ↔ a = b := by rw [← Int32.toInt_inj, n_ti ha, n_ti hb]
theorem n_z : Int32.ofInt 0 = 0 := rfl
theorem n_i0 : i32 0 := by unfold i32; omega
theorem n_in {a : Int} {N : Nat} (ha : i32 a) (h0 : 0 ≤ a) (h1 : a < N) : vp_in (Int32.ofInt a) N := by rw [vp_in_iff, n_ti ha]; exact ⟨h0, h1⟩
theorem n_cl {a : Int} (ha : i32 a) : (Int32.ofInt a).toNatClampNeg = a.toNat := Int32.toNatClampNeg_ofInt_of_le (by have := ha.1; omega) (by have := ha.2; omega)
theorem n_of (x : Int32) : i32 x.toInt := ⟨by have := Int32.le_toInt x; omega, by have := Int32.toInt_lt x; omega⟩
theorem n_ofl (x : Int64) : i64 x.toInt := ⟨by have := Int64.le_toInt x; omega, by have := Int64.toInt_lt x; omega⟩
theorem n_div {a b : Int} (ha : i32 a) (hb : i32 b) (h0 : 0 ≤ a) (h1 : 0 < b) : Int32.ofInt a / Int32.ofInt b = Int32.ofInt (a / b) := by
  rw [← Int.tdiv_eq_ediv_of_nonneg h0]
  exact (Int32.ofInt_tdiv (by have := ha.1; exact this) (by have := ha.2; show a ≤ 2147483647; omega) (by have := hb.1; exact this) (by have := hb.2; show b ≤ 2147483647; omega)).symm
theorem n_rem {a b : Int} (ha : i32 a) (hb : i32 b) (h0 : 0 ≤ a) (h1 : 0 < b) : Int32.ofInt a - Int32.ofInt a / Int32.ofInt b * Int32.ofInt b = Int32.ofInt (a % b) := by
  rw [n_div ha hb h0 h1, ← Int32.ofInt_mul, ← Int32.ofInt_sub, Int.mul_comm, ← Int.emod_def]
theorem n_divl {a b : Int} (ha : i64 a) (hb : i64 b) (h0 : 0 ≤ a) (h1 : 0 < b) : Int64.ofInt a / Int64.ofInt b = Int64.ofInt (a / b) := by
  rw [← Int.tdiv_eq_ediv_of_nonneg h0]
  exact (Int64.ofInt_tdiv (by have := ha.1; exact this) (by have := ha.2; show a ≤ 9223372036854775807; omega) (by have := hb.1; exact this) (by have := hb.2; show b ≤ 9223372036854775807; omega)).symm
theorem n_reml {a b : Int} (ha : i64 a) (hb : i64 b) (h0 : 0 ≤ a) (h1 : 0 < b) : Int64.ofInt a - Int64.ofInt a / Int64.ofInt b * Int64.ofInt b = Int64.ofInt (a % b) := by
  rw [n_divl ha hb h0 h1, ← Int64.ofInt_mul, ← Int64.ofInt_sub, Int.mul_comm, ← Int.emod_def]
theorem n_i2l {a : Int} (ha : i32 a) : (Int32.ofInt a).toInt64 = Int64.ofInt a := by rw [← Int64.ofInt_int32ToInt, n_ti ha]
theorem n_ne0 {b : Int} (hb : i32 b) (h1 : 0 < b) : ¬ Int32.ofInt b = 0 := fun h => by rw [← n_z, n_eq hb n_i0] at h; omega
theorem n_ne0l {b : Int} (hb : i64 b) (h1 : 0 < b) : ¬ Int64.ofInt b = 0 := fun h => by
  have h2 := congrArg Int64.toInt h
  rw [n_tl hb] at h2
  have : (0 : Int64).toInt = 0 := rfl
  omega
/-! values, cells -/
def cv (ac : Nat → Nat × ClassId) : ab_V → Value
  | .inl z => .int (Int32.ofInt z)
  | .inr (.inl z) => .long (Int64.ofInt z)
  | .inr (.inr (some k)) => .ref (ac k).1
  | .inr (.inr none) => .null
def ab_ok (n : Nat) : ab_V → Prop
  | .inl z => i32 z
  | .inr (.inl z) => i64 z
  | .inr (.inr (some k)) => k < n ∨ 1000 ≤ k
  | .inr (.inr none) => True
def ab_fv (ac : Nat → Nat × ClassId) (h : ab_H) (k c j : Nat) : Value := if fRf c j = true then va_rf ((h.1.2.2 k j).map (fun i => (ac i).1)) else .int (Int32.ofInt (h.2 k j))
def ab_encS (ac : Nat → Nat × ClassId) (h : ab_H) (k : Nat) : Nat × Nat → va_E
  | (0, N) => .inl ((ac k).2, N, .inl (fun j => Int32.ofInt (h.2 k j)))
  | (1, N) => .inl ((ac k).2, N, .inl (fun j => Int32.ofInt (h.2 k j)))
  | (2, N) => .inl ((ac k).2, N, .inr (.inr (.inr (.inr (fun j => (h.1.2.2 k j).map (fun i => (ac i).1))))))
  | (c + 3, _) => .inr (c, (List.range (nF c)).map (fun j => ab_fv ac h k c j))
def ab_enc (ac : Nat → Nat × ClassId) (h : ab_H) (k : Nat) : va_E := ab_encS ac h k (h.1.2.1 k)
def ab_ws (ac : Nat → Nat × ClassId) (h : ab_H) : va_W := (List.range h.1.1).map (fun k => ((ac k).1, ab_enc ac h k))
theorem ab_ws_at {ac : Nat → Nat × ClassId} {h : ab_H} {k : Nat} (hk : k < h.1.1) : (ab_ws ac h)[k]? = some ((ac k).1, ab_enc ac h k) := by
  simp [ab_ws, List.getElem?_map, List.getElem?_range hk]
theorem ab_ws_len {ac : Nat → Nat × ClassId} {h : ab_H} : (ab_ws ac h).length = h.1.1 := by simp [ab_ws]
/-- one cell's new contents -/
theorem ab_ws_set {ac : Nat → Nat × ClassId} {h h' : ab_H} {k : Nat} {e : va_E} (hn : h'.1.1 = h.1.1) (hk : k < h.1.1) (he : ab_enc ac h' k = e) (ho : ∀ j, j ≠ k → ab_enc ac h' j = ab_enc ac h j) : (ab_ws ac h).set k ((ac k).1, e) = ab_ws ac h' := by
  apply List.ext_getElem?
  intro i
  by_cases hi : i < h.1.1
  · rw [ab_ws_at (h := h') (by omega)]
    by_cases hik : i = k
    · subst hik
      rw [List.getElem?_set_self (by rw [ab_ws_len]; exact hi), he]
    · rw [List.getElem?_set_ne (fun q => hik q.symm), ab_ws_at hi, ho i hik]
  · have h1 : ((ab_ws ac h).set k ((ac k).1, e)).length ≤ i := by rw [List.length_set, ab_ws_len]; omega
    have h2 : (ab_ws ac h').length ≤ i := by rw [ab_ws_len]; omega
    rw [List.getElem?_eq_none h1, List.getElem?_eq_none h2]
/-- the words about nest mates, and arrays of Villages -/
def sm_N (s : State) : Prop := va_AO "PolesInALake$Village" s ∧ (∀ a i x h, Jvm.Cond.methodLinkNest a i x h ∈ lw_tbl → va_Nw (.methodLinkNest a i x h) s) ∧ (∀ a i b n d h, Jvm.Cond.fieldLinkNest a i b n d h ∈ lw_tbl → va_Nw (.fieldLinkNest a i b n d h) s)
theorem sm_N.warm {s U : State} (hW : s.WarmedH U.vm) (h : sm_N s) : sm_N U := ⟨va_AO.moved hW.alike h.1, fun a i x q hm => va_Nw.warmM hW (h.2.1 a i x q hm), fun a i b n d q hm => va_Nw.warmF hW (h.2.2 a i b n d q hm)⟩
/-- the world: what the heap H holds is h -/
def sm_R (dC : Nat → ClassId) (dI : Nat → Nat → Nat) (base : Nat) (ac : Nat → Nat × ClassId) (s : State) (H : Heap) (h : ab_H) : Prop :=
  va_K (dC, dI) cls [] s ∧ va_P (dC, dI) cls (ab_ws ac h) H ∧ va_D (fun q => base ≤ q) (ab_ws ac h) ∧
  ((∀ k, k < h.1.1 → ∀ N, h.1.2.1 k = (0, N) → va_K (dC, dI) cls [((ac k).2, .int)] s) ∧
  (∀ k, k < h.1.1 → ∀ N, h.1.2.1 k = (1, N) → va_K (dC, dI) cls [((ac k).2, .boolean)] s) ∧
  (∀ k, k < h.1.1 → ∀ N, h.1.2.1 k = (2, N) → va_K (dC, dI) cls [((ac k).2, .object "PolesInALake$Village")] s)) ∧
  (∀ k j, i32 (h.2 k j)) ∧ (∀ k j i, h.1.2.2 k j = some i → i < h.1.1) ∧ h.1.1 ≤ 1000 ∧
  (∀ k, 1000 ≤ k → ∀ N, h.1.2.1 k = (5, N) → (ac k).1 < base ∧ ∃ cell : Cell, H[(ac k).1]? = some cell ∧ s.isArrayOf cell .int ∧ cell.vm ≠ .unknown ∧ N ≤ cell.slots.size ∧ cell.slots.size.toInt32 = Int32.ofInt N ∧ (N : Int) < 2147483648 ∧ ∀ j, j < N → cell.slots[j]? = some (.int (Int32.ofInt (h.2 k j)))) ∧
  va_Z "PolesInALake" "ELSE" "[I" (.ref (ac 1001).1) (fun q => base ≤ q) s H ∧ va_Z "PolesInALake" "TENS" "[I" (.ref (ac 1002).1) (fun q => base ≤ q) s H
theorem sm_R.moved {dC : Nat → ClassId} {dI : Nat → Nat → Nat} {base : Nat} {ac : Nat → Nat × ClassId} {u U : State} {H : Heap} {h : ab_H} (hvm : u.vm.Alike U.vm) (r : sm_R dC dI base ac u H h) : sm_R dC dI base ac U H h := by
  obtain ⟨r1, r2, r3, ⟨r4, r5, r6⟩, r7, r8, r9, r10, r11, r12⟩ := r
  refine ⟨r1.moved hvm, r2, r3, ⟨fun k hk N hN => (r4 k hk N hN).moved hvm, fun k hk N hN => (r5 k hk N hN).moved hvm, fun k hk N hN => (r6 k hk N hN).moved hvm⟩, r7, r8, r9, fun k hk N hN => ?_, r11.moved hvm, r12.moved hvm⟩
  obtain ⟨q1, cell, q2, q3, q4⟩ := r10 k hk N hN
  exact ⟨q1, cell, q2, State.isArrayOf_alike hvm q3, q4⟩
/-- the locals -/
def sm_L (nL : Nat) (ls : Array Slot) (ac : Nat → Nat × ClassId) (lo : List ab_V) : Prop := ls.size = nL ∧ lv_wf ls ∧ lo.length = nL ∧ ∀ (i : Nat) (v : ab_V), lo[i]? = some v → v ≠ vU → ls[i]? = some (.val (cv ac v))
/-- the method's fixed facts -/
def sm_C (y : Nat) (p : Program) (s : State) (m : MethodId) (args : Array Value) (meth : Method) (c : Code) : Prop :=
  p.tables.exec = Jvm.exec ∧ c.code = mB y ∧ c.maxLocals = mL y ∧ s.vm.findClass (mN y).cls = some m.cls ∧ (∀ w ∈ lw_tbl, goodWord w = true → w.before args s = true) ∧ sm_N s ∧ ((mN y).name = "<init>" → meth.name = "<init>")
def rIn (y : Nat) (v : Option ab_V) (pc : Nat) : Prop := match v with
  | none => mT y = none ∧ decode (mB y) pc = .ok (.return_, 1)
  | some (.inl z) => decode (mB y) pc = .ok (.ireturn, 1) ∧ (mT y = some .int ∨ (mT y = some .boolean ∧ (z = 0 ∨ z = 1)))
  | some (.inr (.inl _)) => mT y = some .long ∧ decode (mB y) pc = .ok (.lreturn, 1)
  | _ => False
/-- what the end of the method asks -/
def sm_Ret (y : Nat) (Q : Option ab_V → ab_H → Prop) (p : Program) (l : Launch) (e : Env) (s : State) (m : MethodId) (args : Array Value) (below : List Frame) (meth : Method) (c : Code) (dC : Nat → ClassId) (dI : Nat → Nat → Nat) (base : Nat) (Z : State → Prop) (ac : Nat → Nat × ClassId) (n0 : Nat) : Prop :=
  ∀ (v : Option ab_V) (h' : ab_H) (u' : Nat × Nat) (ac' : Nat → Nat × ClassId) (H' : Heap) (locs' : List Loc) (ls : Array Slot) (pc : Nat), Q v h' → u'.1 ≤ (mRm y).cells ∧ u'.2 ≤ (mRm y).slots → sm_R dC dI base ac' s H' h' → va_S (fun q => base ≤ q) s.heap H' locs' → (∀ w, v = some w → ab_ok h'.1.1 w) → n0 ≤ h'.1.1 → (∀ k, k < n0 ∨ 1000 ≤ k → ac' k = ac k) → rIn y v pc →
    W p l e (mRm y) s m args below meth c H' locs' u'.1 u'.2 Z (F0 m pc ls (v.toList.map (cv ac')))
/-- the judgement: at instruction n of method y, with locals lo, stack st, heap h, u cells and slots made: the method ends, with Q -/
def Sem (y n : Nat) (lo st : List ab_V) (h : ab_H) (u : Nat × Nat) (Q : Option ab_V → ab_H → Prop) : Prop :=
  ∀ (p : Program) (l : Launch) (e : Env) (s : State) (m : MethodId) (args : Array Value) (below : List Frame) (meth : Method) (c : Code) (dC : Nat → ClassId) (dI : Nat → Nat → Nat) (base : Nat) (Z : State → Prop),
    sm_C y p s m args meth c → base ≤ s.heap.size → ∀ (ac : Nat → Nat × ClassId) (H : Heap) (locs : List Loc) (ls : Array Slot),
    sm_Ret y Q p l e s m args below meth c dC dI base Z ac h.1.1 → sm_R dC dI base ac s H h → va_S (fun q => base ≤ q) s.heap H locs → sm_L (mL y) ls ac lo → (∀ v ∈ lo, ab_ok h.1.1 v) → (∀ v ∈ st, ab_ok h.1.1 v) → u.1 ≤ (mRm y).cells ∧ u.2 ≤ (mRm y).slots →
    W p l e (mRm y) s m args below meth c H locs u.1 u.2 Z (F0 m (pcN y n) ls (st.map (cv ac)))
theorem Sem.mono {y n : Nat} {lo st : List ab_V} {h : ab_H} {u : Nat × Nat} {Q Q' : Option ab_V → ab_H → Prop} (k : Sem y n lo st h u Q) (hq : ∀ v h', Q v h' → Q' v h') : Sem y n lo st h u Q' := by
  intro p l e s m args below meth c dC dI base Z hC hb ac H locs ls hRet
  exact k p l e s m args below meth c dC dI base Z hC hb ac H locs ls (fun v h' u' ac' H' locs' ls pc q => hRet v h' u' ac' H' locs' ls pc (hq v h' q))
/-! how locals are read and written -/
def ab_ld (lo : List ab_V) (i : Nat) : ab_V := lo.getD i vU
def ab_cl : ab_V → ab_V
  | .inr (.inl _) => vU
  | a => a
def ab_st : List ab_V → Nat → ab_V → List ab_V
  | [], _, _ => []
  | _ :: r, 0, v => v :: r
  | a :: r, j + 1, v => (match j with | 0 => ab_cl a | _ + 1 => a) :: ab_st r j v
def ab_stL (lo : List ab_V) (i : Nat) (v : ab_V) : List ab_V := (ab_st lo i v).set (i + 1) vU
def ab_sec : ab_V → List ab_V → List ab_V
  | .inr (.inl _), l => vU :: l
  | _, l => l
def ab_fl : List ab_V → List ab_V
  | [] => []
  | a :: r => a :: ab_sec a (ab_fl r)
def ab_lo (n : Nat) (args : List ab_V) : List ab_V := ab_fl args ++ List.replicate (n - (ab_fl args).length) vU
/-- a call of method z -/
def Con (z : Nat) (args : List ab_V) (h : ab_H) (Q : Option ab_V → ab_H → Prop) : Prop := Sem z 0 (ab_lo (mL z) args) [] h (0, 0) Q
def CI (z : Nat) (args : List ab_V) (h : ab_H) (P : Int → ab_D → Prop) : Prop := Con z args h (fun r h' => ∃ x D', r = some (.inl x) ∧ h' = (h.1, D') ∧ P x D')
def CL (z : Nat) (args : List ab_V) (h : ab_H) (P : Int → ab_D → Prop) : Prop := Con z args h (fun r h' => ∃ x D', r = some (.inr (.inl x)) ∧ h' = (h.1, D') ∧ P x D')
def CV (z : Nat) (args : List ab_V) (h : ab_H) (P : ab_D → Prop) : Prop := Con z args h (fun r h' => ∃ D', r = none ∧ h' = (h.1, D') ∧ P D')
def CN (z : Nat) (args : List ab_V) (h : ab_H) (P : ab_H → Prop) : Prop := Con z args h (fun r h' => r = none ∧ P h')
theorem CI.mono {z : Nat} {args : List ab_V} {h : ab_H} {P P' : Int → ab_D → Prop} (k : CI z args h P) (hp : ∀ x D', P x D' → P' x D') : CI z args h P' := Sem.mono k (fun _ _ ⟨x, D', e1, e2, q⟩ => ⟨x, D', e1, e2, hp x D' q⟩)
theorem CL.mono {z : Nat} {args : List ab_V} {h : ab_H} {P P' : Int → ab_D → Prop} (k : CL z args h P) (hp : ∀ x D', P x D' → P' x D') : CL z args h P' := Sem.mono k (fun _ _ ⟨x, D', e1, e2, q⟩ => ⟨x, D', e1, e2, hp x D' q⟩)
theorem CV.mono {z : Nat} {args : List ab_V} {h : ab_H} {P P' : ab_D → Prop} (k : CV z args h P) (hp : ∀ D', P D' → P' D') : CV z args h P' := Sem.mono k (fun _ _ ⟨D', e1, e2, q⟩ => ⟨D', e1, e2, hp D' q⟩)
theorem CN.mono {z : Nat} {args : List ab_V} {h : ab_H} {P P' : ab_H → Prop} (k : CN z args h P) (hp : ∀ h', P h' → P' h') : CN z args h P' := Sem.mono k (fun _ h' ⟨e1, q⟩ => ⟨e1, hp h' q⟩)
/-! what an instruction asks, goal first -/
def ups (D : ab_D) (a i : Nat) (z : Int) : ab_D := fun a' i' => if a' = a ∧ i' = i then z else D a' i'
def upr (D : ab_D) (a : Nat) (f : Nat → Int) : ab_D := fun a' => if a' = a then f else D a'
def upq (rf : Nat → Nat → Option Nat) (a i j : Nat) : Nat → Nat → Option Nat := fun a' i' => if a' = a ∧ i' = i then some j else rf a' i'
def ups2 (sh : Nat → Nat × Nat) (a : Nat) (v : Nat × Nat) : Nat → Nat × Nat := fun a' => if a' = a then v else sh a'
def uprq (rf : Nat → Nat → Option Nat) (a : Nat) : Nat → Nat → Option Nat := fun a' => if a' = a then (fun _ => none) else rf a'
def ab_push (h : ab_H) (v : Nat × Nat) : ab_H := ((h.1.1 + 1, ups2 h.1.2.1 h.1.1 v, uprq h.1.2.2 h.1.1), upr h.2 h.1.1 (fun _ => 0))
def ab_cond : Jvm.ClassFile.Cond → Int → Int → Prop
  | .eq, a, b => a = b
  | .ne, a, b => ¬ a = b
  | .lt, a, b => a < b
  | .ge, a, b => b ≤ a
  | .gt, a, b => b < a
  | .le, a, b => a ≤ b
def wLd (k : Nat) (c : ab_C) : ab_C := fun lo st h u => match ab_ld lo k with
  | .inl z => c lo (.inl z :: st) h u
  | _ => False
def wLdL (k : Nat) (c : ab_C) : ab_C := fun lo st h u => match ab_ld lo k with
  | .inr (.inl z) => c lo (.inr (.inl z) :: st) h u
  | _ => False
def wLdA (k : Nat) (c : ab_C) : ab_C := fun lo st h u => match ab_ld lo k with
  | .inr (.inr (some z)) => c lo (.inr (.inr (some z)) :: st) h u
  | _ => False
def wSt (k : Nat) (c : ab_C) : ab_C := fun lo st h u => match st with
  | .inl z :: r => c (ab_st lo k (.inl z)) r h u
  | _ => False
def wStL (k : Nat) (c : ab_C) : ab_C := fun lo st h u => match st with
  | .inr (.inl z) :: r => c (ab_stL lo k (.inr (.inl z))) r h u
  | _ => False
def wStA (k : Nat) (c : ab_C) : ab_C := fun lo st h u => match st with
  | .inr (.inr (some z)) :: r => c (ab_st lo k (.inr (.inr (some z)))) r h u
  | _ => False
def wBin (ok : Int → Int → Prop) (f : Int → Int → Int) (c : ab_C) : ab_C := fun lo st h u => match st with
  | .inl b :: .inl a :: r => ok a b ∧ c lo (.inl (f a b) :: r) h u
  | _ => False
def wBinL (ok : Int → Int → Prop) (f : Int → Int → Int) (c : ab_C) : ab_C := fun lo st h u => match st with
  | .inr (.inl b) :: .inr (.inl a) :: r => ok a b ∧ c lo (.inr (.inl (f a b)) :: r) h u
  | _ => False
def wShL (f : Int → Int → Int) (c : ab_C) : ab_C := fun lo st h u => match st with
  | .inl b :: .inr (.inl a) :: r => c lo (.inr (.inl (f a b)) :: r) h u
  | _ => False
def wIf (p : Int → Int → Prop) (t : ab_C) (c : ab_C) : ab_C := fun lo st h u => match st with
  | .inl b :: .inl a :: r => (p a b → t lo r h u) ∧ (¬ p a b → c lo r h u)
  | _ => False
def wIf0 (p : Int → Int → Prop) (t : ab_C) (c : ab_C) : ab_C := fun lo st h u => match st with
  | .inl a :: r => (p a 0 → t lo r h u) ∧ (¬ p a 0 → c lo r h u)
  | _ => False
def wTab (K : Nat → ab_C) (z : Int) (lo st : List ab_V) (h : ab_H) (u : Nat × Nat) : Int → List Nat → Prop
  | _, [] => True
  | b, t :: ts => (z = b → K t lo st h u) ∧ wTab K z lo st h u (b + 1) ts
def wLk (K : Nat → ab_C) (z : Int) (lo st : List ab_V) (h : ab_H) (u : Nat × Nat) (td : Nat) : List (Int × Int) → List Nat → Prop
  | (k, _) :: ps, t :: ts => (z = k → K t lo st h u) ∧ (¬ z = k → wLk K z lo st h u td ps ts)
  | _, _ => K td lo st h u
def wGet (c k r : Nat) (ct : ab_C) : ab_C := fun lo st h u => match st with
  | .inr (.inr (some i)) :: rest => (i < h.1.1 ∧ (h.1.2.1 i).1 = c + 3) ∧ (match r with
    | 0 => ct lo (.inl (h.2 i k) :: rest) h u
    | _ + 1 => match h.1.2.2 i k with
      | some j => ct lo (.inr (.inr (some j)) :: rest) h u
      | none => False)
  | _ => False
def wPut (c k r : Nat) (ct : ab_C) : ab_C := fun lo st h u => match r, st with
  | 0, .inl z :: .inr (.inr (some i)) :: rest => (i < h.1.1 ∧ (h.1.2.1 i).1 = c + 3) ∧ ct lo rest (h.1, ups h.2 i k z) u
  | 1, .inr (.inr (some j)) :: .inr (.inr (some i)) :: rest => (i < h.1.1 ∧ (h.1.2.1 i).1 = c + 3 ∧ j < h.1.1) ∧ ct lo rest ((h.1.1, h.1.2.1, upq h.1.2.2 i k j), h.2) u
  | _, _ => False
def ab_ia (E : ab_E) (i : Nat) : Prop := (i < E.1 ∧ (E.2.1 i).1 = 0) ∨ (1000 ≤ i ∧ (E.2.1 i).1 = 5)
def wIald (ct : ab_C) : ab_C := fun lo st h u => match st with
  | .inl x :: .inr (.inr (some i)) :: rest => ab_ia h.1 i ∧ (0 ≤ x ∧ x < (h.1.2.1 i).2) ∧ ct lo (.inl (h.2 i x.toNat) :: rest) h u
  | _ => False
def wBald (ct : ab_C) : ab_C := fun lo st h u => match st with
  | .inl x :: .inr (.inr (some i)) :: rest => (i < h.1.1 ∧ (h.1.2.1 i).1 = 1) ∧ (0 ≤ x ∧ x < (h.1.2.1 i).2) ∧ ct lo (.inl (h.2 i x.toNat) :: rest) h u
  | _ => False
def wIast (ct : ab_C) : ab_C := fun lo st h u => match st with
  | .inl z :: .inl x :: .inr (.inr (some i)) :: rest => (i < h.1.1 ∧ (h.1.2.1 i).1 = 0) ∧ (0 ≤ x ∧ x < (h.1.2.1 i).2) ∧ ct lo rest (h.1, ups h.2 i x.toNat z) u
  | _ => False
def wBast (ct : ab_C) : ab_C := fun lo st h u => match st with
  | .inl z :: .inl x :: .inr (.inr (some i)) :: rest => (i < h.1.1 ∧ (h.1.2.1 i).1 = 1) ∧ (0 ≤ x ∧ x < (h.1.2.1 i).2) ∧ (z = 0 ∨ z = 1) ∧ ct lo rest (h.1, ups h.2 i x.toNat z) u
  | _ => False
def wAald (ct : ab_C) : ab_C := fun lo st h u => match st with
  | .inl x :: .inr (.inr (some i)) :: rest => (i < h.1.1 ∧ (h.1.2.1 i).1 = 2) ∧ (0 ≤ x ∧ x < (h.1.2.1 i).2) ∧ (match h.1.2.2 i x.toNat with
    | some j => ct lo (.inr (.inr (some j)) :: rest) h u
    | none => False)
  | _ => False
def wAast (ct : ab_C) : ab_C := fun lo st h u => match st with
  | .inr (.inr (some j)) :: .inl x :: .inr (.inr (some i)) :: rest => (i < h.1.1 ∧ (h.1.2.1 i).1 = 2) ∧ (0 ≤ x ∧ x < (h.1.2.1 i).2) ∧ (j < h.1.1 ∧ (h.1.2.1 j).1 = 7) ∧ ct lo rest ((h.1.1, h.1.2.1, upq h.1.2.2 i x.toNat j), h.2) u
  | _ => False
def wAlen (ct : ab_C) : ab_C := fun lo st h u => match st with
  | .inr (.inr (some i)) :: rest => ab_ia h.1 i ∧ (h.1.2.1 i).2 < 2147483648 ∧ ct lo (.inl (h.1.2.1 i).2 :: rest) h u
  | _ => False
def wNew (y c : Nat) (ct : ab_C) : ab_C := fun lo st h u => (u.1 + 1 ≤ (mRm y).cells ∧ u.2 + nF c ≤ (mRm y).slots ∧ h.1.1 + 1 ≤ 1000) ∧ ct lo (.inr (.inr (some h.1.1)) :: st) (ab_push h (c + 3, 0)) (u.1 + 1, u.2 + nF c)
def wNewa (y kd : Nat) (ct : ab_C) : ab_C := fun lo st h u => match st with
  | .inl n :: rest => (0 ≤ n ∧ n < 65536 ∧ u.1 + 1 ≤ (mRm y).cells ∧ u.2 + n.toNat ≤ (mRm y).slots ∧ h.1.1 + 1 ≤ 1000) ∧ ct lo (.inr (.inr (some h.1.1)) :: rest) (ab_push h (kd, n.toNat)) (u.1 + 1, u.2 + n.toNat)
  | _ => False
def wCall (y z na rk ml kc : Nat) (ct : ab_C) : ab_C := fun lo st h u =>
  ((st.drop na).length ≤ 4 ∧ na ≤ st.length ∧ (ab_fl (st.take na).reverse).length ≤ ml) ∧
  (kc = 0 ∨ ∃ i, (st.take na).getLast? = some (.inr (.inr (some i))) ∧ i < h.1.1 ∧ (h.1.2.1 i).1 = kc) ∧
  (match rk with
  | 0 => CV z (st.take na).reverse h (fun D' => ct lo (st.drop na) (h.1, D') u)
  | 1 => CI z (st.take na).reverse h (fun x D' => ct lo (.inl x :: st.drop na) (h.1, D') u)
  | 2 => CL z (st.take na).reverse h (fun x D' => ct lo (.inr (.inl x) :: st.drop na) (h.1, D') u)
  | _ => (u.1 + (mRm z).cells ≤ (mRm y).cells ∧ u.2 + (mRm z).slots ≤ (mRm y).slots) ∧ CN z (st.take na).reverse h (fun h' => h.1.1 ≤ h'.1.1 ∧ ct lo (st.drop na) h' (u.1 + (mRm z).cells, u.2 + (mRm z).slots)))
def wRetI (b : Nat) (Q : Option ab_V → ab_H → Prop) : ab_C := fun _ st h _ => match st with
  | [.inl z] => (b = 1 → (z = 0 ∨ z = 1)) ∧ Q (some (.inl z)) h
  | _ => False
def wRetL (Q : Option ab_V → ab_H → Prop) : ab_C := fun _ st h _ => match st with
  | [.inr (.inl z)] => Q (some (.inr (.inl z))) h
  | _ => False
def wRetV (Q : Option ab_V → ab_H → Prop) : ab_C := fun _ st h _ => match st with
  | [] => Q none h
  | _ => False
def wI (y : Nat) (Q : Option ab_V → ab_H → Prop) (K : Nat → ab_C) (q : ab_I) (c : ab_C) : ab_C := match q.2.1, q.2.2.2 with
  | .iload_n _, [k] | .iload _, [k] => wLd k c
  | .aload_n _, [k] | .aload _, [k] => wLdA k c
  | .lload_n _, [k] | .lload _, [k] => wLdL k c
  | .istore_n _, [k] | .istore _, [k] => wSt k c
  | .astore_n _, [k] | .astore _, [k] => wStA k c
  | .lstore_n _, [k] | .lstore _, [k] => wStL k c
  | .iinc _ n, [k] => fun lo st h u => match ab_ld lo k with
    | .inl z => i32 (z + n) ∧ c (ab_st lo k (.inl (z + n))) st h u
    | _ => False
  | .iconst n, _ | .bipush n, _ | .sipush n, _ => fun lo st h u => c lo (.inl n :: st) h u
  | .lconst _, [k] => fun lo st h u => c lo (.inr (.inl (k : Int)) :: st) h u
  | .ldc2_w _, [_, sg, a] => fun lo st h u => c lo (.inr (.inl (if sg = 1 then -(a : Int) else (a : Int))) :: st) h u
  | .iadd, _ => wBin (fun a b => i32 (a + b)) (fun a b => a + b) c
  | .isub, _ => wBin (fun a b => i32 (a - b)) (fun a b => a - b) c
  | .imul, _ => wBin (fun a b => i32 (a * b)) (fun a b => a * b) c
  | .idiv, _ => wBin (fun a b => 0 ≤ a ∧ 0 < b) (fun a b => a / b) c
  | .irem, _ => wBin (fun a b => 0 ≤ a ∧ 0 < b) (fun a b => a % b) c
  | .iand, _ => wBin (fun _ _ => True) (fun a b => (Int32.ofInt a &&& Int32.ofInt b).toInt) c
  | .ior, _ => wBin (fun _ _ => True) (fun a b => (Int32.ofInt a ||| Int32.ofInt b).toInt) c
  | .ishl, _ => wBin (fun _ _ => True) (fun a b => (Int32.ofInt a <<< (Int32.ofInt b &&& 31)).toInt) c
  | .ishr, _ => wBin (fun _ _ => True) (fun a b => (Int32.ofInt a >>> (Int32.ofInt b &&& 31)).toInt) c
  | .ineg, _ => fun lo st h u => match st with
    | .inl a :: r => i32 (-a) ∧ c lo (.inl (-a) :: r) h u
    | _ => False
  | .lsub, _ => wBinL (fun a b => i64 (a - b)) (fun a b => a - b) c
  | .lmul, _ => wBinL (fun a b => i64 (a * b)) (fun a b => a * b) c
  | .ldiv, _ => wBinL (fun a b => 0 ≤ a ∧ 0 < b) (fun a b => a / b) c
  | .lrem, _ => wBinL (fun a b => 0 ≤ a ∧ 0 < b) (fun a b => a % b) c
  | .land, _ => wBinL (fun _ _ => True) (fun a b => (Int64.ofInt a &&& Int64.ofInt b).toInt) c
  | .lor, _ => wBinL (fun _ _ => True) (fun a b => (Int64.ofInt a ||| Int64.ofInt b).toInt) c
  | .lshl, _ => wShL (fun a b => (Int64.ofInt a <<< ((Int32.ofInt b).toInt64 &&& 63)).toInt) c
  | .lshr, _ => wShL (fun a b => (Int64.ofInt a >>> ((Int32.ofInt b).toInt64 &&& 63)).toInt) c
  | .lushr, _ => wShL (fun a b => (((Int64.ofInt a).toUInt64 >>> ((Int32.ofInt b).toInt64.toUInt64 &&& Int64.toUInt64 63)).toInt64).toInt) c
  | .i2l, _ => fun lo st h u => match st with
    | .inl a :: r => c lo (.inr (.inl a) :: r) h u
    | _ => False
  | .l2i, _ => fun lo st h u => match st with
    | .inr (.inl a) :: r => c lo (.inl ((Int64.ofInt a).toInt32).toInt :: r) h u
    | _ => False
  | .lcmp, _ => fun lo st h u => match st with
    | .inr (.inl b) :: .inr (.inl a) :: r => c lo (.inl (if b < a then 1 else if a = b then 0 else -1) :: r) h u
    | _ => False
  | .dup, _ => fun lo st h u => match st with
    | .inl a :: r => c lo (.inl a :: .inl a :: r) h u
    | .inr (.inr (some a)) :: r => c lo (.inr (.inr (some a)) :: .inr (.inr (some a)) :: r) h u
    | _ => False
  | .dup2, _ => fun lo st h u => match st with
    | .inl a :: .inr (.inr (some b)) :: r => c lo (.inl a :: .inr (.inr (some b)) :: .inl a :: .inr (.inr (some b)) :: r) h u
    | _ => False
  | .pop, _ => fun lo st h u => match st with
    | .inl _ :: r => c lo r h u
    | _ => False
  | .iaload, _ => wIald c
  | .baload, _ => wBald c
  | .iastore, _ => wIast c
  | .bastore, _ => wBast c
  | .aaload, _ => wAald c
  | .aastore, _ => wAast c
  | .arraylength, _ => wAlen c
  | .ifCond p _, [t] => wIf0 (ab_cond p) (K t) c
  | .if_icmp p _, [t] => wIf (ab_cond p) (K t) c
  | .goto _, [t] => K t
  | .tableswitch _ a b _, td :: ts => fun lo st h u => match st with
    | .inl z :: r => ((z < a ∨ b < z) → K td lo r h u) ∧ wTab K z lo r h u a ts
    | _ => False
  | .lookupswitch _ ps, td :: ts => fun lo st h u => match st with
    | .inl z :: r => wLk K z lo r h u td ps.toList ts
    | _ => False
  | .getfield _, [cc, k, r, _] => wGet cc k r c
  | .putfield _, [cc, k, r, _] => wPut cc k r c
  | .getstatic _, [p, _, _] => fun lo st h u => c lo (.inr (.inr (some p)) :: st) h u
  | .new _, [cc, _, _, _] => wNew y cc c
  | .newarray _, [kd] => wNewa y kd c
  | .anewarray _, [_] => wNewa y 2 c
  | .invokespecial _, [_] => fun lo st h u => match st with
    | .inr (.inr (some _)) :: r => r.length ≤ 4 ∧ c lo r h u
    | _ => False
  | .invokestatic _, [_] => fun lo st h u => match st with
    | .inl n :: .inl dp :: .inr (.inr (some b)) :: .inl sp :: .inr (.inr (some a)) :: r => (r.length ≤ 4 ∧ a < h.1.1 ∧ b < h.1.1 ∧ (h.1.2.1 a).1 = 0 ∧ (h.1.2.1 b).1 = 0 ∧ 0 ≤ sp ∧ 0 ≤ dp ∧ 0 ≤ n ∧ sp + n ≤ (h.1.2.1 a).2 ∧ dp + n ≤ (h.1.2.1 b).2) ∧ c lo r (h.1, upr h.2 b (fun j => if dp.toNat ≤ j ∧ j < dp.toNat + n.toNat then h.2 a (sp.toNat + (j - dp.toNat)) else h.2 b j)) u
    | _ => False
  | .invokestatic _, [0, _] => fun lo st h u => match st with
    | .inl a :: r => (r.length ≤ 4 ∧ i32 (-a)) ∧ c lo (.inl (if 0 ≤ a then a else -a) :: r) h u
    | _ => False
  | .invokestatic _, [1, _] => fun lo st h u => match st with
    | .inl b :: .inl a :: r => r.length ≤ 4 ∧ c lo (.inl (if a < b then b else a) :: r) h u
    | _ => False
  | .invokestatic _, [2, _] => fun lo st h u => match st with
    | .inr (.inl b) :: .inr (.inl a) :: r => r.length ≤ 4 ∧ c lo (.inr (.inl (if a < b then b else a)) :: r) h u
    | _ => False
  | .invokestatic _, [3, _] => fun lo st h u => match st with
    | .inl b :: .inl a :: r => r.length ≤ 4 ∧ c lo (.inl (if b < a then b else a) :: r) h u
    | _ => False
  | .invokevirtual _, [z, na, rk, _, _, ml, kc] => wCall y z na rk ml kc c
  | .invokestatic _, [z, na, rk, _, _, ml, kc] => wCall y z na rk ml kc c
  | .invokespecial _, [z, na, rk, _, _, ml, kc] => wCall y z na rk ml kc c
  | .ireturn, [b] => wRetI b Q
  | .lreturn, _ => wRetL Q
  | .return_, _ => wRetV Q
  | _, _ => fun _ _ _ _ => False
def wB (y : Nat) (Q : Option ab_V → ab_H → Prop) (K : Nat → ab_C) : List ab_I → ab_C
  | [] => fun _ _ _ _ => False
  | q :: r => wI y Q K q (wB y Q K r)

/-! how contracts are used -/
theorem CI.use {z : Nat} {a : List ab_V} {h : ab_H} {P : Int → ab_D → Prop} {R : Int} {D1 : ab_D} (c : CI z a h (fun r D' => r = R ∧ D' = D1)) (k : P R D1) : CI z a h P := c.mono (by rintro _ _ ⟨rfl, rfl⟩; exact k)
theorem CL.use {z : Nat} {a : List ab_V} {h : ab_H} {P : Int → ab_D → Prop} {R : Int} {D1 : ab_D} (c : CL z a h (fun r D' => r = R ∧ D' = D1)) (k : P R D1) : CL z a h P := c.mono (by rintro _ _ ⟨rfl, rfl⟩; exact k)
theorem CV.use {z : Nat} {a : List ab_V} {h : ab_H} {P : ab_D → Prop} {D1 : ab_D} (c : CV z a h (fun D' => D' = D1)) (k : P D1) : CV z a h P := c.mono (by rintro _ rfl; exact k)
/-- a method that only asks whether -/
def CB (z : Nat) (a : List ab_V) (E : ab_E) (D : ab_D) (c : Prop) : Prop := CI z a (E, D) (fun r D' => ((c ∧ r = 1) ∨ (¬ c ∧ r = 0)) ∧ D' = D)
theorem CB.use {z : Nat} {a : List ab_V} {E : ab_E} {D : ab_D} {P : Int → ab_D → Prop} {c : Prop} (q : CB z a E D c) (k1 : c → P 1 D) (k0 : ¬ c → P 0 D) : CI z a (E, D) P := q.mono (by
  rintro r D' ⟨⟨h1, rfl⟩ | ⟨h1, rfl⟩, rfl⟩
  · exact k1 h1
  · exact k0 h1)
theorem CB.iff {z : Nat} {a : List ab_V} {E : ab_E} {D : ab_D} {c c' : Prop} (q : CB z a E D c) (h : c ↔ c') : CB z a E D c' := q.mono (by
  rintro r D' ⟨h1, rfl⟩
  refine ⟨?_, rfl⟩
  rw [← h]
  exact h1)
theorem ups_self {D : ab_D} {a i : Nat} {z : Int} : ups D a i z a i = z := by simp [ups]
theorem ups_ne1 {D : ab_D} {a i a' i' : Nat} {z : Int} (h : a' ≠ a) : ups D a i z a' i' = D a' i' := by simp [ups, h]
theorem ups_ne2 {D : ab_D} {a i a' i' : Nat} {z : Int} (h : i' ≠ i) : ups D a i z a' i' = D a' i' := by simp [ups, h]
theorem upr_self {D : ab_D} {a : Nat} {f : Nat → Int} : upr D a f a = f := by simp [upr]
theorem upr_ne {D : ab_D} {a a' : Nat} {f : Nat → Int} (h : a' ≠ a) : upr D a f a' = D a' := by simp [upr, h]
theorem ups_upr {D : ab_D} {a i : Nat} {z : Int} {f g : Nat → Int} (h : ∀ j, g j = if j = i then z else f j) : ups (upr D a f) a i z = upr D a g := by
  funext a' j
  by_cases ha : a' = a
  · subst ha
    simp [ups, upr, h j]
  · simp [ups, upr, ha]
theorem upr_id {D : ab_D} {a : Nat} {f : Nat → Int} (h : ∀ j, f j = D a j) : upr D a f = D := by
  funext a' j
  by_cases ha : a' = a
  · subst ha
    simp [upr, h j]
  · simp [upr, ha]
theorem i32_of {z : Int} (h1 : -2147483648 ≤ z) (h2 : z < 2147483648) : i32 z := ⟨h1, h2⟩
theorem i64_of {z : Int} (h1 : -9223372036854775808 ≤ z) (h2 : z < 9223372036854775808) : i64 z := ⟨h1, h2⟩

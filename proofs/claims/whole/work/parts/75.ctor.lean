/-! the world as it is made, step by step (printed by wip/gen/gen_ctor.py) -/
def EEk (k L : Nat) : ab_E := (eOps.take k).foldl eOp (EE0 L)
section Made
variable {L y : Nat} {Q : Option ab_V → ab_H → Prop} {K : Nat → ab_C} {c : ab_C} {r : List ab_I} {lo st : List ab_V} {D : ab_D} {u : Nat × Nat}
set_option maxRecDepth 100000 in
theorem EEk_all : EEk 179 L = EE L := rfl
theorem EEk_0 : EEk 0 L = EE0 L := rfl
set_option maxRecDepth 100000 in
theorem kn_1 : (EEk 1 L).1 = 1 := rfl
set_option maxRecDepth 100000 in
theorem ks_1_0 : (EEk 1 L).2.1 0 = (9, 0) := rfl
set_option maxRecDepth 100000 in
theorem kO_0 : wNew y 6 c lo st (EEk 0 L, D) u = ((u.1 + 1 ≤ (mRm y).cells ∧ u.2 + 11 ≤ (mRm y).slots) ∧ c lo (.inr (.inr (some 0)) :: st) (EEk 1 L, upr D 0 (fun _ => 0)) (u.1 + 1, u.2 + 11)) := propext ⟨fun q => ⟨⟨q.1.1, q.1.2.1⟩, q.2⟩, fun q => ⟨⟨q.1.1, q.1.2, Nat.le_of_ble_eq_true rfl⟩, q.2⟩⟩
set_option maxRecDepth 100000 in
theorem kn_2 : (EEk 2 L).1 = 2 := rfl
set_option maxRecDepth 100000 in
theorem kA_1 : wNewa y 0 c lo (.inl 64 :: st) (EEk 1 L, D) u = ((u.1 + 1 ≤ (mRm y).cells ∧ u.2 + 64 ≤ (mRm y).slots) ∧ c lo (.inr (.inr (some 1)) :: st) (EEk 2 L, upr D 1 (fun _ => 0)) (u.1 + 1, u.2 + 64)) := propext ⟨fun q => ⟨⟨q.1.2.2.1, q.1.2.2.2.1⟩, q.2⟩, fun q => ⟨⟨by decide, by decide, q.1.1, q.1.2, Nat.le_of_ble_eq_true rfl⟩, q.2⟩⟩
set_option maxRecDepth 100000 in
theorem kP_2 {pc len f t : Nat} : wBc y Q K ((pc, .putfield f, len, [6, 0, 1, t]) :: r) c lo (.inr (.inr (some 1)) :: .inr (.inr (some 0)) :: st) (EEk 2 L, D) u = (wBc y Q K r c) lo st (EEk 3 L, D) u := propext ⟨fun q => q.2, fun q => ⟨⟨Nat.le_of_ble_eq_true rfl, rfl, Nat.le_of_ble_eq_true rfl⟩, q⟩⟩
set_option maxRecDepth 100000 in
theorem kn_4 : (EEk 4 L).1 = 3 := rfl
set_option maxRecDepth 100000 in
theorem ks_4_2 : (EEk 4 L).2.1 2 = (6, 0) := rfl
set_option maxRecDepth 100000 in
theorem kO_3 : wNew y 3 c lo st (EEk 3 L, D) u = ((u.1 + 1 ≤ (mRm y).cells ∧ u.2 + 7 ≤ (mRm y).slots) ∧ c lo (.inr (.inr (some 2)) :: st) (EEk 4 L, upr D 2 (fun _ => 0)) (u.1 + 1, u.2 + 7)) := propext ⟨fun q => ⟨⟨q.1.1, q.1.2.1⟩, q.2⟩, fun q => ⟨⟨q.1.1, q.1.2, Nat.le_of_ble_eq_true rfl⟩, q.2⟩⟩
set_option maxRecDepth 100000 in
theorem kn_5 : (EEk 5 L).1 = 4 := rfl
set_option maxRecDepth 100000 in
theorem ks_5_3 : (EEk 5 L).2.1 3 = (4, 0) := rfl
set_option maxRecDepth 100000 in
theorem kO_4 : wNew y 1 c lo st (EEk 4 L, D) u = ((u.1 + 1 ≤ (mRm y).cells ∧ u.2 + 2 ≤ (mRm y).slots) ∧ c lo (.inr (.inr (some 3)) :: st) (EEk 5 L, upr D 3 (fun _ => 0)) (u.1 + 1, u.2 + 2)) := propext ⟨fun q => ⟨⟨q.1.1, q.1.2.1⟩, q.2⟩, fun q => ⟨⟨q.1.1, q.1.2, Nat.le_of_ble_eq_true rfl⟩, q.2⟩⟩
set_option maxRecDepth 100000 in
theorem kn_6 : (EEk 6 L).1 = 5 := rfl
set_option maxRecDepth 100000 in
theorem kA_5 : wNewa y 0 c lo (.inl 8 :: st) (EEk 5 L, D) u = ((u.1 + 1 ≤ (mRm y).cells ∧ u.2 + 8 ≤ (mRm y).slots) ∧ c lo (.inr (.inr (some 4)) :: st) (EEk 6 L, upr D 4 (fun _ => 0)) (u.1 + 1, u.2 + 8)) := propext ⟨fun q => ⟨⟨q.1.2.2.1, q.1.2.2.2.1⟩, q.2⟩, fun q => ⟨⟨by decide, by decide, q.1.1, q.1.2, Nat.le_of_ble_eq_true rfl⟩, q.2⟩⟩
set_option maxRecDepth 100000 in
theorem kP_6 {pc len f t : Nat} : wBc y Q K ((pc, .putfield f, len, [1, 0, 1, t]) :: r) c lo (.inr (.inr (some 4)) :: .inr (.inr (some 3)) :: st) (EEk 6 L, D) u = (wBc y Q K r c) lo st (EEk 7 L, D) u := propext ⟨fun q => q.2, fun q => ⟨⟨Nat.le_of_ble_eq_true rfl, rfl, Nat.le_of_ble_eq_true rfl⟩, q⟩⟩
set_option maxRecDepth 100000 in
theorem kn_8 : (EEk 8 L).1 = 6 := rfl
set_option maxRecDepth 100000 in
theorem kA_7 : wNewa y 0 c lo (.inl 56 :: st) (EEk 7 L, D) u = ((u.1 + 1 ≤ (mRm y).cells ∧ u.2 + 56 ≤ (mRm y).slots) ∧ c lo (.inr (.inr (some 5)) :: st) (EEk 8 L, upr D 5 (fun _ => 0)) (u.1 + 1, u.2 + 56)) := propext ⟨fun q => ⟨⟨q.1.2.2.1, q.1.2.2.2.1⟩, q.2⟩, fun q => ⟨⟨by decide, by decide, q.1.1, q.1.2, Nat.le_of_ble_eq_true rfl⟩, q.2⟩⟩
set_option maxRecDepth 100000 in
theorem kP_8 {pc len f t : Nat} : wBc y Q K ((pc, .putfield f, len, [1, 1, 1, t]) :: r) c lo (.inr (.inr (some 5)) :: .inr (.inr (some 3)) :: st) (EEk 8 L, D) u = (wBc y Q K r c) lo st (EEk 9 L, D) u := propext ⟨fun q => q.2, fun q => ⟨⟨Nat.le_of_ble_eq_true rfl, rfl, Nat.le_of_ble_eq_true rfl⟩, q⟩⟩
set_option maxRecDepth 100000 in
theorem kP_9 {pc len f t : Nat} : wBc y Q K ((pc, .putfield f, len, [3, 0, 1, t]) :: r) c lo (.inr (.inr (some 3)) :: .inr (.inr (some 2)) :: st) (EEk 9 L, D) u = (wBc y Q K r c) lo st (EEk 10 L, D) u := propext ⟨fun q => q.2, fun q => ⟨⟨Nat.le_of_ble_eq_true rfl, rfl, Nat.le_of_ble_eq_true rfl⟩, q⟩⟩
set_option maxRecDepth 100000 in
theorem kP_10 {pc len f t : Nat} : wBc y Q K ((pc, .putfield f, len, [6, 2, 1, t]) :: r) c lo (.inr (.inr (some 2)) :: .inr (.inr (some 0)) :: st) (EEk 10 L, D) u = (wBc y Q K r c) lo st (EEk 11 L, D) u := propext ⟨fun q => q.2, fun q => ⟨⟨Nat.le_of_ble_eq_true rfl, rfl, Nat.le_of_ble_eq_true rfl⟩, q⟩⟩
set_option maxRecDepth 100000 in
theorem kn_12 : (EEk 12 L).1 = 7 := rfl
set_option maxRecDepth 100000 in
theorem ks_12_6 : (EEk 12 L).2.1 6 = (4, 0) := rfl
set_option maxRecDepth 100000 in
theorem kO_11 : wNew y 1 c lo st (EEk 11 L, D) u = ((u.1 + 1 ≤ (mRm y).cells ∧ u.2 + 2 ≤ (mRm y).slots) ∧ c lo (.inr (.inr (some 6)) :: st) (EEk 12 L, upr D 6 (fun _ => 0)) (u.1 + 1, u.2 + 2)) := propext ⟨fun q => ⟨⟨q.1.1, q.1.2.1⟩, q.2⟩, fun q => ⟨⟨q.1.1, q.1.2, Nat.le_of_ble_eq_true rfl⟩, q.2⟩⟩
set_option maxRecDepth 100000 in
theorem kn_13 : (EEk 13 L).1 = 8 := rfl
set_option maxRecDepth 100000 in
theorem kA_12 : wNewa y 0 c lo (.inl 8 :: st) (EEk 12 L, D) u = ((u.1 + 1 ≤ (mRm y).cells ∧ u.2 + 8 ≤ (mRm y).slots) ∧ c lo (.inr (.inr (some 7)) :: st) (EEk 13 L, upr D 7 (fun _ => 0)) (u.1 + 1, u.2 + 8)) := propext ⟨fun q => ⟨⟨q.1.2.2.1, q.1.2.2.2.1⟩, q.2⟩, fun q => ⟨⟨by decide, by decide, q.1.1, q.1.2, Nat.le_of_ble_eq_true rfl⟩, q.2⟩⟩
set_option maxRecDepth 100000 in
theorem kP_13 {pc len f t : Nat} : wBc y Q K ((pc, .putfield f, len, [1, 0, 1, t]) :: r) c lo (.inr (.inr (some 7)) :: .inr (.inr (some 6)) :: st) (EEk 13 L, D) u = (wBc y Q K r c) lo st (EEk 14 L, D) u := propext ⟨fun q => q.2, fun q => ⟨⟨Nat.le_of_ble_eq_true rfl, rfl, Nat.le_of_ble_eq_true rfl⟩, q⟩⟩
set_option maxRecDepth 100000 in
theorem kn_15 : (EEk 15 L).1 = 9 := rfl
set_option maxRecDepth 100000 in
theorem kA_14 : wNewa y 0 c lo (.inl 56 :: st) (EEk 14 L, D) u = ((u.1 + 1 ≤ (mRm y).cells ∧ u.2 + 56 ≤ (mRm y).slots) ∧ c lo (.inr (.inr (some 8)) :: st) (EEk 15 L, upr D 8 (fun _ => 0)) (u.1 + 1, u.2 + 56)) := propext ⟨fun q => ⟨⟨q.1.2.2.1, q.1.2.2.2.1⟩, q.2⟩, fun q => ⟨⟨by decide, by decide, q.1.1, q.1.2, Nat.le_of_ble_eq_true rfl⟩, q.2⟩⟩
set_option maxRecDepth 100000 in
theorem kP_15 {pc len f t : Nat} : wBc y Q K ((pc, .putfield f, len, [1, 1, 1, t]) :: r) c lo (.inr (.inr (some 8)) :: .inr (.inr (some 6)) :: st) (EEk 15 L, D) u = (wBc y Q K r c) lo st (EEk 16 L, D) u := propext ⟨fun q => q.2, fun q => ⟨⟨Nat.le_of_ble_eq_true rfl, rfl, Nat.le_of_ble_eq_true rfl⟩, q⟩⟩
set_option maxRecDepth 100000 in
theorem kP_16 {pc len f t : Nat} : wBc y Q K ((pc, .putfield f, len, [6, 3, 1, t]) :: r) c lo (.inr (.inr (some 6)) :: .inr (.inr (some 0)) :: st) (EEk 16 L, D) u = (wBc y Q K r c) lo st (EEk 17 L, D) u := propext ⟨fun q => q.2, fun q => ⟨⟨Nat.le_of_ble_eq_true rfl, rfl, Nat.le_of_ble_eq_true rfl⟩, q⟩⟩
set_option maxRecDepth 100000 in
theorem kn_18 : (EEk 18 L).1 = 10 := rfl
set_option maxRecDepth 100000 in
theorem ks_18_9 : (EEk 18 L).2.1 9 = (7, 0) := rfl
set_option maxRecDepth 100000 in
theorem kO_17 : wNew y 4 c lo st (EEk 17 L, D) u = ((u.1 + 1 ≤ (mRm y).cells ∧ u.2 + 15 ≤ (mRm y).slots) ∧ c lo (.inr (.inr (some 9)) :: st) (EEk 18 L, upr D 9 (fun _ => 0)) (u.1 + 1, u.2 + 15)) := propext ⟨fun q => ⟨⟨q.1.1, q.1.2.1⟩, q.2⟩, fun q => ⟨⟨q.1.1, q.1.2, Nat.le_of_ble_eq_true rfl⟩, q.2⟩⟩
set_option maxRecDepth 100000 in
theorem kn_19 : (EEk 19 L).1 = 11 := rfl
set_option maxRecDepth 100000 in
theorem kA_18 : wNewa y 0 c lo (.inl 24 :: st) (EEk 18 L, D) u = ((u.1 + 1 ≤ (mRm y).cells ∧ u.2 + 24 ≤ (mRm y).slots) ∧ c lo (.inr (.inr (some 10)) :: st) (EEk 19 L, upr D 10 (fun _ => 0)) (u.1 + 1, u.2 + 24)) := propext ⟨fun q => ⟨⟨q.1.2.2.1, q.1.2.2.2.1⟩, q.2⟩, fun q => ⟨⟨by decide, by decide, q.1.1, q.1.2, Nat.le_of_ble_eq_true rfl⟩, q.2⟩⟩
set_option maxRecDepth 100000 in
theorem kP_19 {pc len f t : Nat} : wBc y Q K ((pc, .putfield f, len, [4, 2, 1, t]) :: r) c lo (.inr (.inr (some 10)) :: .inr (.inr (some 9)) :: st) (EEk 19 L, D) u = (wBc y Q K r c) lo st (EEk 20 L, D) u := propext ⟨fun q => q.2, fun q => ⟨⟨Nat.le_of_ble_eq_true rfl, rfl, Nat.le_of_ble_eq_true rfl⟩, q⟩⟩
set_option maxRecDepth 100000 in
theorem kn_21 : (EEk 21 L).1 = 12 := rfl
set_option maxRecDepth 100000 in
theorem kA_20 : wNewa y 0 c lo (.inl 24 :: st) (EEk 20 L, D) u = ((u.1 + 1 ≤ (mRm y).cells ∧ u.2 + 24 ≤ (mRm y).slots) ∧ c lo (.inr (.inr (some 11)) :: st) (EEk 21 L, upr D 11 (fun _ => 0)) (u.1 + 1, u.2 + 24)) := propext ⟨fun q => ⟨⟨q.1.2.2.1, q.1.2.2.2.1⟩, q.2⟩, fun q => ⟨⟨by decide, by decide, q.1.1, q.1.2, Nat.le_of_ble_eq_true rfl⟩, q.2⟩⟩
set_option maxRecDepth 100000 in
theorem kP_21 {pc len f t : Nat} : wBc y Q K ((pc, .putfield f, len, [4, 3, 1, t]) :: r) c lo (.inr (.inr (some 11)) :: .inr (.inr (some 9)) :: st) (EEk 21 L, D) u = (wBc y Q K r c) lo st (EEk 22 L, D) u := propext ⟨fun q => q.2, fun q => ⟨⟨Nat.le_of_ble_eq_true rfl, rfl, Nat.le_of_ble_eq_true rfl⟩, q⟩⟩
set_option maxRecDepth 100000 in
theorem kn_23 : (EEk 23 L).1 = 13 := rfl
set_option maxRecDepth 100000 in
theorem kA_22 : wNewa y 0 c lo (.inl 24 :: st) (EEk 22 L, D) u = ((u.1 + 1 ≤ (mRm y).cells ∧ u.2 + 24 ≤ (mRm y).slots) ∧ c lo (.inr (.inr (some 12)) :: st) (EEk 23 L, upr D 12 (fun _ => 0)) (u.1 + 1, u.2 + 24)) := propext ⟨fun q => ⟨⟨q.1.2.2.1, q.1.2.2.2.1⟩, q.2⟩, fun q => ⟨⟨by decide, by decide, q.1.1, q.1.2, Nat.le_of_ble_eq_true rfl⟩, q.2⟩⟩
set_option maxRecDepth 100000 in
theorem kP_23 {pc len f t : Nat} : wBc y Q K ((pc, .putfield f, len, [4, 4, 1, t]) :: r) c lo (.inr (.inr (some 12)) :: .inr (.inr (some 9)) :: st) (EEk 23 L, D) u = (wBc y Q K r c) lo st (EEk 24 L, D) u := propext ⟨fun q => q.2, fun q => ⟨⟨Nat.le_of_ble_eq_true rfl, rfl, Nat.le_of_ble_eq_true rfl⟩, q⟩⟩
set_option maxRecDepth 100000 in
theorem kn_25 : (EEk 25 L).1 = 14 := rfl
set_option maxRecDepth 100000 in
theorem kA_24 : wNewa y 0 c lo (.inl 24 :: st) (EEk 24 L, D) u = ((u.1 + 1 ≤ (mRm y).cells ∧ u.2 + 24 ≤ (mRm y).slots) ∧ c lo (.inr (.inr (some 13)) :: st) (EEk 25 L, upr D 13 (fun _ => 0)) (u.1 + 1, u.2 + 24)) := propext ⟨fun q => ⟨⟨q.1.2.2.1, q.1.2.2.2.1⟩, q.2⟩, fun q => ⟨⟨by decide, by decide, q.1.1, q.1.2, Nat.le_of_ble_eq_true rfl⟩, q.2⟩⟩
set_option maxRecDepth 100000 in
theorem kP_25 {pc len f t : Nat} : wBc y Q K ((pc, .putfield f, len, [4, 5, 1, t]) :: r) c lo (.inr (.inr (some 13)) :: .inr (.inr (some 9)) :: st) (EEk 25 L, D) u = (wBc y Q K r c) lo st (EEk 26 L, D) u := propext ⟨fun q => q.2, fun q => ⟨⟨Nat.le_of_ble_eq_true rfl, rfl, Nat.le_of_ble_eq_true rfl⟩, q⟩⟩
set_option maxRecDepth 100000 in
theorem kn_27 : (EEk 27 L).1 = 15 := rfl
set_option maxRecDepth 100000 in
theorem kA_26 : wNewa y 1 c lo (.inl 24 :: st) (EEk 26 L, D) u = ((u.1 + 1 ≤ (mRm y).cells ∧ u.2 + 24 ≤ (mRm y).slots) ∧ c lo (.inr (.inr (some 14)) :: st) (EEk 27 L, upr D 14 (fun _ => 0)) (u.1 + 1, u.2 + 24)) := propext ⟨fun q => ⟨⟨q.1.2.2.1, q.1.2.2.2.1⟩, q.2⟩, fun q => ⟨⟨by decide, by decide, q.1.1, q.1.2, Nat.le_of_ble_eq_true rfl⟩, q.2⟩⟩
set_option maxRecDepth 100000 in
theorem kP_27 {pc len f t : Nat} : wBc y Q K ((pc, .putfield f, len, [4, 6, 1, t]) :: r) c lo (.inr (.inr (some 14)) :: .inr (.inr (some 9)) :: st) (EEk 27 L, D) u = (wBc y Q K r c) lo st (EEk 28 L, D) u := propext ⟨fun q => q.2, fun q => ⟨⟨Nat.le_of_ble_eq_true rfl, rfl, Nat.le_of_ble_eq_true rfl⟩, q⟩⟩
set_option maxRecDepth 100000 in
theorem kn_29 : (EEk 29 L).1 = 16 := rfl
set_option maxRecDepth 100000 in
theorem kA_28 : wNewa y 0 c lo (.inl 24 :: st) (EEk 28 L, D) u = ((u.1 + 1 ≤ (mRm y).cells ∧ u.2 + 24 ≤ (mRm y).slots) ∧ c lo (.inr (.inr (some 15)) :: st) (EEk 29 L, upr D 15 (fun _ => 0)) (u.1 + 1, u.2 + 24)) := propext ⟨fun q => ⟨⟨q.1.2.2.1, q.1.2.2.2.1⟩, q.2⟩, fun q => ⟨⟨by decide, by decide, q.1.1, q.1.2, Nat.le_of_ble_eq_true rfl⟩, q.2⟩⟩
set_option maxRecDepth 100000 in
theorem kP_29 {pc len f t : Nat} : wBc y Q K ((pc, .putfield f, len, [4, 7, 1, t]) :: r) c lo (.inr (.inr (some 15)) :: .inr (.inr (some 9)) :: st) (EEk 29 L, D) u = (wBc y Q K r c) lo st (EEk 30 L, D) u := propext ⟨fun q => q.2, fun q => ⟨⟨Nat.le_of_ble_eq_true rfl, rfl, Nat.le_of_ble_eq_true rfl⟩, q⟩⟩
set_option maxRecDepth 100000 in
theorem kn_31 : (EEk 31 L).1 = 17 := rfl
set_option maxRecDepth 100000 in
theorem kA_30 : wNewa y 0 c lo (.inl 24 :: st) (EEk 30 L, D) u = ((u.1 + 1 ≤ (mRm y).cells ∧ u.2 + 24 ≤ (mRm y).slots) ∧ c lo (.inr (.inr (some 16)) :: st) (EEk 31 L, upr D 16 (fun _ => 0)) (u.1 + 1, u.2 + 24)) := propext ⟨fun q => ⟨⟨q.1.2.2.1, q.1.2.2.2.1⟩, q.2⟩, fun q => ⟨⟨by decide, by decide, q.1.1, q.1.2, Nat.le_of_ble_eq_true rfl⟩, q.2⟩⟩
set_option maxRecDepth 100000 in
theorem kP_31 {pc len f t : Nat} : wBc y Q K ((pc, .putfield f, len, [4, 8, 1, t]) :: r) c lo (.inr (.inr (some 16)) :: .inr (.inr (some 9)) :: st) (EEk 31 L, D) u = (wBc y Q K r c) lo st (EEk 32 L, D) u := propext ⟨fun q => q.2, fun q => ⟨⟨Nat.le_of_ble_eq_true rfl, rfl, Nat.le_of_ble_eq_true rfl⟩, q⟩⟩
set_option maxRecDepth 100000 in
theorem kn_33 : (EEk 33 L).1 = 18 := rfl
set_option maxRecDepth 100000 in
theorem kA_32 : wNewa y 0 c lo (.inl 6 :: st) (EEk 32 L, D) u = ((u.1 + 1 ≤ (mRm y).cells ∧ u.2 + 6 ≤ (mRm y).slots) ∧ c lo (.inr (.inr (some 17)) :: st) (EEk 33 L, upr D 17 (fun _ => 0)) (u.1 + 1, u.2 + 6)) := propext ⟨fun q => ⟨⟨q.1.2.2.1, q.1.2.2.2.1⟩, q.2⟩, fun q => ⟨⟨by decide, by decide, q.1.1, q.1.2, Nat.le_of_ble_eq_true rfl⟩, q.2⟩⟩
set_option maxRecDepth 100000 in
theorem kP_33 {pc len f t : Nat} : wBc y Q K ((pc, .putfield f, len, [4, 10, 1, t]) :: r) c lo (.inr (.inr (some 17)) :: .inr (.inr (some 9)) :: st) (EEk 33 L, D) u = (wBc y Q K r c) lo st (EEk 34 L, D) u := propext ⟨fun q => q.2, fun q => ⟨⟨Nat.le_of_ble_eq_true rfl, rfl, Nat.le_of_ble_eq_true rfl⟩, q⟩⟩
set_option maxRecDepth 100000 in
theorem kn_35 : (EEk 35 L).1 = 19 := rfl
set_option maxRecDepth 100000 in
theorem kA_34 : wNewa y 0 c lo (.inl 6 :: st) (EEk 34 L, D) u = ((u.1 + 1 ≤ (mRm y).cells ∧ u.2 + 6 ≤ (mRm y).slots) ∧ c lo (.inr (.inr (some 18)) :: st) (EEk 35 L, upr D 18 (fun _ => 0)) (u.1 + 1, u.2 + 6)) := propext ⟨fun q => ⟨⟨q.1.2.2.1, q.1.2.2.2.1⟩, q.2⟩, fun q => ⟨⟨by decide, by decide, q.1.1, q.1.2, Nat.le_of_ble_eq_true rfl⟩, q.2⟩⟩
set_option maxRecDepth 100000 in
theorem kP_35 {pc len f t : Nat} : wBc y Q K ((pc, .putfield f, len, [4, 11, 1, t]) :: r) c lo (.inr (.inr (some 18)) :: .inr (.inr (some 9)) :: st) (EEk 35 L, D) u = (wBc y Q K r c) lo st (EEk 36 L, D) u := propext ⟨fun q => q.2, fun q => ⟨⟨Nat.le_of_ble_eq_true rfl, rfl, Nat.le_of_ble_eq_true rfl⟩, q⟩⟩
set_option maxRecDepth 100000 in
theorem kn_37 : (EEk 37 L).1 = 20 := rfl
set_option maxRecDepth 100000 in
theorem kA_36 : wNewa y 1 c lo (.inl 6 :: st) (EEk 36 L, D) u = ((u.1 + 1 ≤ (mRm y).cells ∧ u.2 + 6 ≤ (mRm y).slots) ∧ c lo (.inr (.inr (some 19)) :: st) (EEk 37 L, upr D 19 (fun _ => 0)) (u.1 + 1, u.2 + 6)) := propext ⟨fun q => ⟨⟨q.1.2.2.1, q.1.2.2.2.1⟩, q.2⟩, fun q => ⟨⟨by decide, by decide, q.1.1, q.1.2, Nat.le_of_ble_eq_true rfl⟩, q.2⟩⟩
set_option maxRecDepth 100000 in
theorem kP_37 {pc len f t : Nat} : wBc y Q K ((pc, .putfield f, len, [4, 12, 1, t]) :: r) c lo (.inr (.inr (some 19)) :: .inr (.inr (some 9)) :: st) (EEk 37 L, D) u = (wBc y Q K r c) lo st (EEk 38 L, D) u := propext ⟨fun q => q.2, fun q => ⟨⟨Nat.le_of_ble_eq_true rfl, rfl, Nat.le_of_ble_eq_true rfl⟩, q⟩⟩
set_option maxRecDepth 100000 in
theorem kn_39 : (EEk 39 L).1 = 21 := rfl
set_option maxRecDepth 100000 in
theorem kA_38 : wNewa y 0 c lo (.inl 56 :: st) (EEk 38 L, D) u = ((u.1 + 1 ≤ (mRm y).cells ∧ u.2 + 56 ≤ (mRm y).slots) ∧ c lo (.inr (.inr (some 20)) :: st) (EEk 39 L, upr D 20 (fun _ => 0)) (u.1 + 1, u.2 + 56)) := propext ⟨fun q => ⟨⟨q.1.2.2.1, q.1.2.2.2.1⟩, q.2⟩, fun q => ⟨⟨by decide, by decide, q.1.1, q.1.2, Nat.le_of_ble_eq_true rfl⟩, q.2⟩⟩
set_option maxRecDepth 100000 in
theorem kP_39 {pc len f t : Nat} : wBc y Q K ((pc, .putfield f, len, [4, 13, 1, t]) :: r) c lo (.inr (.inr (some 20)) :: .inr (.inr (some 9)) :: st) (EEk 39 L, D) u = (wBc y Q K r c) lo st (EEk 40 L, D) u := propext ⟨fun q => q.2, fun q => ⟨⟨Nat.le_of_ble_eq_true rfl, rfl, Nat.le_of_ble_eq_true rfl⟩, q⟩⟩
set_option maxRecDepth 100000 in
theorem kP_40 {pc len f t : Nat} : wBc y Q K ((pc, .putfield f, len, [4, 0, 1, t]) :: r) c lo (.inr (.inr (some 6)) :: .inr (.inr (some 9)) :: st) (EEk 40 L, D) u = (wBc y Q K r c) lo st (EEk 41 L, D) u := propext ⟨fun q => q.2, fun q => ⟨⟨Nat.le_of_ble_eq_true rfl, rfl, Nat.le_of_ble_eq_true rfl⟩, q⟩⟩
set_option maxRecDepth 100000 in
theorem kP_41 {pc len f t : Nat} : wBc y Q K ((pc, .putfield f, len, [6, 4, 1, t]) :: r) c lo (.inr (.inr (some 9)) :: .inr (.inr (some 0)) :: st) (EEk 41 L, D) u = (wBc y Q K r c) lo st (EEk 42 L, D) u := propext ⟨fun q => q.2, fun q => ⟨⟨Nat.le_of_ble_eq_true rfl, rfl, Nat.le_of_ble_eq_true rfl⟩, q⟩⟩
set_option maxRecDepth 100000 in
theorem kn_43 : (EEk 43 L).1 = 22 := rfl
set_option maxRecDepth 100000 in
theorem ks_43_21 : (EEk 43 L).2.1 21 = (7, 0) := rfl
set_option maxRecDepth 100000 in
theorem kO_42 : wNew y 4 c lo st (EEk 42 L, D) u = ((u.1 + 1 ≤ (mRm y).cells ∧ u.2 + 15 ≤ (mRm y).slots) ∧ c lo (.inr (.inr (some 21)) :: st) (EEk 43 L, upr D 21 (fun _ => 0)) (u.1 + 1, u.2 + 15)) := propext ⟨fun q => ⟨⟨q.1.1, q.1.2.1⟩, q.2⟩, fun q => ⟨⟨q.1.1, q.1.2, Nat.le_of_ble_eq_true rfl⟩, q.2⟩⟩
set_option maxRecDepth 100000 in
theorem kn_44 : (EEk 44 L).1 = 23 := rfl
set_option maxRecDepth 100000 in
theorem kA_43 : wNewa y 0 c lo (.inl 24 :: st) (EEk 43 L, D) u = ((u.1 + 1 ≤ (mRm y).cells ∧ u.2 + 24 ≤ (mRm y).slots) ∧ c lo (.inr (.inr (some 22)) :: st) (EEk 44 L, upr D 22 (fun _ => 0)) (u.1 + 1, u.2 + 24)) := propext ⟨fun q => ⟨⟨q.1.2.2.1, q.1.2.2.2.1⟩, q.2⟩, fun q => ⟨⟨by decide, by decide, q.1.1, q.1.2, Nat.le_of_ble_eq_true rfl⟩, q.2⟩⟩
set_option maxRecDepth 100000 in
theorem kP_44 {pc len f t : Nat} : wBc y Q K ((pc, .putfield f, len, [4, 2, 1, t]) :: r) c lo (.inr (.inr (some 22)) :: .inr (.inr (some 21)) :: st) (EEk 44 L, D) u = (wBc y Q K r c) lo st (EEk 45 L, D) u := propext ⟨fun q => q.2, fun q => ⟨⟨Nat.le_of_ble_eq_true rfl, rfl, Nat.le_of_ble_eq_true rfl⟩, q⟩⟩
set_option maxRecDepth 100000 in
theorem kn_46 : (EEk 46 L).1 = 24 := rfl
set_option maxRecDepth 100000 in
theorem kA_45 : wNewa y 0 c lo (.inl 24 :: st) (EEk 45 L, D) u = ((u.1 + 1 ≤ (mRm y).cells ∧ u.2 + 24 ≤ (mRm y).slots) ∧ c lo (.inr (.inr (some 23)) :: st) (EEk 46 L, upr D 23 (fun _ => 0)) (u.1 + 1, u.2 + 24)) := propext ⟨fun q => ⟨⟨q.1.2.2.1, q.1.2.2.2.1⟩, q.2⟩, fun q => ⟨⟨by decide, by decide, q.1.1, q.1.2, Nat.le_of_ble_eq_true rfl⟩, q.2⟩⟩
set_option maxRecDepth 100000 in
theorem kP_46 {pc len f t : Nat} : wBc y Q K ((pc, .putfield f, len, [4, 3, 1, t]) :: r) c lo (.inr (.inr (some 23)) :: .inr (.inr (some 21)) :: st) (EEk 46 L, D) u = (wBc y Q K r c) lo st (EEk 47 L, D) u := propext ⟨fun q => q.2, fun q => ⟨⟨Nat.le_of_ble_eq_true rfl, rfl, Nat.le_of_ble_eq_true rfl⟩, q⟩⟩
set_option maxRecDepth 100000 in
theorem kn_48 : (EEk 48 L).1 = 25 := rfl
set_option maxRecDepth 100000 in
theorem kA_47 : wNewa y 0 c lo (.inl 24 :: st) (EEk 47 L, D) u = ((u.1 + 1 ≤ (mRm y).cells ∧ u.2 + 24 ≤ (mRm y).slots) ∧ c lo (.inr (.inr (some 24)) :: st) (EEk 48 L, upr D 24 (fun _ => 0)) (u.1 + 1, u.2 + 24)) := propext ⟨fun q => ⟨⟨q.1.2.2.1, q.1.2.2.2.1⟩, q.2⟩, fun q => ⟨⟨by decide, by decide, q.1.1, q.1.2, Nat.le_of_ble_eq_true rfl⟩, q.2⟩⟩
set_option maxRecDepth 100000 in
theorem kP_48 {pc len f t : Nat} : wBc y Q K ((pc, .putfield f, len, [4, 4, 1, t]) :: r) c lo (.inr (.inr (some 24)) :: .inr (.inr (some 21)) :: st) (EEk 48 L, D) u = (wBc y Q K r c) lo st (EEk 49 L, D) u := propext ⟨fun q => q.2, fun q => ⟨⟨Nat.le_of_ble_eq_true rfl, rfl, Nat.le_of_ble_eq_true rfl⟩, q⟩⟩
set_option maxRecDepth 100000 in
theorem kn_50 : (EEk 50 L).1 = 26 := rfl
set_option maxRecDepth 100000 in
theorem kA_49 : wNewa y 0 c lo (.inl 24 :: st) (EEk 49 L, D) u = ((u.1 + 1 ≤ (mRm y).cells ∧ u.2 + 24 ≤ (mRm y).slots) ∧ c lo (.inr (.inr (some 25)) :: st) (EEk 50 L, upr D 25 (fun _ => 0)) (u.1 + 1, u.2 + 24)) := propext ⟨fun q => ⟨⟨q.1.2.2.1, q.1.2.2.2.1⟩, q.2⟩, fun q => ⟨⟨by decide, by decide, q.1.1, q.1.2, Nat.le_of_ble_eq_true rfl⟩, q.2⟩⟩
set_option maxRecDepth 100000 in
theorem kP_50 {pc len f t : Nat} : wBc y Q K ((pc, .putfield f, len, [4, 5, 1, t]) :: r) c lo (.inr (.inr (some 25)) :: .inr (.inr (some 21)) :: st) (EEk 50 L, D) u = (wBc y Q K r c) lo st (EEk 51 L, D) u := propext ⟨fun q => q.2, fun q => ⟨⟨Nat.le_of_ble_eq_true rfl, rfl, Nat.le_of_ble_eq_true rfl⟩, q⟩⟩
set_option maxRecDepth 100000 in
theorem kn_52 : (EEk 52 L).1 = 27 := rfl
set_option maxRecDepth 100000 in
theorem kA_51 : wNewa y 1 c lo (.inl 24 :: st) (EEk 51 L, D) u = ((u.1 + 1 ≤ (mRm y).cells ∧ u.2 + 24 ≤ (mRm y).slots) ∧ c lo (.inr (.inr (some 26)) :: st) (EEk 52 L, upr D 26 (fun _ => 0)) (u.1 + 1, u.2 + 24)) := propext ⟨fun q => ⟨⟨q.1.2.2.1, q.1.2.2.2.1⟩, q.2⟩, fun q => ⟨⟨by decide, by decide, q.1.1, q.1.2, Nat.le_of_ble_eq_true rfl⟩, q.2⟩⟩
set_option maxRecDepth 100000 in
theorem kP_52 {pc len f t : Nat} : wBc y Q K ((pc, .putfield f, len, [4, 6, 1, t]) :: r) c lo (.inr (.inr (some 26)) :: .inr (.inr (some 21)) :: st) (EEk 52 L, D) u = (wBc y Q K r c) lo st (EEk 53 L, D) u := propext ⟨fun q => q.2, fun q => ⟨⟨Nat.le_of_ble_eq_true rfl, rfl, Nat.le_of_ble_eq_true rfl⟩, q⟩⟩
set_option maxRecDepth 100000 in
theorem kn_54 : (EEk 54 L).1 = 28 := rfl
set_option maxRecDepth 100000 in
theorem kA_53 : wNewa y 0 c lo (.inl 24 :: st) (EEk 53 L, D) u = ((u.1 + 1 ≤ (mRm y).cells ∧ u.2 + 24 ≤ (mRm y).slots) ∧ c lo (.inr (.inr (some 27)) :: st) (EEk 54 L, upr D 27 (fun _ => 0)) (u.1 + 1, u.2 + 24)) := propext ⟨fun q => ⟨⟨q.1.2.2.1, q.1.2.2.2.1⟩, q.2⟩, fun q => ⟨⟨by decide, by decide, q.1.1, q.1.2, Nat.le_of_ble_eq_true rfl⟩, q.2⟩⟩
set_option maxRecDepth 100000 in
theorem kP_54 {pc len f t : Nat} : wBc y Q K ((pc, .putfield f, len, [4, 7, 1, t]) :: r) c lo (.inr (.inr (some 27)) :: .inr (.inr (some 21)) :: st) (EEk 54 L, D) u = (wBc y Q K r c) lo st (EEk 55 L, D) u := propext ⟨fun q => q.2, fun q => ⟨⟨Nat.le_of_ble_eq_true rfl, rfl, Nat.le_of_ble_eq_true rfl⟩, q⟩⟩
set_option maxRecDepth 100000 in
theorem kn_56 : (EEk 56 L).1 = 29 := rfl
set_option maxRecDepth 100000 in
theorem kA_55 : wNewa y 0 c lo (.inl 24 :: st) (EEk 55 L, D) u = ((u.1 + 1 ≤ (mRm y).cells ∧ u.2 + 24 ≤ (mRm y).slots) ∧ c lo (.inr (.inr (some 28)) :: st) (EEk 56 L, upr D 28 (fun _ => 0)) (u.1 + 1, u.2 + 24)) := propext ⟨fun q => ⟨⟨q.1.2.2.1, q.1.2.2.2.1⟩, q.2⟩, fun q => ⟨⟨by decide, by decide, q.1.1, q.1.2, Nat.le_of_ble_eq_true rfl⟩, q.2⟩⟩
set_option maxRecDepth 100000 in
theorem kP_56 {pc len f t : Nat} : wBc y Q K ((pc, .putfield f, len, [4, 8, 1, t]) :: r) c lo (.inr (.inr (some 28)) :: .inr (.inr (some 21)) :: st) (EEk 56 L, D) u = (wBc y Q K r c) lo st (EEk 57 L, D) u := propext ⟨fun q => q.2, fun q => ⟨⟨Nat.le_of_ble_eq_true rfl, rfl, Nat.le_of_ble_eq_true rfl⟩, q⟩⟩
set_option maxRecDepth 100000 in
theorem kn_58 : (EEk 58 L).1 = 30 := rfl
set_option maxRecDepth 100000 in
theorem kA_57 : wNewa y 0 c lo (.inl 6 :: st) (EEk 57 L, D) u = ((u.1 + 1 ≤ (mRm y).cells ∧ u.2 + 6 ≤ (mRm y).slots) ∧ c lo (.inr (.inr (some 29)) :: st) (EEk 58 L, upr D 29 (fun _ => 0)) (u.1 + 1, u.2 + 6)) := propext ⟨fun q => ⟨⟨q.1.2.2.1, q.1.2.2.2.1⟩, q.2⟩, fun q => ⟨⟨by decide, by decide, q.1.1, q.1.2, Nat.le_of_ble_eq_true rfl⟩, q.2⟩⟩
set_option maxRecDepth 100000 in
theorem kP_58 {pc len f t : Nat} : wBc y Q K ((pc, .putfield f, len, [4, 10, 1, t]) :: r) c lo (.inr (.inr (some 29)) :: .inr (.inr (some 21)) :: st) (EEk 58 L, D) u = (wBc y Q K r c) lo st (EEk 59 L, D) u := propext ⟨fun q => q.2, fun q => ⟨⟨Nat.le_of_ble_eq_true rfl, rfl, Nat.le_of_ble_eq_true rfl⟩, q⟩⟩
set_option maxRecDepth 100000 in
theorem kn_60 : (EEk 60 L).1 = 31 := rfl
set_option maxRecDepth 100000 in
theorem kA_59 : wNewa y 0 c lo (.inl 6 :: st) (EEk 59 L, D) u = ((u.1 + 1 ≤ (mRm y).cells ∧ u.2 + 6 ≤ (mRm y).slots) ∧ c lo (.inr (.inr (some 30)) :: st) (EEk 60 L, upr D 30 (fun _ => 0)) (u.1 + 1, u.2 + 6)) := propext ⟨fun q => ⟨⟨q.1.2.2.1, q.1.2.2.2.1⟩, q.2⟩, fun q => ⟨⟨by decide, by decide, q.1.1, q.1.2, Nat.le_of_ble_eq_true rfl⟩, q.2⟩⟩
set_option maxRecDepth 100000 in
theorem kP_60 {pc len f t : Nat} : wBc y Q K ((pc, .putfield f, len, [4, 11, 1, t]) :: r) c lo (.inr (.inr (some 30)) :: .inr (.inr (some 21)) :: st) (EEk 60 L, D) u = (wBc y Q K r c) lo st (EEk 61 L, D) u := propext ⟨fun q => q.2, fun q => ⟨⟨Nat.le_of_ble_eq_true rfl, rfl, Nat.le_of_ble_eq_true rfl⟩, q⟩⟩
set_option maxRecDepth 100000 in
theorem kn_62 : (EEk 62 L).1 = 32 := rfl
set_option maxRecDepth 100000 in
theorem kA_61 : wNewa y 1 c lo (.inl 6 :: st) (EEk 61 L, D) u = ((u.1 + 1 ≤ (mRm y).cells ∧ u.2 + 6 ≤ (mRm y).slots) ∧ c lo (.inr (.inr (some 31)) :: st) (EEk 62 L, upr D 31 (fun _ => 0)) (u.1 + 1, u.2 + 6)) := propext ⟨fun q => ⟨⟨q.1.2.2.1, q.1.2.2.2.1⟩, q.2⟩, fun q => ⟨⟨by decide, by decide, q.1.1, q.1.2, Nat.le_of_ble_eq_true rfl⟩, q.2⟩⟩
set_option maxRecDepth 100000 in
theorem kP_62 {pc len f t : Nat} : wBc y Q K ((pc, .putfield f, len, [4, 12, 1, t]) :: r) c lo (.inr (.inr (some 31)) :: .inr (.inr (some 21)) :: st) (EEk 62 L, D) u = (wBc y Q K r c) lo st (EEk 63 L, D) u := propext ⟨fun q => q.2, fun q => ⟨⟨Nat.le_of_ble_eq_true rfl, rfl, Nat.le_of_ble_eq_true rfl⟩, q⟩⟩
set_option maxRecDepth 100000 in
theorem kn_64 : (EEk 64 L).1 = 33 := rfl
set_option maxRecDepth 100000 in
theorem kA_63 : wNewa y 0 c lo (.inl 56 :: st) (EEk 63 L, D) u = ((u.1 + 1 ≤ (mRm y).cells ∧ u.2 + 56 ≤ (mRm y).slots) ∧ c lo (.inr (.inr (some 32)) :: st) (EEk 64 L, upr D 32 (fun _ => 0)) (u.1 + 1, u.2 + 56)) := propext ⟨fun q => ⟨⟨q.1.2.2.1, q.1.2.2.2.1⟩, q.2⟩, fun q => ⟨⟨by decide, by decide, q.1.1, q.1.2, Nat.le_of_ble_eq_true rfl⟩, q.2⟩⟩
set_option maxRecDepth 100000 in
theorem kP_64 {pc len f t : Nat} : wBc y Q K ((pc, .putfield f, len, [4, 13, 1, t]) :: r) c lo (.inr (.inr (some 32)) :: .inr (.inr (some 21)) :: st) (EEk 64 L, D) u = (wBc y Q K r c) lo st (EEk 65 L, D) u := propext ⟨fun q => q.2, fun q => ⟨⟨Nat.le_of_ble_eq_true rfl, rfl, Nat.le_of_ble_eq_true rfl⟩, q⟩⟩
set_option maxRecDepth 100000 in
theorem kP_65 {pc len f t : Nat} : wBc y Q K ((pc, .putfield f, len, [4, 0, 1, t]) :: r) c lo (.inr (.inr (some 6)) :: .inr (.inr (some 21)) :: st) (EEk 65 L, D) u = (wBc y Q K r c) lo st (EEk 66 L, D) u := propext ⟨fun q => q.2, fun q => ⟨⟨Nat.le_of_ble_eq_true rfl, rfl, Nat.le_of_ble_eq_true rfl⟩, q⟩⟩
set_option maxRecDepth 100000 in
theorem kP_66 {pc len f t : Nat} : wBc y Q K ((pc, .putfield f, len, [6, 5, 1, t]) :: r) c lo (.inr (.inr (some 21)) :: .inr (.inr (some 0)) :: st) (EEk 66 L, D) u = (wBc y Q K r c) lo st (EEk 67 L, D) u := propext ⟨fun q => q.2, fun q => ⟨⟨Nat.le_of_ble_eq_true rfl, rfl, Nat.le_of_ble_eq_true rfl⟩, q⟩⟩
set_option maxRecDepth 100000 in
theorem kn_68 : (EEk 68 L).1 = 34 := rfl
set_option maxRecDepth 100000 in
theorem kA_67 : wNewa y 2 c lo (.inl 2 :: st) (EEk 67 L, D) u = ((u.1 + 1 ≤ (mRm y).cells ∧ u.2 + 2 ≤ (mRm y).slots) ∧ c lo (.inr (.inr (some 33)) :: st) (EEk 68 L, upr D 33 (fun _ => 0)) (u.1 + 1, u.2 + 2)) := propext ⟨fun q => ⟨⟨q.1.2.2.1, q.1.2.2.2.1⟩, q.2⟩, fun q => ⟨⟨by decide, by decide, q.1.1, q.1.2, Nat.le_of_ble_eq_true rfl⟩, q.2⟩⟩
set_option maxRecDepth 100000 in
theorem kn_69 : (EEk 69 L).1 = 35 := rfl
set_option maxRecDepth 100000 in
theorem ks_69_34 : (EEk 69 L).2.1 34 = (7, 0) := rfl
set_option maxRecDepth 100000 in
theorem kO_68 : wNew y 4 c lo st (EEk 68 L, D) u = ((u.1 + 1 ≤ (mRm y).cells ∧ u.2 + 15 ≤ (mRm y).slots) ∧ c lo (.inr (.inr (some 34)) :: st) (EEk 69 L, upr D 34 (fun _ => 0)) (u.1 + 1, u.2 + 15)) := propext ⟨fun q => ⟨⟨q.1.1, q.1.2.1⟩, q.2⟩, fun q => ⟨⟨q.1.1, q.1.2, Nat.le_of_ble_eq_true rfl⟩, q.2⟩⟩
set_option maxRecDepth 100000 in
theorem kn_70 : (EEk 70 L).1 = 36 := rfl
set_option maxRecDepth 100000 in
theorem kA_69 : wNewa y 0 c lo (.inl 24 :: st) (EEk 69 L, D) u = ((u.1 + 1 ≤ (mRm y).cells ∧ u.2 + 24 ≤ (mRm y).slots) ∧ c lo (.inr (.inr (some 35)) :: st) (EEk 70 L, upr D 35 (fun _ => 0)) (u.1 + 1, u.2 + 24)) := propext ⟨fun q => ⟨⟨q.1.2.2.1, q.1.2.2.2.1⟩, q.2⟩, fun q => ⟨⟨by decide, by decide, q.1.1, q.1.2, Nat.le_of_ble_eq_true rfl⟩, q.2⟩⟩
set_option maxRecDepth 100000 in
theorem kP_70 {pc len f t : Nat} : wBc y Q K ((pc, .putfield f, len, [4, 2, 1, t]) :: r) c lo (.inr (.inr (some 35)) :: .inr (.inr (some 34)) :: st) (EEk 70 L, D) u = (wBc y Q K r c) lo st (EEk 71 L, D) u := propext ⟨fun q => q.2, fun q => ⟨⟨Nat.le_of_ble_eq_true rfl, rfl, Nat.le_of_ble_eq_true rfl⟩, q⟩⟩
set_option maxRecDepth 100000 in
theorem kn_72 : (EEk 72 L).1 = 37 := rfl
set_option maxRecDepth 100000 in
theorem kA_71 : wNewa y 0 c lo (.inl 24 :: st) (EEk 71 L, D) u = ((u.1 + 1 ≤ (mRm y).cells ∧ u.2 + 24 ≤ (mRm y).slots) ∧ c lo (.inr (.inr (some 36)) :: st) (EEk 72 L, upr D 36 (fun _ => 0)) (u.1 + 1, u.2 + 24)) := propext ⟨fun q => ⟨⟨q.1.2.2.1, q.1.2.2.2.1⟩, q.2⟩, fun q => ⟨⟨by decide, by decide, q.1.1, q.1.2, Nat.le_of_ble_eq_true rfl⟩, q.2⟩⟩
set_option maxRecDepth 100000 in
theorem kP_72 {pc len f t : Nat} : wBc y Q K ((pc, .putfield f, len, [4, 3, 1, t]) :: r) c lo (.inr (.inr (some 36)) :: .inr (.inr (some 34)) :: st) (EEk 72 L, D) u = (wBc y Q K r c) lo st (EEk 73 L, D) u := propext ⟨fun q => q.2, fun q => ⟨⟨Nat.le_of_ble_eq_true rfl, rfl, Nat.le_of_ble_eq_true rfl⟩, q⟩⟩
set_option maxRecDepth 100000 in
theorem kn_74 : (EEk 74 L).1 = 38 := rfl
set_option maxRecDepth 100000 in
theorem kA_73 : wNewa y 0 c lo (.inl 24 :: st) (EEk 73 L, D) u = ((u.1 + 1 ≤ (mRm y).cells ∧ u.2 + 24 ≤ (mRm y).slots) ∧ c lo (.inr (.inr (some 37)) :: st) (EEk 74 L, upr D 37 (fun _ => 0)) (u.1 + 1, u.2 + 24)) := propext ⟨fun q => ⟨⟨q.1.2.2.1, q.1.2.2.2.1⟩, q.2⟩, fun q => ⟨⟨by decide, by decide, q.1.1, q.1.2, Nat.le_of_ble_eq_true rfl⟩, q.2⟩⟩
set_option maxRecDepth 100000 in
theorem kP_74 {pc len f t : Nat} : wBc y Q K ((pc, .putfield f, len, [4, 4, 1, t]) :: r) c lo (.inr (.inr (some 37)) :: .inr (.inr (some 34)) :: st) (EEk 74 L, D) u = (wBc y Q K r c) lo st (EEk 75 L, D) u := propext ⟨fun q => q.2, fun q => ⟨⟨Nat.le_of_ble_eq_true rfl, rfl, Nat.le_of_ble_eq_true rfl⟩, q⟩⟩
set_option maxRecDepth 100000 in
theorem kn_76 : (EEk 76 L).1 = 39 := rfl
set_option maxRecDepth 100000 in
theorem kA_75 : wNewa y 0 c lo (.inl 24 :: st) (EEk 75 L, D) u = ((u.1 + 1 ≤ (mRm y).cells ∧ u.2 + 24 ≤ (mRm y).slots) ∧ c lo (.inr (.inr (some 38)) :: st) (EEk 76 L, upr D 38 (fun _ => 0)) (u.1 + 1, u.2 + 24)) := propext ⟨fun q => ⟨⟨q.1.2.2.1, q.1.2.2.2.1⟩, q.2⟩, fun q => ⟨⟨by decide, by decide, q.1.1, q.1.2, Nat.le_of_ble_eq_true rfl⟩, q.2⟩⟩
set_option maxRecDepth 100000 in
theorem kP_76 {pc len f t : Nat} : wBc y Q K ((pc, .putfield f, len, [4, 5, 1, t]) :: r) c lo (.inr (.inr (some 38)) :: .inr (.inr (some 34)) :: st) (EEk 76 L, D) u = (wBc y Q K r c) lo st (EEk 77 L, D) u := propext ⟨fun q => q.2, fun q => ⟨⟨Nat.le_of_ble_eq_true rfl, rfl, Nat.le_of_ble_eq_true rfl⟩, q⟩⟩
set_option maxRecDepth 100000 in
theorem kn_78 : (EEk 78 L).1 = 40 := rfl
set_option maxRecDepth 100000 in
theorem kA_77 : wNewa y 1 c lo (.inl 24 :: st) (EEk 77 L, D) u = ((u.1 + 1 ≤ (mRm y).cells ∧ u.2 + 24 ≤ (mRm y).slots) ∧ c lo (.inr (.inr (some 39)) :: st) (EEk 78 L, upr D 39 (fun _ => 0)) (u.1 + 1, u.2 + 24)) := propext ⟨fun q => ⟨⟨q.1.2.2.1, q.1.2.2.2.1⟩, q.2⟩, fun q => ⟨⟨by decide, by decide, q.1.1, q.1.2, Nat.le_of_ble_eq_true rfl⟩, q.2⟩⟩
set_option maxRecDepth 100000 in
theorem kP_78 {pc len f t : Nat} : wBc y Q K ((pc, .putfield f, len, [4, 6, 1, t]) :: r) c lo (.inr (.inr (some 39)) :: .inr (.inr (some 34)) :: st) (EEk 78 L, D) u = (wBc y Q K r c) lo st (EEk 79 L, D) u := propext ⟨fun q => q.2, fun q => ⟨⟨Nat.le_of_ble_eq_true rfl, rfl, Nat.le_of_ble_eq_true rfl⟩, q⟩⟩
set_option maxRecDepth 100000 in
theorem kn_80 : (EEk 80 L).1 = 41 := rfl
set_option maxRecDepth 100000 in
theorem kA_79 : wNewa y 0 c lo (.inl 24 :: st) (EEk 79 L, D) u = ((u.1 + 1 ≤ (mRm y).cells ∧ u.2 + 24 ≤ (mRm y).slots) ∧ c lo (.inr (.inr (some 40)) :: st) (EEk 80 L, upr D 40 (fun _ => 0)) (u.1 + 1, u.2 + 24)) := propext ⟨fun q => ⟨⟨q.1.2.2.1, q.1.2.2.2.1⟩, q.2⟩, fun q => ⟨⟨by decide, by decide, q.1.1, q.1.2, Nat.le_of_ble_eq_true rfl⟩, q.2⟩⟩
set_option maxRecDepth 100000 in
theorem kP_80 {pc len f t : Nat} : wBc y Q K ((pc, .putfield f, len, [4, 7, 1, t]) :: r) c lo (.inr (.inr (some 40)) :: .inr (.inr (some 34)) :: st) (EEk 80 L, D) u = (wBc y Q K r c) lo st (EEk 81 L, D) u := propext ⟨fun q => q.2, fun q => ⟨⟨Nat.le_of_ble_eq_true rfl, rfl, Nat.le_of_ble_eq_true rfl⟩, q⟩⟩
set_option maxRecDepth 100000 in
theorem kn_82 : (EEk 82 L).1 = 42 := rfl
set_option maxRecDepth 100000 in
theorem kA_81 : wNewa y 0 c lo (.inl 24 :: st) (EEk 81 L, D) u = ((u.1 + 1 ≤ (mRm y).cells ∧ u.2 + 24 ≤ (mRm y).slots) ∧ c lo (.inr (.inr (some 41)) :: st) (EEk 82 L, upr D 41 (fun _ => 0)) (u.1 + 1, u.2 + 24)) := propext ⟨fun q => ⟨⟨q.1.2.2.1, q.1.2.2.2.1⟩, q.2⟩, fun q => ⟨⟨by decide, by decide, q.1.1, q.1.2, Nat.le_of_ble_eq_true rfl⟩, q.2⟩⟩
set_option maxRecDepth 100000 in
theorem kP_82 {pc len f t : Nat} : wBc y Q K ((pc, .putfield f, len, [4, 8, 1, t]) :: r) c lo (.inr (.inr (some 41)) :: .inr (.inr (some 34)) :: st) (EEk 82 L, D) u = (wBc y Q K r c) lo st (EEk 83 L, D) u := propext ⟨fun q => q.2, fun q => ⟨⟨Nat.le_of_ble_eq_true rfl, rfl, Nat.le_of_ble_eq_true rfl⟩, q⟩⟩
set_option maxRecDepth 100000 in
theorem kn_84 : (EEk 84 L).1 = 43 := rfl
set_option maxRecDepth 100000 in
theorem kA_83 : wNewa y 0 c lo (.inl 6 :: st) (EEk 83 L, D) u = ((u.1 + 1 ≤ (mRm y).cells ∧ u.2 + 6 ≤ (mRm y).slots) ∧ c lo (.inr (.inr (some 42)) :: st) (EEk 84 L, upr D 42 (fun _ => 0)) (u.1 + 1, u.2 + 6)) := propext ⟨fun q => ⟨⟨q.1.2.2.1, q.1.2.2.2.1⟩, q.2⟩, fun q => ⟨⟨by decide, by decide, q.1.1, q.1.2, Nat.le_of_ble_eq_true rfl⟩, q.2⟩⟩
set_option maxRecDepth 100000 in
theorem kP_84 {pc len f t : Nat} : wBc y Q K ((pc, .putfield f, len, [4, 10, 1, t]) :: r) c lo (.inr (.inr (some 42)) :: .inr (.inr (some 34)) :: st) (EEk 84 L, D) u = (wBc y Q K r c) lo st (EEk 85 L, D) u := propext ⟨fun q => q.2, fun q => ⟨⟨Nat.le_of_ble_eq_true rfl, rfl, Nat.le_of_ble_eq_true rfl⟩, q⟩⟩
set_option maxRecDepth 100000 in
theorem kn_86 : (EEk 86 L).1 = 44 := rfl
set_option maxRecDepth 100000 in
theorem kA_85 : wNewa y 0 c lo (.inl 6 :: st) (EEk 85 L, D) u = ((u.1 + 1 ≤ (mRm y).cells ∧ u.2 + 6 ≤ (mRm y).slots) ∧ c lo (.inr (.inr (some 43)) :: st) (EEk 86 L, upr D 43 (fun _ => 0)) (u.1 + 1, u.2 + 6)) := propext ⟨fun q => ⟨⟨q.1.2.2.1, q.1.2.2.2.1⟩, q.2⟩, fun q => ⟨⟨by decide, by decide, q.1.1, q.1.2, Nat.le_of_ble_eq_true rfl⟩, q.2⟩⟩
set_option maxRecDepth 100000 in
theorem kP_86 {pc len f t : Nat} : wBc y Q K ((pc, .putfield f, len, [4, 11, 1, t]) :: r) c lo (.inr (.inr (some 43)) :: .inr (.inr (some 34)) :: st) (EEk 86 L, D) u = (wBc y Q K r c) lo st (EEk 87 L, D) u := propext ⟨fun q => q.2, fun q => ⟨⟨Nat.le_of_ble_eq_true rfl, rfl, Nat.le_of_ble_eq_true rfl⟩, q⟩⟩
set_option maxRecDepth 100000 in
theorem kn_88 : (EEk 88 L).1 = 45 := rfl
set_option maxRecDepth 100000 in
theorem kA_87 : wNewa y 1 c lo (.inl 6 :: st) (EEk 87 L, D) u = ((u.1 + 1 ≤ (mRm y).cells ∧ u.2 + 6 ≤ (mRm y).slots) ∧ c lo (.inr (.inr (some 44)) :: st) (EEk 88 L, upr D 44 (fun _ => 0)) (u.1 + 1, u.2 + 6)) := propext ⟨fun q => ⟨⟨q.1.2.2.1, q.1.2.2.2.1⟩, q.2⟩, fun q => ⟨⟨by decide, by decide, q.1.1, q.1.2, Nat.le_of_ble_eq_true rfl⟩, q.2⟩⟩
set_option maxRecDepth 100000 in
theorem kP_88 {pc len f t : Nat} : wBc y Q K ((pc, .putfield f, len, [4, 12, 1, t]) :: r) c lo (.inr (.inr (some 44)) :: .inr (.inr (some 34)) :: st) (EEk 88 L, D) u = (wBc y Q K r c) lo st (EEk 89 L, D) u := propext ⟨fun q => q.2, fun q => ⟨⟨Nat.le_of_ble_eq_true rfl, rfl, Nat.le_of_ble_eq_true rfl⟩, q⟩⟩
set_option maxRecDepth 100000 in
theorem kn_90 : (EEk 90 L).1 = 46 := rfl
set_option maxRecDepth 100000 in
theorem kA_89 : wNewa y 0 c lo (.inl 56 :: st) (EEk 89 L, D) u = ((u.1 + 1 ≤ (mRm y).cells ∧ u.2 + 56 ≤ (mRm y).slots) ∧ c lo (.inr (.inr (some 45)) :: st) (EEk 90 L, upr D 45 (fun _ => 0)) (u.1 + 1, u.2 + 56)) := propext ⟨fun q => ⟨⟨q.1.2.2.1, q.1.2.2.2.1⟩, q.2⟩, fun q => ⟨⟨by decide, by decide, q.1.1, q.1.2, Nat.le_of_ble_eq_true rfl⟩, q.2⟩⟩
set_option maxRecDepth 100000 in
theorem kP_90 {pc len f t : Nat} : wBc y Q K ((pc, .putfield f, len, [4, 13, 1, t]) :: r) c lo (.inr (.inr (some 45)) :: .inr (.inr (some 34)) :: st) (EEk 90 L, D) u = (wBc y Q K r c) lo st (EEk 91 L, D) u := propext ⟨fun q => q.2, fun q => ⟨⟨Nat.le_of_ble_eq_true rfl, rfl, Nat.le_of_ble_eq_true rfl⟩, q⟩⟩
set_option maxRecDepth 100000 in
theorem kP_91 {pc len f t : Nat} : wBc y Q K ((pc, .putfield f, len, [4, 0, 1, t]) :: r) c lo (.inr (.inr (some 6)) :: .inr (.inr (some 34)) :: st) (EEk 91 L, D) u = (wBc y Q K r c) lo st (EEk 92 L, D) u := propext ⟨fun q => q.2, fun q => ⟨⟨Nat.le_of_ble_eq_true rfl, rfl, Nat.le_of_ble_eq_true rfl⟩, q⟩⟩
set_option maxRecDepth 100000 in
theorem kS_92 {pc len : Nat} {ax : List Nat} : wBc y Q K ((pc, .aastore, len, ax) :: r) c lo (.inr (.inr (some 34)) :: .inl 0 :: .inr (.inr (some 33)) :: st) (EEk 92 L, D) u = (wBc y Q K r c) lo st (EEk 93 L, D) u := propext ⟨fun q => q.2.2.2, fun q => ⟨⟨Nat.le_of_ble_eq_true rfl, rfl⟩, ⟨by decide, Int.lt_of_lt_of_le (show (0 : Int) < 2 by decide) (Int.le_refl _)⟩, ⟨Nat.le_of_ble_eq_true rfl, rfl⟩, q⟩⟩
set_option maxRecDepth 100000 in
theorem kn_94 : (EEk 94 L).1 = 47 := rfl
set_option maxRecDepth 100000 in
theorem ks_94_46 : (EEk 94 L).2.1 46 = (7, 0) := rfl
set_option maxRecDepth 100000 in
theorem kO_93 : wNew y 4 c lo st (EEk 93 L, D) u = ((u.1 + 1 ≤ (mRm y).cells ∧ u.2 + 15 ≤ (mRm y).slots) ∧ c lo (.inr (.inr (some 46)) :: st) (EEk 94 L, upr D 46 (fun _ => 0)) (u.1 + 1, u.2 + 15)) := propext ⟨fun q => ⟨⟨q.1.1, q.1.2.1⟩, q.2⟩, fun q => ⟨⟨q.1.1, q.1.2, Nat.le_of_ble_eq_true rfl⟩, q.2⟩⟩
set_option maxRecDepth 100000 in
theorem kn_95 : (EEk 95 L).1 = 48 := rfl
set_option maxRecDepth 100000 in
theorem kA_94 : wNewa y 0 c lo (.inl 24 :: st) (EEk 94 L, D) u = ((u.1 + 1 ≤ (mRm y).cells ∧ u.2 + 24 ≤ (mRm y).slots) ∧ c lo (.inr (.inr (some 47)) :: st) (EEk 95 L, upr D 47 (fun _ => 0)) (u.1 + 1, u.2 + 24)) := propext ⟨fun q => ⟨⟨q.1.2.2.1, q.1.2.2.2.1⟩, q.2⟩, fun q => ⟨⟨by decide, by decide, q.1.1, q.1.2, Nat.le_of_ble_eq_true rfl⟩, q.2⟩⟩
set_option maxRecDepth 100000 in
theorem kP_95 {pc len f t : Nat} : wBc y Q K ((pc, .putfield f, len, [4, 2, 1, t]) :: r) c lo (.inr (.inr (some 47)) :: .inr (.inr (some 46)) :: st) (EEk 95 L, D) u = (wBc y Q K r c) lo st (EEk 96 L, D) u := propext ⟨fun q => q.2, fun q => ⟨⟨Nat.le_of_ble_eq_true rfl, rfl, Nat.le_of_ble_eq_true rfl⟩, q⟩⟩
set_option maxRecDepth 100000 in
theorem kn_97 : (EEk 97 L).1 = 49 := rfl
set_option maxRecDepth 100000 in
theorem kA_96 : wNewa y 0 c lo (.inl 24 :: st) (EEk 96 L, D) u = ((u.1 + 1 ≤ (mRm y).cells ∧ u.2 + 24 ≤ (mRm y).slots) ∧ c lo (.inr (.inr (some 48)) :: st) (EEk 97 L, upr D 48 (fun _ => 0)) (u.1 + 1, u.2 + 24)) := propext ⟨fun q => ⟨⟨q.1.2.2.1, q.1.2.2.2.1⟩, q.2⟩, fun q => ⟨⟨by decide, by decide, q.1.1, q.1.2, Nat.le_of_ble_eq_true rfl⟩, q.2⟩⟩
set_option maxRecDepth 100000 in
theorem kP_97 {pc len f t : Nat} : wBc y Q K ((pc, .putfield f, len, [4, 3, 1, t]) :: r) c lo (.inr (.inr (some 48)) :: .inr (.inr (some 46)) :: st) (EEk 97 L, D) u = (wBc y Q K r c) lo st (EEk 98 L, D) u := propext ⟨fun q => q.2, fun q => ⟨⟨Nat.le_of_ble_eq_true rfl, rfl, Nat.le_of_ble_eq_true rfl⟩, q⟩⟩
set_option maxRecDepth 100000 in
theorem kn_99 : (EEk 99 L).1 = 50 := rfl
set_option maxRecDepth 100000 in
theorem kA_98 : wNewa y 0 c lo (.inl 24 :: st) (EEk 98 L, D) u = ((u.1 + 1 ≤ (mRm y).cells ∧ u.2 + 24 ≤ (mRm y).slots) ∧ c lo (.inr (.inr (some 49)) :: st) (EEk 99 L, upr D 49 (fun _ => 0)) (u.1 + 1, u.2 + 24)) := propext ⟨fun q => ⟨⟨q.1.2.2.1, q.1.2.2.2.1⟩, q.2⟩, fun q => ⟨⟨by decide, by decide, q.1.1, q.1.2, Nat.le_of_ble_eq_true rfl⟩, q.2⟩⟩
set_option maxRecDepth 100000 in
theorem kP_99 {pc len f t : Nat} : wBc y Q K ((pc, .putfield f, len, [4, 4, 1, t]) :: r) c lo (.inr (.inr (some 49)) :: .inr (.inr (some 46)) :: st) (EEk 99 L, D) u = (wBc y Q K r c) lo st (EEk 100 L, D) u := propext ⟨fun q => q.2, fun q => ⟨⟨Nat.le_of_ble_eq_true rfl, rfl, Nat.le_of_ble_eq_true rfl⟩, q⟩⟩
set_option maxRecDepth 100000 in
theorem kn_101 : (EEk 101 L).1 = 51 := rfl
set_option maxRecDepth 100000 in
theorem kA_100 : wNewa y 0 c lo (.inl 24 :: st) (EEk 100 L, D) u = ((u.1 + 1 ≤ (mRm y).cells ∧ u.2 + 24 ≤ (mRm y).slots) ∧ c lo (.inr (.inr (some 50)) :: st) (EEk 101 L, upr D 50 (fun _ => 0)) (u.1 + 1, u.2 + 24)) := propext ⟨fun q => ⟨⟨q.1.2.2.1, q.1.2.2.2.1⟩, q.2⟩, fun q => ⟨⟨by decide, by decide, q.1.1, q.1.2, Nat.le_of_ble_eq_true rfl⟩, q.2⟩⟩
set_option maxRecDepth 100000 in
theorem kP_101 {pc len f t : Nat} : wBc y Q K ((pc, .putfield f, len, [4, 5, 1, t]) :: r) c lo (.inr (.inr (some 50)) :: .inr (.inr (some 46)) :: st) (EEk 101 L, D) u = (wBc y Q K r c) lo st (EEk 102 L, D) u := propext ⟨fun q => q.2, fun q => ⟨⟨Nat.le_of_ble_eq_true rfl, rfl, Nat.le_of_ble_eq_true rfl⟩, q⟩⟩
set_option maxRecDepth 100000 in
theorem kn_103 : (EEk 103 L).1 = 52 := rfl
set_option maxRecDepth 100000 in
theorem kA_102 : wNewa y 1 c lo (.inl 24 :: st) (EEk 102 L, D) u = ((u.1 + 1 ≤ (mRm y).cells ∧ u.2 + 24 ≤ (mRm y).slots) ∧ c lo (.inr (.inr (some 51)) :: st) (EEk 103 L, upr D 51 (fun _ => 0)) (u.1 + 1, u.2 + 24)) := propext ⟨fun q => ⟨⟨q.1.2.2.1, q.1.2.2.2.1⟩, q.2⟩, fun q => ⟨⟨by decide, by decide, q.1.1, q.1.2, Nat.le_of_ble_eq_true rfl⟩, q.2⟩⟩
set_option maxRecDepth 100000 in
theorem kP_103 {pc len f t : Nat} : wBc y Q K ((pc, .putfield f, len, [4, 6, 1, t]) :: r) c lo (.inr (.inr (some 51)) :: .inr (.inr (some 46)) :: st) (EEk 103 L, D) u = (wBc y Q K r c) lo st (EEk 104 L, D) u := propext ⟨fun q => q.2, fun q => ⟨⟨Nat.le_of_ble_eq_true rfl, rfl, Nat.le_of_ble_eq_true rfl⟩, q⟩⟩
set_option maxRecDepth 100000 in
theorem kn_105 : (EEk 105 L).1 = 53 := rfl
set_option maxRecDepth 100000 in
theorem kA_104 : wNewa y 0 c lo (.inl 24 :: st) (EEk 104 L, D) u = ((u.1 + 1 ≤ (mRm y).cells ∧ u.2 + 24 ≤ (mRm y).slots) ∧ c lo (.inr (.inr (some 52)) :: st) (EEk 105 L, upr D 52 (fun _ => 0)) (u.1 + 1, u.2 + 24)) := propext ⟨fun q => ⟨⟨q.1.2.2.1, q.1.2.2.2.1⟩, q.2⟩, fun q => ⟨⟨by decide, by decide, q.1.1, q.1.2, Nat.le_of_ble_eq_true rfl⟩, q.2⟩⟩
set_option maxRecDepth 100000 in
theorem kP_105 {pc len f t : Nat} : wBc y Q K ((pc, .putfield f, len, [4, 7, 1, t]) :: r) c lo (.inr (.inr (some 52)) :: .inr (.inr (some 46)) :: st) (EEk 105 L, D) u = (wBc y Q K r c) lo st (EEk 106 L, D) u := propext ⟨fun q => q.2, fun q => ⟨⟨Nat.le_of_ble_eq_true rfl, rfl, Nat.le_of_ble_eq_true rfl⟩, q⟩⟩
set_option maxRecDepth 100000 in
theorem kn_107 : (EEk 107 L).1 = 54 := rfl
set_option maxRecDepth 100000 in
theorem kA_106 : wNewa y 0 c lo (.inl 24 :: st) (EEk 106 L, D) u = ((u.1 + 1 ≤ (mRm y).cells ∧ u.2 + 24 ≤ (mRm y).slots) ∧ c lo (.inr (.inr (some 53)) :: st) (EEk 107 L, upr D 53 (fun _ => 0)) (u.1 + 1, u.2 + 24)) := propext ⟨fun q => ⟨⟨q.1.2.2.1, q.1.2.2.2.1⟩, q.2⟩, fun q => ⟨⟨by decide, by decide, q.1.1, q.1.2, Nat.le_of_ble_eq_true rfl⟩, q.2⟩⟩
set_option maxRecDepth 100000 in
theorem kP_107 {pc len f t : Nat} : wBc y Q K ((pc, .putfield f, len, [4, 8, 1, t]) :: r) c lo (.inr (.inr (some 53)) :: .inr (.inr (some 46)) :: st) (EEk 107 L, D) u = (wBc y Q K r c) lo st (EEk 108 L, D) u := propext ⟨fun q => q.2, fun q => ⟨⟨Nat.le_of_ble_eq_true rfl, rfl, Nat.le_of_ble_eq_true rfl⟩, q⟩⟩
set_option maxRecDepth 100000 in
theorem kn_109 : (EEk 109 L).1 = 55 := rfl
set_option maxRecDepth 100000 in
theorem kA_108 : wNewa y 0 c lo (.inl 6 :: st) (EEk 108 L, D) u = ((u.1 + 1 ≤ (mRm y).cells ∧ u.2 + 6 ≤ (mRm y).slots) ∧ c lo (.inr (.inr (some 54)) :: st) (EEk 109 L, upr D 54 (fun _ => 0)) (u.1 + 1, u.2 + 6)) := propext ⟨fun q => ⟨⟨q.1.2.2.1, q.1.2.2.2.1⟩, q.2⟩, fun q => ⟨⟨by decide, by decide, q.1.1, q.1.2, Nat.le_of_ble_eq_true rfl⟩, q.2⟩⟩
set_option maxRecDepth 100000 in
theorem kP_109 {pc len f t : Nat} : wBc y Q K ((pc, .putfield f, len, [4, 10, 1, t]) :: r) c lo (.inr (.inr (some 54)) :: .inr (.inr (some 46)) :: st) (EEk 109 L, D) u = (wBc y Q K r c) lo st (EEk 110 L, D) u := propext ⟨fun q => q.2, fun q => ⟨⟨Nat.le_of_ble_eq_true rfl, rfl, Nat.le_of_ble_eq_true rfl⟩, q⟩⟩
set_option maxRecDepth 100000 in
theorem kn_111 : (EEk 111 L).1 = 56 := rfl
set_option maxRecDepth 100000 in
theorem kA_110 : wNewa y 0 c lo (.inl 6 :: st) (EEk 110 L, D) u = ((u.1 + 1 ≤ (mRm y).cells ∧ u.2 + 6 ≤ (mRm y).slots) ∧ c lo (.inr (.inr (some 55)) :: st) (EEk 111 L, upr D 55 (fun _ => 0)) (u.1 + 1, u.2 + 6)) := propext ⟨fun q => ⟨⟨q.1.2.2.1, q.1.2.2.2.1⟩, q.2⟩, fun q => ⟨⟨by decide, by decide, q.1.1, q.1.2, Nat.le_of_ble_eq_true rfl⟩, q.2⟩⟩
set_option maxRecDepth 100000 in
theorem kP_111 {pc len f t : Nat} : wBc y Q K ((pc, .putfield f, len, [4, 11, 1, t]) :: r) c lo (.inr (.inr (some 55)) :: .inr (.inr (some 46)) :: st) (EEk 111 L, D) u = (wBc y Q K r c) lo st (EEk 112 L, D) u := propext ⟨fun q => q.2, fun q => ⟨⟨Nat.le_of_ble_eq_true rfl, rfl, Nat.le_of_ble_eq_true rfl⟩, q⟩⟩
set_option maxRecDepth 100000 in
theorem kn_113 : (EEk 113 L).1 = 57 := rfl
set_option maxRecDepth 100000 in
theorem kA_112 : wNewa y 1 c lo (.inl 6 :: st) (EEk 112 L, D) u = ((u.1 + 1 ≤ (mRm y).cells ∧ u.2 + 6 ≤ (mRm y).slots) ∧ c lo (.inr (.inr (some 56)) :: st) (EEk 113 L, upr D 56 (fun _ => 0)) (u.1 + 1, u.2 + 6)) := propext ⟨fun q => ⟨⟨q.1.2.2.1, q.1.2.2.2.1⟩, q.2⟩, fun q => ⟨⟨by decide, by decide, q.1.1, q.1.2, Nat.le_of_ble_eq_true rfl⟩, q.2⟩⟩
set_option maxRecDepth 100000 in
theorem kP_113 {pc len f t : Nat} : wBc y Q K ((pc, .putfield f, len, [4, 12, 1, t]) :: r) c lo (.inr (.inr (some 56)) :: .inr (.inr (some 46)) :: st) (EEk 113 L, D) u = (wBc y Q K r c) lo st (EEk 114 L, D) u := propext ⟨fun q => q.2, fun q => ⟨⟨Nat.le_of_ble_eq_true rfl, rfl, Nat.le_of_ble_eq_true rfl⟩, q⟩⟩
set_option maxRecDepth 100000 in
theorem kn_115 : (EEk 115 L).1 = 58 := rfl
set_option maxRecDepth 100000 in
theorem kA_114 : wNewa y 0 c lo (.inl 56 :: st) (EEk 114 L, D) u = ((u.1 + 1 ≤ (mRm y).cells ∧ u.2 + 56 ≤ (mRm y).slots) ∧ c lo (.inr (.inr (some 57)) :: st) (EEk 115 L, upr D 57 (fun _ => 0)) (u.1 + 1, u.2 + 56)) := propext ⟨fun q => ⟨⟨q.1.2.2.1, q.1.2.2.2.1⟩, q.2⟩, fun q => ⟨⟨by decide, by decide, q.1.1, q.1.2, Nat.le_of_ble_eq_true rfl⟩, q.2⟩⟩
set_option maxRecDepth 100000 in
theorem kP_115 {pc len f t : Nat} : wBc y Q K ((pc, .putfield f, len, [4, 13, 1, t]) :: r) c lo (.inr (.inr (some 57)) :: .inr (.inr (some 46)) :: st) (EEk 115 L, D) u = (wBc y Q K r c) lo st (EEk 116 L, D) u := propext ⟨fun q => q.2, fun q => ⟨⟨Nat.le_of_ble_eq_true rfl, rfl, Nat.le_of_ble_eq_true rfl⟩, q⟩⟩
set_option maxRecDepth 100000 in
theorem kP_116 {pc len f t : Nat} : wBc y Q K ((pc, .putfield f, len, [4, 0, 1, t]) :: r) c lo (.inr (.inr (some 6)) :: .inr (.inr (some 46)) :: st) (EEk 116 L, D) u = (wBc y Q K r c) lo st (EEk 117 L, D) u := propext ⟨fun q => q.2, fun q => ⟨⟨Nat.le_of_ble_eq_true rfl, rfl, Nat.le_of_ble_eq_true rfl⟩, q⟩⟩
set_option maxRecDepth 100000 in
theorem kS_117 {pc len : Nat} {ax : List Nat} : wBc y Q K ((pc, .aastore, len, ax) :: r) c lo (.inr (.inr (some 46)) :: .inl 1 :: .inr (.inr (some 33)) :: st) (EEk 117 L, D) u = (wBc y Q K r c) lo st (EEk 118 L, D) u := propext ⟨fun q => q.2.2.2, fun q => ⟨⟨Nat.le_of_ble_eq_true rfl, rfl⟩, ⟨by decide, Int.lt_of_lt_of_le (show (1 : Int) < 2 by decide) (Int.le_refl _)⟩, ⟨Nat.le_of_ble_eq_true rfl, rfl⟩, q⟩⟩
set_option maxRecDepth 100000 in
theorem kP_118 {pc len f t : Nat} : wBc y Q K ((pc, .putfield f, len, [6, 6, 1, t]) :: r) c lo (.inr (.inr (some 33)) :: .inr (.inr (some 0)) :: st) (EEk 118 L, D) u = (wBc y Q K r c) lo st (EEk 119 L, D) u := propext ⟨fun q => q.2, fun q => ⟨⟨Nat.le_of_ble_eq_true rfl, rfl, Nat.le_of_ble_eq_true rfl⟩, q⟩⟩
set_option maxRecDepth 100000 in
theorem kn_120 : (EEk 120 L).1 = 59 := rfl
set_option maxRecDepth 100000 in
theorem kA_119 : wNewa y 1 c lo (.inl 2 :: st) (EEk 119 L, D) u = ((u.1 + 1 ≤ (mRm y).cells ∧ u.2 + 2 ≤ (mRm y).slots) ∧ c lo (.inr (.inr (some 58)) :: st) (EEk 120 L, upr D 58 (fun _ => 0)) (u.1 + 1, u.2 + 2)) := propext ⟨fun q => ⟨⟨q.1.2.2.1, q.1.2.2.2.1⟩, q.2⟩, fun q => ⟨⟨by decide, by decide, q.1.1, q.1.2, Nat.le_of_ble_eq_true rfl⟩, q.2⟩⟩
set_option maxRecDepth 100000 in
theorem kP_120 {pc len f t : Nat} : wBc y Q K ((pc, .putfield f, len, [6, 7, 1, t]) :: r) c lo (.inr (.inr (some 58)) :: .inr (.inr (some 0)) :: st) (EEk 120 L, D) u = (wBc y Q K r c) lo st (EEk 121 L, D) u := propext ⟨fun q => q.2, fun q => ⟨⟨Nat.le_of_ble_eq_true rfl, rfl, Nat.le_of_ble_eq_true rfl⟩, q⟩⟩
set_option maxRecDepth 100000 in
theorem kn_122 : (EEk 122 L).1 = 60 := rfl
set_option maxRecDepth 100000 in
theorem ks_122_59 : (EEk 122 L).2.1 59 = (8, 0) := rfl
set_option maxRecDepth 100000 in
theorem kO_121 : wNew y 5 c lo st (EEk 121 L, D) u = ((u.1 + 1 ≤ (mRm y).cells ∧ u.2 + 2 ≤ (mRm y).slots) ∧ c lo (.inr (.inr (some 59)) :: st) (EEk 122 L, upr D 59 (fun _ => 0)) (u.1 + 1, u.2 + 2)) := propext ⟨fun q => ⟨⟨q.1.1, q.1.2.1⟩, q.2⟩, fun q => ⟨⟨q.1.1, q.1.2, Nat.le_of_ble_eq_true rfl⟩, q.2⟩⟩
set_option maxRecDepth 100000 in
theorem kn_123 : (EEk 123 L).1 = 61 := rfl
set_option maxRecDepth 100000 in
theorem kA_122 : wNewa y 0 c lo (.inl 8 :: st) (EEk 122 L, D) u = ((u.1 + 1 ≤ (mRm y).cells ∧ u.2 + 8 ≤ (mRm y).slots) ∧ c lo (.inr (.inr (some 60)) :: st) (EEk 123 L, upr D 60 (fun _ => 0)) (u.1 + 1, u.2 + 8)) := propext ⟨fun q => ⟨⟨q.1.2.2.1, q.1.2.2.2.1⟩, q.2⟩, fun q => ⟨⟨by decide, by decide, q.1.1, q.1.2, Nat.le_of_ble_eq_true rfl⟩, q.2⟩⟩
set_option maxRecDepth 100000 in
theorem kP_123 {pc len f t : Nat} : wBc y Q K ((pc, .putfield f, len, [5, 0, 1, t]) :: r) c lo (.inr (.inr (some 60)) :: .inr (.inr (some 59)) :: st) (EEk 123 L, D) u = (wBc y Q K r c) lo st (EEk 124 L, D) u := propext ⟨fun q => q.2, fun q => ⟨⟨Nat.le_of_ble_eq_true rfl, rfl, Nat.le_of_ble_eq_true rfl⟩, q⟩⟩
set_option maxRecDepth 100000 in
theorem kP_124 {pc len f t : Nat} : wBc y Q K ((pc, .putfield f, len, [6, 8, 1, t]) :: r) c lo (.inr (.inr (some 59)) :: .inr (.inr (some 0)) :: st) (EEk 124 L, D) u = (wBc y Q K r c) lo st (EEk 125 L, D) u := propext ⟨fun q => q.2, fun q => ⟨⟨Nat.le_of_ble_eq_true rfl, rfl, Nat.le_of_ble_eq_true rfl⟩, q⟩⟩
set_option maxRecDepth 100000 in
theorem kn_126 : (EEk 126 L).1 = 62 := rfl
set_option maxRecDepth 100000 in
theorem ks_126_61 : (EEk 126 L).2.1 61 = (5, 0) := rfl
set_option maxRecDepth 100000 in
theorem kO_125 : wNew y 2 c lo st (EEk 125 L, D) u = ((u.1 + 1 ≤ (mRm y).cells ∧ u.2 + 1 ≤ (mRm y).slots) ∧ c lo (.inr (.inr (some 61)) :: st) (EEk 126 L, upr D 61 (fun _ => 0)) (u.1 + 1, u.2 + 1)) := propext ⟨fun q => ⟨⟨q.1.1, q.1.2.1⟩, q.2⟩, fun q => ⟨⟨q.1.1, q.1.2, Nat.le_of_ble_eq_true rfl⟩, q.2⟩⟩
set_option maxRecDepth 100000 in
theorem kn_127 : (EEk 127 L).1 = 63 := rfl
set_option maxRecDepth 100000 in
theorem kA_126 : wNewa y 0 c lo (.inl 60 :: st) (EEk 126 L, D) u = ((u.1 + 1 ≤ (mRm y).cells ∧ u.2 + 60 ≤ (mRm y).slots) ∧ c lo (.inr (.inr (some 62)) :: st) (EEk 127 L, upr D 62 (fun _ => 0)) (u.1 + 1, u.2 + 60)) := propext ⟨fun q => ⟨⟨q.1.2.2.1, q.1.2.2.2.1⟩, q.2⟩, fun q => ⟨⟨by decide, by decide, q.1.1, q.1.2, Nat.le_of_ble_eq_true rfl⟩, q.2⟩⟩
set_option maxRecDepth 100000 in
theorem kP_127 {pc len f t : Nat} : wBc y Q K ((pc, .putfield f, len, [2, 0, 1, t]) :: r) c lo (.inr (.inr (some 62)) :: .inr (.inr (some 61)) :: st) (EEk 127 L, D) u = (wBc y Q K r c) lo st (EEk 128 L, D) u := propext ⟨fun q => q.2, fun q => ⟨⟨Nat.le_of_ble_eq_true rfl, rfl, Nat.le_of_ble_eq_true rfl⟩, q⟩⟩
set_option maxRecDepth 100000 in
theorem kP_128 {pc len f t : Nat} : wBc y Q K ((pc, .putfield f, len, [6, 9, 1, t]) :: r) c lo (.inr (.inr (some 61)) :: .inr (.inr (some 0)) :: st) (EEk 128 L, D) u = (wBc y Q K r c) lo st (EEk 129 L, D) u := propext ⟨fun q => q.2, fun q => ⟨⟨Nat.le_of_ble_eq_true rfl, rfl, Nat.le_of_ble_eq_true rfl⟩, q⟩⟩
set_option maxRecDepth 100000 in
theorem kn_130 : (EEk 130 L).1 = 64 := rfl
set_option maxRecDepth 100000 in
theorem ks_130_63 : (EEk 130 L).2.1 63 = (3, 0) := rfl
set_option maxRecDepth 100000 in
theorem kO_129 : wNew y 0 c lo st (EEk 129 L, D) u = ((u.1 + 1 ≤ (mRm y).cells ∧ u.2 + 7 ≤ (mRm y).slots) ∧ c lo (.inr (.inr (some 63)) :: st) (EEk 130 L, upr D 63 (fun _ => 0)) (u.1 + 1, u.2 + 7)) := propext ⟨fun q => ⟨⟨q.1.1, q.1.2.1⟩, q.2⟩, fun q => ⟨⟨q.1.1, q.1.2, Nat.le_of_ble_eq_true rfl⟩, q.2⟩⟩
set_option maxRecDepth 100000 in
theorem kn_131 : (EEk 131 L).1 = 65 := rfl
set_option maxRecDepth 100000 in
theorem kA_130 : wNewa y 0 c lo (.inl 16 :: st) (EEk 130 L, D) u = ((u.1 + 1 ≤ (mRm y).cells ∧ u.2 + 16 ≤ (mRm y).slots) ∧ c lo (.inr (.inr (some 64)) :: st) (EEk 131 L, upr D 64 (fun _ => 0)) (u.1 + 1, u.2 + 16)) := propext ⟨fun q => ⟨⟨q.1.2.2.1, q.1.2.2.2.1⟩, q.2⟩, fun q => ⟨⟨by decide, by decide, q.1.1, q.1.2, Nat.le_of_ble_eq_true rfl⟩, q.2⟩⟩
set_option maxRecDepth 100000 in
theorem kP_131 {pc len f t : Nat} : wBc y Q K ((pc, .putfield f, len, [0, 2, 1, t]) :: r) c lo (.inr (.inr (some 64)) :: .inr (.inr (some 63)) :: st) (EEk 131 L, D) u = (wBc y Q K r c) lo st (EEk 132 L, D) u := propext ⟨fun q => q.2, fun q => ⟨⟨Nat.le_of_ble_eq_true rfl, rfl, Nat.le_of_ble_eq_true rfl⟩, q⟩⟩
set_option maxRecDepth 100000 in
theorem kn_133 : (EEk 133 L).1 = 66 := rfl
set_option maxRecDepth 100000 in
theorem kA_132 : wNewa y 0 c lo (.inl 16 :: st) (EEk 132 L, D) u = ((u.1 + 1 ≤ (mRm y).cells ∧ u.2 + 16 ≤ (mRm y).slots) ∧ c lo (.inr (.inr (some 65)) :: st) (EEk 133 L, upr D 65 (fun _ => 0)) (u.1 + 1, u.2 + 16)) := propext ⟨fun q => ⟨⟨q.1.2.2.1, q.1.2.2.2.1⟩, q.2⟩, fun q => ⟨⟨by decide, by decide, q.1.1, q.1.2, Nat.le_of_ble_eq_true rfl⟩, q.2⟩⟩
set_option maxRecDepth 100000 in
theorem kP_133 {pc len f t : Nat} : wBc y Q K ((pc, .putfield f, len, [0, 3, 1, t]) :: r) c lo (.inr (.inr (some 65)) :: .inr (.inr (some 63)) :: st) (EEk 133 L, D) u = (wBc y Q K r c) lo st (EEk 134 L, D) u := propext ⟨fun q => q.2, fun q => ⟨⟨Nat.le_of_ble_eq_true rfl, rfl, Nat.le_of_ble_eq_true rfl⟩, q⟩⟩
set_option maxRecDepth 100000 in
theorem kn_135 : (EEk 135 L).1 = 67 := rfl
set_option maxRecDepth 100000 in
theorem kA_134 : wNewa y 0 c lo (.inl 16 :: st) (EEk 134 L, D) u = ((u.1 + 1 ≤ (mRm y).cells ∧ u.2 + 16 ≤ (mRm y).slots) ∧ c lo (.inr (.inr (some 66)) :: st) (EEk 135 L, upr D 66 (fun _ => 0)) (u.1 + 1, u.2 + 16)) := propext ⟨fun q => ⟨⟨q.1.2.2.1, q.1.2.2.2.1⟩, q.2⟩, fun q => ⟨⟨by decide, by decide, q.1.1, q.1.2, Nat.le_of_ble_eq_true rfl⟩, q.2⟩⟩
set_option maxRecDepth 100000 in
theorem kP_135 {pc len f t : Nat} : wBc y Q K ((pc, .putfield f, len, [0, 4, 1, t]) :: r) c lo (.inr (.inr (some 66)) :: .inr (.inr (some 63)) :: st) (EEk 135 L, D) u = (wBc y Q K r c) lo st (EEk 136 L, D) u := propext ⟨fun q => q.2, fun q => ⟨⟨Nat.le_of_ble_eq_true rfl, rfl, Nat.le_of_ble_eq_true rfl⟩, q⟩⟩
set_option maxRecDepth 100000 in
theorem kn_137 : (EEk 137 L).1 = 68 := rfl
set_option maxRecDepth 100000 in
theorem kA_136 : wNewa y 0 c lo (.inl 16 :: st) (EEk 136 L, D) u = ((u.1 + 1 ≤ (mRm y).cells ∧ u.2 + 16 ≤ (mRm y).slots) ∧ c lo (.inr (.inr (some 67)) :: st) (EEk 137 L, upr D 67 (fun _ => 0)) (u.1 + 1, u.2 + 16)) := propext ⟨fun q => ⟨⟨q.1.2.2.1, q.1.2.2.2.1⟩, q.2⟩, fun q => ⟨⟨by decide, by decide, q.1.1, q.1.2, Nat.le_of_ble_eq_true rfl⟩, q.2⟩⟩
set_option maxRecDepth 100000 in
theorem kP_137 {pc len f t : Nat} : wBc y Q K ((pc, .putfield f, len, [0, 5, 1, t]) :: r) c lo (.inr (.inr (some 67)) :: .inr (.inr (some 63)) :: st) (EEk 137 L, D) u = (wBc y Q K r c) lo st (EEk 138 L, D) u := propext ⟨fun q => q.2, fun q => ⟨⟨Nat.le_of_ble_eq_true rfl, rfl, Nat.le_of_ble_eq_true rfl⟩, q⟩⟩
set_option maxRecDepth 100000 in
theorem kn_139 : (EEk 139 L).1 = 69 := rfl
set_option maxRecDepth 100000 in
theorem kA_138 : wNewa y 0 c lo (.inl 16 :: st) (EEk 138 L, D) u = ((u.1 + 1 ≤ (mRm y).cells ∧ u.2 + 16 ≤ (mRm y).slots) ∧ c lo (.inr (.inr (some 68)) :: st) (EEk 139 L, upr D 68 (fun _ => 0)) (u.1 + 1, u.2 + 16)) := propext ⟨fun q => ⟨⟨q.1.2.2.1, q.1.2.2.2.1⟩, q.2⟩, fun q => ⟨⟨by decide, by decide, q.1.1, q.1.2, Nat.le_of_ble_eq_true rfl⟩, q.2⟩⟩
set_option maxRecDepth 100000 in
theorem kP_139 {pc len f t : Nat} : wBc y Q K ((pc, .putfield f, len, [0, 6, 1, t]) :: r) c lo (.inr (.inr (some 68)) :: .inr (.inr (some 63)) :: st) (EEk 139 L, D) u = (wBc y Q K r c) lo st (EEk 140 L, D) u := propext ⟨fun q => q.2, fun q => ⟨⟨Nat.le_of_ble_eq_true rfl, rfl, Nat.le_of_ble_eq_true rfl⟩, q⟩⟩
set_option maxRecDepth 100000 in
theorem kP_140 {pc len f t : Nat} : wBc y Q K ((pc, .putfield f, len, [0, 0, 1, t]) :: r) c lo (.inr (.inr (some 6)) :: .inr (.inr (some 63)) :: st) (EEk 140 L, D) u = (wBc y Q K r c) lo st (EEk 141 L, D) u := propext ⟨fun q => q.2, fun q => ⟨⟨Nat.le_of_ble_eq_true rfl, rfl, Nat.le_of_ble_eq_true rfl⟩, q⟩⟩
set_option maxRecDepth 100000 in
theorem kP_141 {pc len f t : Nat} : wBc y Q K ((pc, .putfield f, len, [6, 10, 1, t]) :: r) c lo (.inr (.inr (some 63)) :: .inr (.inr (some 0)) :: st) (EEk 141 L, D) u = (wBc y Q K r c) lo st (EEk 142 L, D) u := propext ⟨fun q => q.2, fun q => ⟨⟨Nat.le_of_ble_eq_true rfl, rfl, Nat.le_of_ble_eq_true rfl⟩, q⟩⟩
set_option maxRecDepth 100000 in
theorem kn_143 : (EEk 143 L).1 = 70 := rfl
set_option maxRecDepth 100000 in
theorem ks_143_69 : (EEk 143 L).2.1 69 = (10, 0) := rfl
set_option maxRecDepth 100000 in
theorem kO_142 : wNew y 7 c lo st (EEk 142 L, D) u = ((u.1 + 1 ≤ (mRm y).cells ∧ u.2 + 28 ≤ (mRm y).slots) ∧ c lo (.inr (.inr (some 69)) :: st) (EEk 143 L, upr D 69 (fun _ => 0)) (u.1 + 1, u.2 + 28)) := propext ⟨fun q => ⟨⟨q.1.1, q.1.2.1⟩, q.2⟩, fun q => ⟨⟨q.1.1, q.1.2, Nat.le_of_ble_eq_true rfl⟩, q.2⟩⟩
set_option maxRecDepth 100000 in
theorem kn_144 : (EEk 144 L).1 = 71 := rfl
set_option maxRecDepth 100000 in
theorem kA_143 : wNewa y 0 c lo (.inl 44 :: st) (EEk 143 L, D) u = ((u.1 + 1 ≤ (mRm y).cells ∧ u.2 + 44 ≤ (mRm y).slots) ∧ c lo (.inr (.inr (some 70)) :: st) (EEk 144 L, upr D 70 (fun _ => 0)) (u.1 + 1, u.2 + 44)) := propext ⟨fun q => ⟨⟨q.1.2.2.1, q.1.2.2.2.1⟩, q.2⟩, fun q => ⟨⟨by decide, by decide, q.1.1, q.1.2, Nat.le_of_ble_eq_true rfl⟩, q.2⟩⟩
set_option maxRecDepth 100000 in
theorem kP_144 {pc len f t : Nat} : wBc y Q K ((pc, .putfield f, len, [7, 0, 1, t]) :: r) c lo (.inr (.inr (some 70)) :: .inr (.inr (some 69)) :: st) (EEk 144 L, D) u = (wBc y Q K r c) lo st (EEk 145 L, D) u := propext ⟨fun q => q.2, fun q => ⟨⟨Nat.le_of_ble_eq_true rfl, rfl, Nat.le_of_ble_eq_true rfl⟩, q⟩⟩
set_option maxRecDepth 100000 in
theorem kn_146 : (EEk 146 L).1 = 72 := rfl
set_option maxRecDepth 100000 in
theorem kA_145 : wNewa y 0 c lo (.inl 44 :: st) (EEk 145 L, D) u = ((u.1 + 1 ≤ (mRm y).cells ∧ u.2 + 44 ≤ (mRm y).slots) ∧ c lo (.inr (.inr (some 71)) :: st) (EEk 146 L, upr D 71 (fun _ => 0)) (u.1 + 1, u.2 + 44)) := propext ⟨fun q => ⟨⟨q.1.2.2.1, q.1.2.2.2.1⟩, q.2⟩, fun q => ⟨⟨by decide, by decide, q.1.1, q.1.2, Nat.le_of_ble_eq_true rfl⟩, q.2⟩⟩
set_option maxRecDepth 100000 in
theorem kP_146 {pc len f t : Nat} : wBc y Q K ((pc, .putfield f, len, [7, 1, 1, t]) :: r) c lo (.inr (.inr (some 71)) :: .inr (.inr (some 69)) :: st) (EEk 146 L, D) u = (wBc y Q K r c) lo st (EEk 147 L, D) u := propext ⟨fun q => q.2, fun q => ⟨⟨Nat.le_of_ble_eq_true rfl, rfl, Nat.le_of_ble_eq_true rfl⟩, q⟩⟩
set_option maxRecDepth 100000 in
theorem kn_148 : (EEk 148 L).1 = 73 := rfl
set_option maxRecDepth 100000 in
theorem kA_147 : wNewa y 1 c lo (.inl 44 :: st) (EEk 147 L, D) u = ((u.1 + 1 ≤ (mRm y).cells ∧ u.2 + 44 ≤ (mRm y).slots) ∧ c lo (.inr (.inr (some 72)) :: st) (EEk 148 L, upr D 72 (fun _ => 0)) (u.1 + 1, u.2 + 44)) := propext ⟨fun q => ⟨⟨q.1.2.2.1, q.1.2.2.2.1⟩, q.2⟩, fun q => ⟨⟨by decide, by decide, q.1.1, q.1.2, Nat.le_of_ble_eq_true rfl⟩, q.2⟩⟩
set_option maxRecDepth 100000 in
theorem kP_148 {pc len f t : Nat} : wBc y Q K ((pc, .putfield f, len, [7, 2, 1, t]) :: r) c lo (.inr (.inr (some 72)) :: .inr (.inr (some 69)) :: st) (EEk 148 L, D) u = (wBc y Q K r c) lo st (EEk 149 L, D) u := propext ⟨fun q => q.2, fun q => ⟨⟨Nat.le_of_ble_eq_true rfl, rfl, Nat.le_of_ble_eq_true rfl⟩, q⟩⟩
set_option maxRecDepth 100000 in
theorem kn_150 : (EEk 150 L).1 = 74 := rfl
set_option maxRecDepth 100000 in
theorem kA_149 : wNewa y 0 c lo (.inl 64 :: st) (EEk 149 L, D) u = ((u.1 + 1 ≤ (mRm y).cells ∧ u.2 + 64 ≤ (mRm y).slots) ∧ c lo (.inr (.inr (some 73)) :: st) (EEk 150 L, upr D 73 (fun _ => 0)) (u.1 + 1, u.2 + 64)) := propext ⟨fun q => ⟨⟨q.1.2.2.1, q.1.2.2.2.1⟩, q.2⟩, fun q => ⟨⟨by decide, by decide, q.1.1, q.1.2, Nat.le_of_ble_eq_true rfl⟩, q.2⟩⟩
set_option maxRecDepth 100000 in
theorem kP_150 {pc len f t : Nat} : wBc y Q K ((pc, .putfield f, len, [7, 3, 1, t]) :: r) c lo (.inr (.inr (some 73)) :: .inr (.inr (some 69)) :: st) (EEk 150 L, D) u = (wBc y Q K r c) lo st (EEk 151 L, D) u := propext ⟨fun q => q.2, fun q => ⟨⟨Nat.le_of_ble_eq_true rfl, rfl, Nat.le_of_ble_eq_true rfl⟩, q⟩⟩
set_option maxRecDepth 100000 in
theorem kn_152 : (EEk 152 L).1 = 75 := rfl
set_option maxRecDepth 100000 in
theorem kA_151 : wNewa y 0 c lo (.inl 192 :: st) (EEk 151 L, D) u = ((u.1 + 1 ≤ (mRm y).cells ∧ u.2 + 192 ≤ (mRm y).slots) ∧ c lo (.inr (.inr (some 74)) :: st) (EEk 152 L, upr D 74 (fun _ => 0)) (u.1 + 1, u.2 + 192)) := propext ⟨fun q => ⟨⟨q.1.2.2.1, q.1.2.2.2.1⟩, q.2⟩, fun q => ⟨⟨by decide, by decide, q.1.1, q.1.2, Nat.le_of_ble_eq_true rfl⟩, q.2⟩⟩
set_option maxRecDepth 100000 in
theorem kP_152 {pc len f t : Nat} : wBc y Q K ((pc, .putfield f, len, [7, 9, 1, t]) :: r) c lo (.inr (.inr (some 74)) :: .inr (.inr (some 69)) :: st) (EEk 152 L, D) u = (wBc y Q K r c) lo st (EEk 153 L, D) u := propext ⟨fun q => q.2, fun q => ⟨⟨Nat.le_of_ble_eq_true rfl, rfl, Nat.le_of_ble_eq_true rfl⟩, q⟩⟩
set_option maxRecDepth 100000 in
theorem kn_154 : (EEk 154 L).1 = 76 := rfl
set_option maxRecDepth 100000 in
theorem kA_153 : wNewa y 0 c lo (.inl 24 :: st) (EEk 153 L, D) u = ((u.1 + 1 ≤ (mRm y).cells ∧ u.2 + 24 ≤ (mRm y).slots) ∧ c lo (.inr (.inr (some 75)) :: st) (EEk 154 L, upr D 75 (fun _ => 0)) (u.1 + 1, u.2 + 24)) := propext ⟨fun q => ⟨⟨q.1.2.2.1, q.1.2.2.2.1⟩, q.2⟩, fun q => ⟨⟨by decide, by decide, q.1.1, q.1.2, Nat.le_of_ble_eq_true rfl⟩, q.2⟩⟩
set_option maxRecDepth 100000 in
theorem kP_154 {pc len f t : Nat} : wBc y Q K ((pc, .putfield f, len, [7, 11, 1, t]) :: r) c lo (.inr (.inr (some 75)) :: .inr (.inr (some 69)) :: st) (EEk 154 L, D) u = (wBc y Q K r c) lo st (EEk 155 L, D) u := propext ⟨fun q => q.2, fun q => ⟨⟨Nat.le_of_ble_eq_true rfl, rfl, Nat.le_of_ble_eq_true rfl⟩, q⟩⟩
set_option maxRecDepth 100000 in
theorem kn_156 : (EEk 156 L).1 = 77 := rfl
set_option maxRecDepth 100000 in
theorem kA_155 : wNewa y 0 c lo (.inl 6 :: st) (EEk 155 L, D) u = ((u.1 + 1 ≤ (mRm y).cells ∧ u.2 + 6 ≤ (mRm y).slots) ∧ c lo (.inr (.inr (some 76)) :: st) (EEk 156 L, upr D 76 (fun _ => 0)) (u.1 + 1, u.2 + 6)) := propext ⟨fun q => ⟨⟨q.1.2.2.1, q.1.2.2.2.1⟩, q.2⟩, fun q => ⟨⟨by decide, by decide, q.1.1, q.1.2, Nat.le_of_ble_eq_true rfl⟩, q.2⟩⟩
set_option maxRecDepth 100000 in
theorem kP_156 {pc len f t : Nat} : wBc y Q K ((pc, .putfield f, len, [7, 13, 1, t]) :: r) c lo (.inr (.inr (some 76)) :: .inr (.inr (some 69)) :: st) (EEk 156 L, D) u = (wBc y Q K r c) lo st (EEk 157 L, D) u := propext ⟨fun q => q.2, fun q => ⟨⟨Nat.le_of_ble_eq_true rfl, rfl, Nat.le_of_ble_eq_true rfl⟩, q⟩⟩
set_option maxRecDepth 100000 in
theorem kn_158 : (EEk 158 L).1 = 78 := rfl
set_option maxRecDepth 100000 in
theorem kA_157 : wNewa y 1 c lo (.inl 3 :: st) (EEk 157 L, D) u = ((u.1 + 1 ≤ (mRm y).cells ∧ u.2 + 3 ≤ (mRm y).slots) ∧ c lo (.inr (.inr (some 77)) :: st) (EEk 158 L, upr D 77 (fun _ => 0)) (u.1 + 1, u.2 + 3)) := propext ⟨fun q => ⟨⟨q.1.2.2.1, q.1.2.2.2.1⟩, q.2⟩, fun q => ⟨⟨by decide, by decide, q.1.1, q.1.2, Nat.le_of_ble_eq_true rfl⟩, q.2⟩⟩
set_option maxRecDepth 100000 in
theorem kP_158 {pc len f t : Nat} : wBc y Q K ((pc, .putfield f, len, [7, 14, 1, t]) :: r) c lo (.inr (.inr (some 77)) :: .inr (.inr (some 69)) :: st) (EEk 158 L, D) u = (wBc y Q K r c) lo st (EEk 159 L, D) u := propext ⟨fun q => q.2, fun q => ⟨⟨Nat.le_of_ble_eq_true rfl, rfl, Nat.le_of_ble_eq_true rfl⟩, q⟩⟩
set_option maxRecDepth 100000 in
theorem kn_160 : (EEk 160 L).1 = 79 := rfl
set_option maxRecDepth 100000 in
theorem kA_159 : wNewa y 0 c lo (.inl 576 :: st) (EEk 159 L, D) u = ((u.1 + 1 ≤ (mRm y).cells ∧ u.2 + 576 ≤ (mRm y).slots) ∧ c lo (.inr (.inr (some 78)) :: st) (EEk 160 L, upr D 78 (fun _ => 0)) (u.1 + 1, u.2 + 576)) := propext ⟨fun q => ⟨⟨q.1.2.2.1, q.1.2.2.2.1⟩, q.2⟩, fun q => ⟨⟨by decide, by decide, q.1.1, q.1.2, Nat.le_of_ble_eq_true rfl⟩, q.2⟩⟩
set_option maxRecDepth 100000 in
theorem kP_160 {pc len f t : Nat} : wBc y Q K ((pc, .putfield f, len, [7, 15, 1, t]) :: r) c lo (.inr (.inr (some 78)) :: .inr (.inr (some 69)) :: st) (EEk 160 L, D) u = (wBc y Q K r c) lo st (EEk 161 L, D) u := propext ⟨fun q => q.2, fun q => ⟨⟨Nat.le_of_ble_eq_true rfl, rfl, Nat.le_of_ble_eq_true rfl⟩, q⟩⟩
set_option maxRecDepth 100000 in
theorem kn_162 : (EEk 162 L).1 = 80 := rfl
set_option maxRecDepth 100000 in
theorem kA_161 : wNewa y 0 c lo (.inl 72 :: st) (EEk 161 L, D) u = ((u.1 + 1 ≤ (mRm y).cells ∧ u.2 + 72 ≤ (mRm y).slots) ∧ c lo (.inr (.inr (some 79)) :: st) (EEk 162 L, upr D 79 (fun _ => 0)) (u.1 + 1, u.2 + 72)) := propext ⟨fun q => ⟨⟨q.1.2.2.1, q.1.2.2.2.1⟩, q.2⟩, fun q => ⟨⟨by decide, by decide, q.1.1, q.1.2, Nat.le_of_ble_eq_true rfl⟩, q.2⟩⟩
set_option maxRecDepth 100000 in
theorem kP_162 {pc len f t : Nat} : wBc y Q K ((pc, .putfield f, len, [7, 16, 1, t]) :: r) c lo (.inr (.inr (some 79)) :: .inr (.inr (some 69)) :: st) (EEk 162 L, D) u = (wBc y Q K r c) lo st (EEk 163 L, D) u := propext ⟨fun q => q.2, fun q => ⟨⟨Nat.le_of_ble_eq_true rfl, rfl, Nat.le_of_ble_eq_true rfl⟩, q⟩⟩
set_option maxRecDepth 100000 in
theorem kn_164 : (EEk 164 L).1 = 81 := rfl
set_option maxRecDepth 100000 in
theorem kA_163 : wNewa y 0 c lo (.inl 9 :: st) (EEk 163 L, D) u = ((u.1 + 1 ≤ (mRm y).cells ∧ u.2 + 9 ≤ (mRm y).slots) ∧ c lo (.inr (.inr (some 80)) :: st) (EEk 164 L, upr D 80 (fun _ => 0)) (u.1 + 1, u.2 + 9)) := propext ⟨fun q => ⟨⟨q.1.2.2.1, q.1.2.2.2.1⟩, q.2⟩, fun q => ⟨⟨by decide, by decide, q.1.1, q.1.2, Nat.le_of_ble_eq_true rfl⟩, q.2⟩⟩
set_option maxRecDepth 100000 in
theorem kP_164 {pc len f t : Nat} : wBc y Q K ((pc, .putfield f, len, [7, 17, 1, t]) :: r) c lo (.inr (.inr (some 80)) :: .inr (.inr (some 69)) :: st) (EEk 164 L, D) u = (wBc y Q K r c) lo st (EEk 165 L, D) u := propext ⟨fun q => q.2, fun q => ⟨⟨Nat.le_of_ble_eq_true rfl, rfl, Nat.le_of_ble_eq_true rfl⟩, q⟩⟩
set_option maxRecDepth 100000 in
theorem kn_166 : (EEk 166 L).1 = 82 := rfl
set_option maxRecDepth 100000 in
theorem kA_165 : wNewa y 0 c lo (.inl 8 :: st) (EEk 165 L, D) u = ((u.1 + 1 ≤ (mRm y).cells ∧ u.2 + 8 ≤ (mRm y).slots) ∧ c lo (.inr (.inr (some 81)) :: st) (EEk 166 L, upr D 81 (fun _ => 0)) (u.1 + 1, u.2 + 8)) := propext ⟨fun q => ⟨⟨q.1.2.2.1, q.1.2.2.2.1⟩, q.2⟩, fun q => ⟨⟨by decide, by decide, q.1.1, q.1.2, Nat.le_of_ble_eq_true rfl⟩, q.2⟩⟩
set_option maxRecDepth 100000 in
theorem kP_166 {pc len f t : Nat} : wBc y Q K ((pc, .putfield f, len, [7, 20, 1, t]) :: r) c lo (.inr (.inr (some 81)) :: .inr (.inr (some 69)) :: st) (EEk 166 L, D) u = (wBc y Q K r c) lo st (EEk 167 L, D) u := propext ⟨fun q => q.2, fun q => ⟨⟨Nat.le_of_ble_eq_true rfl, rfl, Nat.le_of_ble_eq_true rfl⟩, q⟩⟩
set_option maxRecDepth 100000 in
theorem kn_168 : (EEk 168 L).1 = 83 := rfl
set_option maxRecDepth 100000 in
theorem kA_167 : wNewa y 0 c lo (.inl 60 :: st) (EEk 167 L, D) u = ((u.1 + 1 ≤ (mRm y).cells ∧ u.2 + 60 ≤ (mRm y).slots) ∧ c lo (.inr (.inr (some 82)) :: st) (EEk 168 L, upr D 82 (fun _ => 0)) (u.1 + 1, u.2 + 60)) := propext ⟨fun q => ⟨⟨q.1.2.2.1, q.1.2.2.2.1⟩, q.2⟩, fun q => ⟨⟨by decide, by decide, q.1.1, q.1.2, Nat.le_of_ble_eq_true rfl⟩, q.2⟩⟩
set_option maxRecDepth 100000 in
theorem kP_168 {pc len f t : Nat} : wBc y Q K ((pc, .putfield f, len, [7, 21, 1, t]) :: r) c lo (.inr (.inr (some 82)) :: .inr (.inr (some 69)) :: st) (EEk 168 L, D) u = (wBc y Q K r c) lo st (EEk 169 L, D) u := propext ⟨fun q => q.2, fun q => ⟨⟨Nat.le_of_ble_eq_true rfl, rfl, Nat.le_of_ble_eq_true rfl⟩, q⟩⟩
set_option maxRecDepth 100000 in
theorem kn_170 : (EEk 170 L).1 = 84 := rfl
set_option maxRecDepth 100000 in
theorem kA_169 : wNewa y 0 c lo (.inl 16 :: st) (EEk 169 L, D) u = ((u.1 + 1 ≤ (mRm y).cells ∧ u.2 + 16 ≤ (mRm y).slots) ∧ c lo (.inr (.inr (some 83)) :: st) (EEk 170 L, upr D 83 (fun _ => 0)) (u.1 + 1, u.2 + 16)) := propext ⟨fun q => ⟨⟨q.1.2.2.1, q.1.2.2.2.1⟩, q.2⟩, fun q => ⟨⟨by decide, by decide, q.1.1, q.1.2, Nat.le_of_ble_eq_true rfl⟩, q.2⟩⟩
set_option maxRecDepth 100000 in
theorem kP_170 {pc len f t : Nat} : wBc y Q K ((pc, .putfield f, len, [7, 23, 1, t]) :: r) c lo (.inr (.inr (some 83)) :: .inr (.inr (some 69)) :: st) (EEk 170 L, D) u = (wBc y Q K r c) lo st (EEk 171 L, D) u := propext ⟨fun q => q.2, fun q => ⟨⟨Nat.le_of_ble_eq_true rfl, rfl, Nat.le_of_ble_eq_true rfl⟩, q⟩⟩
set_option maxRecDepth 100000 in
theorem kn_172 : (EEk 172 L).1 = 85 := rfl
set_option maxRecDepth 100000 in
theorem kA_171 : wNewa y 0 c lo (.inl 16 :: st) (EEk 171 L, D) u = ((u.1 + 1 ≤ (mRm y).cells ∧ u.2 + 16 ≤ (mRm y).slots) ∧ c lo (.inr (.inr (some 84)) :: st) (EEk 172 L, upr D 84 (fun _ => 0)) (u.1 + 1, u.2 + 16)) := propext ⟨fun q => ⟨⟨q.1.2.2.1, q.1.2.2.2.1⟩, q.2⟩, fun q => ⟨⟨by decide, by decide, q.1.1, q.1.2, Nat.le_of_ble_eq_true rfl⟩, q.2⟩⟩
set_option maxRecDepth 100000 in
theorem kP_172 {pc len f t : Nat} : wBc y Q K ((pc, .putfield f, len, [7, 24, 1, t]) :: r) c lo (.inr (.inr (some 84)) :: .inr (.inr (some 69)) :: st) (EEk 172 L, D) u = (wBc y Q K r c) lo st (EEk 173 L, D) u := propext ⟨fun q => q.2, fun q => ⟨⟨Nat.le_of_ble_eq_true rfl, rfl, Nat.le_of_ble_eq_true rfl⟩, q⟩⟩
set_option maxRecDepth 100000 in
theorem kn_174 : (EEk 174 L).1 = 86 := rfl
set_option maxRecDepth 100000 in
theorem kA_173 : wNewa y 0 c lo (.inl 16 :: st) (EEk 173 L, D) u = ((u.1 + 1 ≤ (mRm y).cells ∧ u.2 + 16 ≤ (mRm y).slots) ∧ c lo (.inr (.inr (some 85)) :: st) (EEk 174 L, upr D 85 (fun _ => 0)) (u.1 + 1, u.2 + 16)) := propext ⟨fun q => ⟨⟨q.1.2.2.1, q.1.2.2.2.1⟩, q.2⟩, fun q => ⟨⟨by decide, by decide, q.1.1, q.1.2, Nat.le_of_ble_eq_true rfl⟩, q.2⟩⟩
set_option maxRecDepth 100000 in
theorem kP_174 {pc len f t : Nat} : wBc y Q K ((pc, .putfield f, len, [7, 25, 1, t]) :: r) c lo (.inr (.inr (some 85)) :: .inr (.inr (some 69)) :: st) (EEk 174 L, D) u = (wBc y Q K r c) lo st (EEk 175 L, D) u := propext ⟨fun q => q.2, fun q => ⟨⟨Nat.le_of_ble_eq_true rfl, rfl, Nat.le_of_ble_eq_true rfl⟩, q⟩⟩
set_option maxRecDepth 100000 in
theorem kn_176 : (EEk 176 L).1 = 87 := rfl
set_option maxRecDepth 100000 in
theorem kA_175 : wNewa y 0 c lo (.inl 16 :: st) (EEk 175 L, D) u = ((u.1 + 1 ≤ (mRm y).cells ∧ u.2 + 16 ≤ (mRm y).slots) ∧ c lo (.inr (.inr (some 86)) :: st) (EEk 176 L, upr D 86 (fun _ => 0)) (u.1 + 1, u.2 + 16)) := propext ⟨fun q => ⟨⟨q.1.2.2.1, q.1.2.2.2.1⟩, q.2⟩, fun q => ⟨⟨by decide, by decide, q.1.1, q.1.2, Nat.le_of_ble_eq_true rfl⟩, q.2⟩⟩
set_option maxRecDepth 100000 in
theorem kP_176 {pc len f t : Nat} : wBc y Q K ((pc, .putfield f, len, [7, 26, 1, t]) :: r) c lo (.inr (.inr (some 86)) :: .inr (.inr (some 69)) :: st) (EEk 176 L, D) u = (wBc y Q K r c) lo st (EEk 177 L, D) u := propext ⟨fun q => q.2, fun q => ⟨⟨Nat.le_of_ble_eq_true rfl, rfl, Nat.le_of_ble_eq_true rfl⟩, q⟩⟩
set_option maxRecDepth 100000 in
theorem kn_178 : (EEk 178 L).1 = 88 := rfl
set_option maxRecDepth 100000 in
theorem kA_177 : wNewa y 0 c lo (.inl 16 :: st) (EEk 177 L, D) u = ((u.1 + 1 ≤ (mRm y).cells ∧ u.2 + 16 ≤ (mRm y).slots) ∧ c lo (.inr (.inr (some 87)) :: st) (EEk 178 L, upr D 87 (fun _ => 0)) (u.1 + 1, u.2 + 16)) := propext ⟨fun q => ⟨⟨q.1.2.2.1, q.1.2.2.2.1⟩, q.2⟩, fun q => ⟨⟨by decide, by decide, q.1.1, q.1.2, Nat.le_of_ble_eq_true rfl⟩, q.2⟩⟩
set_option maxRecDepth 100000 in
theorem kP_178 {pc len f t : Nat} : wBc y Q K ((pc, .putfield f, len, [7, 27, 1, t]) :: r) c lo (.inr (.inr (some 87)) :: .inr (.inr (some 69)) :: st) (EEk 178 L, D) u = (wBc y Q K r c) lo st (EEk 179 L, D) u := propext ⟨fun q => q.2, fun q => ⟨⟨Nat.le_of_ble_eq_true rfl, rfl, Nat.le_of_ble_eq_true rfl⟩, q⟩⟩
set_option maxRecDepth 100000 in
theorem kG_18 {pc len f t : Nat} : wBc y Q K ((pc, .getfield f, len, [6, 3, 1, t]) :: r) c lo (.inr (.inr (some 0)) :: st) (EEk 18 L, D) u = (wBc y Q K r c) lo (.inr (.inr (some 6)) :: st) (EEk 18 L, D) u := propext ⟨fun q => q.2, fun q => ⟨⟨Nat.le_of_ble_eq_true rfl, rfl⟩, q⟩⟩
set_option maxRecDepth 100000 in
theorem kG_43 {pc len f t : Nat} : wBc y Q K ((pc, .getfield f, len, [6, 3, 1, t]) :: r) c lo (.inr (.inr (some 0)) :: st) (EEk 43 L, D) u = (wBc y Q K r c) lo (.inr (.inr (some 6)) :: st) (EEk 43 L, D) u := propext ⟨fun q => q.2, fun q => ⟨⟨Nat.le_of_ble_eq_true rfl, rfl⟩, q⟩⟩
set_option maxRecDepth 100000 in
theorem kG_69 {pc len f t : Nat} : wBc y Q K ((pc, .getfield f, len, [6, 3, 1, t]) :: r) c lo (.inr (.inr (some 0)) :: st) (EEk 69 L, D) u = (wBc y Q K r c) lo (.inr (.inr (some 6)) :: st) (EEk 69 L, D) u := propext ⟨fun q => q.2, fun q => ⟨⟨Nat.le_of_ble_eq_true rfl, rfl⟩, q⟩⟩
set_option maxRecDepth 100000 in
theorem kG_94 {pc len f t : Nat} : wBc y Q K ((pc, .getfield f, len, [6, 3, 1, t]) :: r) c lo (.inr (.inr (some 0)) :: st) (EEk 94 L, D) u = (wBc y Q K r c) lo (.inr (.inr (some 6)) :: st) (EEk 94 L, D) u := propext ⟨fun q => q.2, fun q => ⟨⟨Nat.le_of_ble_eq_true rfl, rfl⟩, q⟩⟩
set_option maxRecDepth 100000 in
theorem kG_130 {pc len f t : Nat} : wBc y Q K ((pc, .getfield f, len, [6, 3, 1, t]) :: r) c lo (.inr (.inr (some 0)) :: st) (EEk 130 L, D) u = (wBc y Q K r c) lo (.inr (.inr (some 6)) :: st) (EEk 130 L, D) u := propext ⟨fun q => q.2, fun q => ⟨⟨Nat.le_of_ble_eq_true rfl, rfl⟩, q⟩⟩
set_option maxRecDepth 100000 in
theorem kZ_142 {pc len f t : Nat} {z : Int} : wBc y Q K ((pc, .putfield f, len, [6, 1, 0, t]) :: r) c lo (.inl z :: .inr (.inr (some 0)) :: st) (EEk 142 L, D) u = (wBc y Q K r c) lo st (EEk 142 L, ups D 0 1 z) u := propext ⟨fun q => q.2, fun q => ⟨⟨Nat.le_of_ble_eq_true rfl, rfl⟩, q⟩⟩
theorem rmc_4 : (mRm 4).cells = 5 := rfl
theorem rms_4 : (mRm 4).slots = 80 := rfl
theorem rmc_18 : (mRm 18).cells = 2 := rfl
theorem rms_18 : (mRm 18).slots = 64 := rfl
theorem rmc_27 : (mRm 27).cells = 1 := rfl
theorem rms_27 : (mRm 27).slots = 60 := rfl
theorem rmc_30 : (mRm 30).cells = 3 := rfl
theorem rms_30 : (mRm 30).slots = 66 := rfl
theorem rmc_43 : (mRm 43).cells = 11 := rfl
theorem rms_43 : (mRm 43).slots = 242 := rfl
theorem rmc_64 : (mRm 64).cells = 1 := rfl
theorem rms_64 : (mRm 64).slots = 8 := rfl
theorem rmc_69 : (mRm 69).cells = 68 := rfl
theorem rms_69 : (mRm 69).slots = 1393 := rfl
theorem rmc_116 : (mRm 116).cells = 18 := rfl
theorem rms_116 : (mRm 116).slots = 1226 := rfl
set_option maxRecDepth 100000 in
theorem kn_9 : (EEk 9 L).1 = 6 := rfl
set_option maxRecDepth 100000 in
theorem ks_9_3 : (EEk 9 L).2.1 3 = (4, 0) := rfl
set_option maxRecDepth 100000 in
theorem kn_16 : (EEk 16 L).1 = 9 := rfl
set_option maxRecDepth 100000 in
theorem ks_16_6 : (EEk 16 L).2.1 6 = (4, 0) := rfl
set_option maxRecDepth 100000 in
theorem kn_41 : (EEk 41 L).1 = 21 := rfl
set_option maxRecDepth 100000 in
theorem ks_41_9 : (EEk 41 L).2.1 9 = (7, 0) := rfl
set_option maxRecDepth 100000 in
theorem kn_66 : (EEk 66 L).1 = 33 := rfl
set_option maxRecDepth 100000 in
theorem ks_66_21 : (EEk 66 L).2.1 21 = (7, 0) := rfl
set_option maxRecDepth 100000 in
theorem kn_92 : (EEk 92 L).1 = 46 := rfl
set_option maxRecDepth 100000 in
theorem ks_92_34 : (EEk 92 L).2.1 34 = (7, 0) := rfl
set_option maxRecDepth 100000 in
theorem kn_117 : (EEk 117 L).1 = 58 := rfl
set_option maxRecDepth 100000 in
theorem ks_117_46 : (EEk 117 L).2.1 46 = (7, 0) := rfl
theorem gi_3 : CN 18 [vR 3] (EEk 5 L, D) (fun h' => h'.1 = EEk 9 L ∧ (∀ a, a ≠ 4 → a ≠ 5 → h'.2 a = D a) ∧ (∀ j : Int, 0 ≤ j → j < 8 → h'.2 4 j.toNat = D 1001 j.toNat) ∧ ∀ j : Int, 0 ≤ j → j < 56 → h'.2 5 j.toNat = 5) := by
  have hG : isG (EEk 9 L) 3 := ⟨⟨Nat.le_of_ble_eq_true rfl, rfl⟩, ⟨rfl, rfl⟩, ⟨Nat.le_of_ble_eq_true rfl, rfl⟩, Nat.le_of_ble_eq_true rfl, rfl⟩
  refine Sx.un (y := 18) (n := 0) (lo := [vR 3]) (st := []) (u := (0, 0)) ?_
  refine go_18_0 ?_
  simp only [sg_18_0, cl_I, cl_L, cl_R, e_aload_n, e_bipush, e_cv1, e_newa, e_nil, e_objInit, e_vret, fl_0, fl_I, fl_L, fl_R, l_ldA0, rk_0, kA_5, kP_6, kA_7, kP_8, kn_9, ks_9_3, rmc_4, rms_4, rmc_18, rms_18, rmc_27, rms_27, rmc_30, rms_30, rmc_43, rms_43, rmc_64, rms_64, rmc_69, rms_69, rmc_116, rms_116, true_and, and_true, List.length_cons, List.length_nil, Nat.reduceAdd, Nat.reduceLeDiff, Nat.reduceEqDiff, Nat.reduceLT, Int.reduceLT, Int.reduceLE, Int.reduceEq, Int.reduceNeg, not_false_eq_true, not_true_eq_false, Nat.zero_le, Nat.le_refl, Nat.zero_add]
  refine (g_forget hG).mono ?_
  rintro D1 ⟨f1, a1, a2⟩
  refine (g_fill hG rfl (by decide)).mono ?_
  rintro D2 ⟨f2, b1, b2⟩
  refine ⟨fun a h1 h2 => ?_, fun j j0 j1 => ?_, fun j j0 j1 => ?_⟩
  · rw [f2 a h1 h2, f1 a h1 h2, upr_ne h2, upr_ne h1]
  · have e := b1 j j0 j1
    rw [a1 j j0 j1, f1 1001 (by decide) (by decide), upr_ne (by decide), upr_ne (by decide)] at e
    exact e
  · have e := b2 j j0 j1
    rw [a2 j j0 j1] at e
    exact e
theorem gi_6 : CN 18 [vR 6] (EEk 12 L, D) (fun h' => h'.1 = EEk 16 L ∧ (∀ a, a ≠ 7 → a ≠ 8 → h'.2 a = D a) ∧ (∀ j : Int, 0 ≤ j → j < 8 → h'.2 7 j.toNat = D 1001 j.toNat) ∧ ∀ j : Int, 0 ≤ j → j < 56 → h'.2 8 j.toNat = 5) := by
  have hG : isG (EEk 16 L) 6 := ⟨⟨Nat.le_of_ble_eq_true rfl, rfl⟩, ⟨rfl, rfl⟩, ⟨Nat.le_of_ble_eq_true rfl, rfl⟩, Nat.le_of_ble_eq_true rfl, rfl⟩
  refine Sx.un (y := 18) (n := 0) (lo := [vR 6]) (st := []) (u := (0, 0)) ?_
  refine go_18_0 ?_
  simp only [sg_18_0, cl_I, cl_L, cl_R, e_aload_n, e_bipush, e_cv1, e_newa, e_nil, e_objInit, e_vret, fl_0, fl_I, fl_L, fl_R, l_ldA0, rk_0, kA_12, kP_13, kA_14, kP_15, kn_16, ks_16_6, rmc_4, rms_4, rmc_18, rms_18, rmc_27, rms_27, rmc_30, rms_30, rmc_43, rms_43, rmc_64, rms_64, rmc_69, rms_69, rmc_116, rms_116, true_and, and_true, List.length_cons, List.length_nil, Nat.reduceAdd, Nat.reduceLeDiff, Nat.reduceEqDiff, Nat.reduceLT, Int.reduceLT, Int.reduceLE, Int.reduceEq, Int.reduceNeg, not_false_eq_true, not_true_eq_false, Nat.zero_le, Nat.le_refl, Nat.zero_add]
  refine (g_forget hG).mono ?_
  rintro D1 ⟨f1, a1, a2⟩
  refine (g_fill hG rfl (by decide)).mono ?_
  rintro D2 ⟨f2, b1, b2⟩
  refine ⟨fun a h1 h2 => ?_, fun j j0 j1 => ?_, fun j j0 j1 => ?_⟩
  · rw [f2 a h1 h2, f1 a h1 h2, upr_ne h2, upr_ne h1]
  · have e := b1 j j0 j1
    rw [a1 j j0 j1, f1 1001 (by decide) (by decide), upr_ne (by decide), upr_ne (by decide)] at e
    exact e
  · have e := b2 j j0 j1
    rw [a2 j j0 j1] at e
    exact e
theorem ri_2 : CN 30 [vR 2] (EEk 4 L, D) (fun h' => h'.1 = EEk 10 L ∧ ∀ a, ¬ (3 ≤ a ∧ a ≤ 5) → h'.2 a = D a) := by
  refine Sx.un (y := 30) (n := 0) (lo := [vR 2]) (st := []) (u := (0, 0)) ?_
  refine go_30_0 ?_
  simp only [sg_30_0, cl_I, cl_L, cl_R, e_aload_n, e_ci1, e_dupI, e_dupR, e_new, e_nil, e_objInit, e_vret, fl_0, fl_I, fl_L, fl_R, l_ldA0, rk_3, kO_4, kP_9, kn_5, ks_5_3, rmc_4, rms_4, rmc_18, rms_18, rmc_27, rms_27, rmc_30, rms_30, rmc_43, rms_43, rmc_64, rms_64, rmc_69, rms_69, rmc_116, rms_116, true_and, and_true, List.length_cons, List.length_nil, Nat.reduceAdd, Nat.reduceLeDiff, Nat.reduceEqDiff, Nat.reduceLT, Int.reduceLT, Int.reduceLE, Int.reduceEq, Int.reduceNeg, not_false_eq_true, not_true_eq_false, Nat.zero_le, Nat.le_refl, Nat.zero_add]
  refine CN.mono gi_3 ?_
  rintro ⟨E', D'⟩ ⟨e, f1, _⟩
  have e : E' = EEk 9 L := e
  subst e
  have f1 : ∀ a, a ≠ 4 → a ≠ 5 → D' a = upr D 3 (fun _ => 0) a := f1
  simp only [cl_I, cl_L, cl_R, e_aload_n, e_ci1, e_dupI, e_dupR, e_new, e_nil, e_objInit, e_vret, fl_0, fl_I, fl_L, fl_R, l_ldA0, rk_3, kO_4, kP_9, kn_5, ks_5_3, rmc_4, rms_4, rmc_18, rms_18, rmc_27, rms_27, rmc_30, rms_30, rmc_43, rms_43, rmc_64, rms_64, rmc_69, rms_69, rmc_116, rms_116, true_and, and_true, List.length_cons, List.length_nil, Nat.reduceAdd, Nat.reduceLeDiff, Nat.reduceEqDiff, Nat.reduceLT, Int.reduceLT, Int.reduceLE, Int.reduceEq, Int.reduceNeg, not_false_eq_true, not_true_eq_false, Nat.zero_le, Nat.le_refl, Nat.zero_add]
  refine ⟨Nat.le_of_ble_eq_true rfl, fun a ha => ?_⟩
  rw [f1 a (by omega) (by omega), upr_ne (by omega)]
theorem vi_9 : CN 43 [vR 9, vR 6] (EEk 18 L, D) (fun h' => h'.1 = EEk 41 L ∧ fr 9 D h'.2 ∧ vP h'.2 9 emV) := by
  refine Sx.un (y := 43) (n := 0) (lo := [vR 9, vR 6]) (st := []) (u := (0, 0)) ?_
  refine go_43_0 ?_
  simp only [sg_43_0, cl_I, cl_L, cl_R, e_aload_n, e_bipush, e_cv1, e_newa, e_nil, e_objInit, e_vret, fl_0, fl_I, fl_L, fl_R, l_ldA0, l_ldA1, rk_0, kA_18, kP_19, kA_20, kP_21, kA_22, kP_23, kA_24, kP_25, kA_26, kP_27, kA_28, kP_29, kA_30, kP_31, kA_32, kP_33, kA_34, kP_35, kA_36, kP_37, kA_38, kP_39, kP_40, kn_41, ks_41_9, rmc_4, rms_4, rmc_18, rms_18, rmc_27, rms_27, rmc_30, rms_30, rmc_43, rms_43, rmc_64, rms_64, rmc_69, rms_69, rmc_116, rms_116, true_and, and_true, List.length_cons, List.length_nil, Nat.reduceAdd, Nat.reduceLeDiff, Nat.reduceEqDiff, Nat.reduceLT, Int.reduceLT, Int.reduceLE, Int.reduceEq, Int.reduceNeg, not_false_eq_true, not_true_eq_false, Nat.zero_le, Nat.le_refl, Nat.zero_add]
  refine (v_clear (E := EEk 41 L) (v := 9) (Nat.le_of_ble_eq_true rfl) rfl rfl (Nat.le_of_ble_eq_true rfl) rfl).mono ?_
  rintro D' ⟨hf, hV⟩
  refine ⟨fun a ha => ?_, hV⟩
  rw [hf a ha]
  simp (disch := omega) only [upr_ne]
theorem vi_21 : CN 43 [vR 21, vR 6] (EEk 43 L, D) (fun h' => h'.1 = EEk 66 L ∧ fr 21 D h'.2 ∧ vP h'.2 21 emV) := by
  refine Sx.un (y := 43) (n := 0) (lo := [vR 21, vR 6]) (st := []) (u := (0, 0)) ?_
  refine go_43_0 ?_
  simp only [sg_43_0, cl_I, cl_L, cl_R, e_aload_n, e_bipush, e_cv1, e_newa, e_nil, e_objInit, e_vret, fl_0, fl_I, fl_L, fl_R, l_ldA0, l_ldA1, rk_0, kA_43, kP_44, kA_45, kP_46, kA_47, kP_48, kA_49, kP_50, kA_51, kP_52, kA_53, kP_54, kA_55, kP_56, kA_57, kP_58, kA_59, kP_60, kA_61, kP_62, kA_63, kP_64, kP_65, kn_66, ks_66_21, rmc_4, rms_4, rmc_18, rms_18, rmc_27, rms_27, rmc_30, rms_30, rmc_43, rms_43, rmc_64, rms_64, rmc_69, rms_69, rmc_116, rms_116, true_and, and_true, List.length_cons, List.length_nil, Nat.reduceAdd, Nat.reduceLeDiff, Nat.reduceEqDiff, Nat.reduceLT, Int.reduceLT, Int.reduceLE, Int.reduceEq, Int.reduceNeg, not_false_eq_true, not_true_eq_false, Nat.zero_le, Nat.le_refl, Nat.zero_add]
  refine (v_clear (E := EEk 66 L) (v := 21) (Nat.le_of_ble_eq_true rfl) rfl rfl (Nat.le_of_ble_eq_true rfl) rfl).mono ?_
  rintro D' ⟨hf, hV⟩
  refine ⟨fun a ha => ?_, hV⟩
  rw [hf a ha]
  simp (disch := omega) only [upr_ne]
theorem vi_34 : CN 43 [vR 34, vR 6] (EEk 69 L, D) (fun h' => h'.1 = EEk 92 L ∧ fr 34 D h'.2 ∧ vP h'.2 34 emV) := by
  refine Sx.un (y := 43) (n := 0) (lo := [vR 34, vR 6]) (st := []) (u := (0, 0)) ?_
  refine go_43_0 ?_
  simp only [sg_43_0, cl_I, cl_L, cl_R, e_aload_n, e_bipush, e_cv1, e_newa, e_nil, e_objInit, e_vret, fl_0, fl_I, fl_L, fl_R, l_ldA0, l_ldA1, rk_0, kA_69, kP_70, kA_71, kP_72, kA_73, kP_74, kA_75, kP_76, kA_77, kP_78, kA_79, kP_80, kA_81, kP_82, kA_83, kP_84, kA_85, kP_86, kA_87, kP_88, kA_89, kP_90, kP_91, kn_92, ks_92_34, rmc_4, rms_4, rmc_18, rms_18, rmc_27, rms_27, rmc_30, rms_30, rmc_43, rms_43, rmc_64, rms_64, rmc_69, rms_69, rmc_116, rms_116, true_and, and_true, List.length_cons, List.length_nil, Nat.reduceAdd, Nat.reduceLeDiff, Nat.reduceEqDiff, Nat.reduceLT, Int.reduceLT, Int.reduceLE, Int.reduceEq, Int.reduceNeg, not_false_eq_true, not_true_eq_false, Nat.zero_le, Nat.le_refl, Nat.zero_add]
  refine (v_clear (E := EEk 92 L) (v := 34) (Nat.le_of_ble_eq_true rfl) rfl rfl (Nat.le_of_ble_eq_true rfl) rfl).mono ?_
  rintro D' ⟨hf, hV⟩
  refine ⟨fun a ha => ?_, hV⟩
  rw [hf a ha]
  simp (disch := omega) only [upr_ne]
theorem vi_46 : CN 43 [vR 46, vR 6] (EEk 94 L, D) (fun h' => h'.1 = EEk 117 L ∧ fr 46 D h'.2 ∧ vP h'.2 46 emV) := by
  refine Sx.un (y := 43) (n := 0) (lo := [vR 46, vR 6]) (st := []) (u := (0, 0)) ?_
  refine go_43_0 ?_
  simp only [sg_43_0, cl_I, cl_L, cl_R, e_aload_n, e_bipush, e_cv1, e_newa, e_nil, e_objInit, e_vret, fl_0, fl_I, fl_L, fl_R, l_ldA0, l_ldA1, rk_0, kA_94, kP_95, kA_96, kP_97, kA_98, kP_99, kA_100, kP_101, kA_102, kP_103, kA_104, kP_105, kA_106, kP_107, kA_108, kP_109, kA_110, kP_111, kA_112, kP_113, kA_114, kP_115, kP_116, kn_117, ks_117_46, rmc_4, rms_4, rmc_18, rms_18, rmc_27, rms_27, rmc_30, rms_30, rmc_43, rms_43, rmc_64, rms_64, rmc_69, rms_69, rmc_116, rms_116, true_and, and_true, List.length_cons, List.length_nil, Nat.reduceAdd, Nat.reduceLeDiff, Nat.reduceEqDiff, Nat.reduceLT, Int.reduceLT, Int.reduceLE, Int.reduceEq, Int.reduceNeg, not_false_eq_true, not_true_eq_false, Nat.zero_le, Nat.le_refl, Nat.zero_add]
  refine (v_clear (E := EEk 117 L) (v := 46) (Nat.le_of_ble_eq_true rfl) rfl rfl (Nat.le_of_ble_eq_true rfl) rfl).mono ?_
  rintro D' ⟨hf, hV⟩
  refine ⟨fun a ha => ?_, hV⟩
  rw [hf a ha]
  simp (disch := omega) only [upr_ne]
theorem wi_59 : CN 64 [vR 59] (EEk 122 L, D) (fun h' => h'.1 = EEk 124 L ∧ h'.2 = upr D 60 (fun _ => 0)) := by
  refine Sx.un (y := 64) (n := 0) (lo := [vR 59]) (st := []) (u := (0, 0)) ?_
  refine go_64_0 ?_
  simp only [sg_64_0, cl_I, cl_L, cl_R, e_aload_n, e_bipush, e_newa, e_nil, e_objInit, e_vret, l_ldA0, kA_122, kP_123, rmc_4, rms_4, rmc_18, rms_18, rmc_27, rms_27, rmc_30, rms_30, rmc_43, rms_43, rmc_64, rms_64, rmc_69, rms_69, rmc_116, rms_116, true_and, and_true, List.length_cons, List.length_nil, Nat.reduceAdd, Nat.reduceLeDiff, Nat.reduceEqDiff, Nat.reduceLT, Int.reduceLT, Int.reduceLE, Int.reduceEq, Int.reduceNeg, not_false_eq_true, not_true_eq_false, Nat.zero_le, Nat.le_refl, Nat.zero_add]
theorem li_61 : CN 27 [vR 61] (EEk 126 L, D) (fun h' => h'.1 = EEk 128 L ∧ h'.2 = upr D 62 (fun _ => 0)) := by
  refine Sx.un (y := 27) (n := 0) (lo := [vR 61]) (st := []) (u := (0, 0)) ?_
  refine go_27_0 ?_
  simp only [sg_27_0, cl_I, cl_L, cl_R, e_aload_n, e_bipush, e_newa, e_nil, e_objInit, e_vret, l_ldA0, kA_126, kP_127, rmc_4, rms_4, rmc_18, rms_18, rmc_27, rms_27, rmc_30, rms_30, rmc_43, rms_43, rmc_64, rms_64, rmc_69, rms_69, rmc_116, rms_116, true_and, and_true, List.length_cons, List.length_nil, Nat.reduceAdd, Nat.reduceLeDiff, Nat.reduceEqDiff, Nat.reduceLT, Int.reduceLT, Int.reduceLE, Int.reduceEq, Int.reduceNeg, not_false_eq_true, not_true_eq_false, Nat.zero_le, Nat.le_refl, Nat.zero_add]
theorem fi_63 : CN 4 [vR 63, vR 6] (EEk 130 L, D) (fun h' => h'.1 = EEk 141 L ∧ h'.2 = upr (upr (upr (upr (upr D 64 (fun _ => 0)) 65 (fun _ => 0)) 66 (fun _ => 0)) 67 (fun _ => 0)) 68 (fun _ => 0)) := by
  refine Sx.un (y := 4) (n := 0) (lo := [vR 63, vR 6]) (st := []) (u := (0, 0)) ?_
  refine go_4_0 ?_
  simp only [sg_4_0, cl_I, cl_L, cl_R, e_aload_n, e_bipush, e_newa, e_nil, e_objInit, e_vret, l_ldA0, l_ldA1, kA_130, kP_131, kA_132, kP_133, kA_134, kP_135, kA_136, kP_137, kA_138, kP_139, kP_140, rmc_4, rms_4, rmc_18, rms_18, rmc_27, rms_27, rmc_30, rms_30, rmc_43, rms_43, rmc_64, rms_64, rmc_69, rms_69, rmc_116, rms_116, true_and, and_true, List.length_cons, List.length_nil, Nat.reduceAdd, Nat.reduceLeDiff, Nat.reduceEqDiff, Nat.reduceLT, Int.reduceLT, Int.reduceLE, Int.reduceEq, Int.reduceNeg, not_false_eq_true, not_true_eq_false, Nat.zero_le, Nat.le_refl, Nat.zero_add]
def sg_69_A : List ab_I := [(0, .aload_n 0, 1, [0]), (1, .invokespecial 1, 3, [76]), (4, .aload_n 0, 1, [0]), (5, .bipush 64, 2, []), (7, .newarray .int, 2, [0]), (9, .putfield 9, 3, [6, 0, 1, 264]), (12, .aload_n 0, 1, [0]), (13, .new 13, 3, [3, 79, 80, 62]), (16, .dup, 1, []), (17, .invokespecial 15, 3, [30, 1, 3, 81, 1, 1, 6]), (20, .putfield 16, 3, [6, 2, 1, 266]), (23, .aload_n 0, 1, [0]), (24, .new 20, 3, [1, 138, 86, 63]), (27, .dup, 1, []), (28, .invokespecial 22, 3, [18, 1, 3, 139, 0, 1, 4]), (31, .putfield 23, 3, [6, 3, 1, 267]), (34, .aload_n 0, 1, [0]), (35, .new 27, 3, [4, 140, 141, 64]), (38, .dup, 1, []), (39, .aload_n 0, 1, [0]), (40, .getfield 23, 3, [6, 3, 1, 267]), (43, .invokespecial 29, 3, [43, 2, 3, 142, 0, 2, 7]), (46, .putfield 32, 3, [6, 4, 1, 268]), (49, .aload_n 0, 1, [0]), (50, .new 27, 3, [4, 140, 141, 64]), (53, .dup, 1, []), (54, .aload_n 0, 1, [0]), (55, .getfield 23, 3, [6, 3, 1, 267]), (58, .invokespecial 29, 3, [43, 2, 3, 142, 0, 2, 7]), (61, .putfield 36, 3, [6, 5, 1, 269]), (64, .aload_n 0, 1, [0]), (65, .iconst 2, 1, []), (66, .anewarray 27, 3, [140]), (69, .dup, 1, []), (70, .iconst 0, 1, []), (71, .new 27, 3, [4, 140, 141, 64]), (74, .dup, 1, []), (75, .aload_n 0, 1, [0]), (76, .getfield 23, 3, [6, 3, 1, 267])]
theorem go_69_A {lo st : List ab_V} {h : ab_H} {u : Nat × Nat} {Q : Option ab_V → ab_H → Prop} (hw : wBc 69 Q (fun t lo st h u => Sx 69 t lo st h u Q) sg_69_A (fun lo st h u => Sx 69 39 lo st h u Q) lo st h u) : Sx 69 0 lo st h u Q := sm_seg sg_69_A (by decide) rfl rfl hw
def sg_69_B : List ab_I := [(82, .aastore, 1, []), (83, .dup, 1, []), (84, .iconst 1, 1, []), (85, .new 27, 3, [4, 140, 141, 64]), (88, .dup, 1, []), (89, .aload_n 0, 1, [0]), (90, .getfield 23, 3, [6, 3, 1, 267])]
theorem go_69_B {lo st : List ab_V} {h : ab_H} {u : Nat × Nat} {Q : Option ab_V → ab_H → Prop} (hw : wBc 69 Q (fun t lo st h u => Sx 69 t lo st h u Q) sg_69_B (fun lo st h u => Sx 69 47 lo st h u Q) lo st h u) : Sx 69 40 lo st h u Q := sm_seg sg_69_B (by decide) rfl rfl hw
def sg_69_C : List ab_I := [(96, .aastore, 1, []), (97, .putfield 39, 3, [6, 6, 1, 270]), (100, .aload_n 0, 1, [0]), (101, .iconst 2, 1, []), (102, .newarray .boolean, 2, [1]), (104, .putfield 43, 3, [6, 7, 1, 271]), (107, .aload_n 0, 1, [0]), (108, .new 47, 3, [5, 209, 210, 65]), (111, .dup, 1, []), (112, .invokespecial 49, 3, [64, 1, 3, 211, 1, 1, 8]), (115, .putfield 50, 3, [6, 8, 1, 272]), (118, .aload_n 0, 1, [0]), (119, .new 54, 3, [2, 223, 224, 66]), (122, .dup, 1, []), (123, .invokespecial 56, 3, [27, 1, 3, 225, 1, 1, 5]), (126, .putfield 57, 3, [6, 9, 1, 273]), (129, .aload_n 0, 1, [0]), (130, .new 61, 3, [0, 234, 235, 67]), (133, .dup, 1, []), (134, .aload_n 0, 1, [0]), (135, .getfield 23, 3, [6, 3, 1, 267]), (138, .invokespecial 63, 3, [4, 2, 3, 236, 0, 2, 3]), (141, .putfield 64, 3, [6, 10, 1, 274]), (144, .aload_n 0, 1, [0]), (145, .iconst 0, 1, []), (146, .putfield 68, 3, [6, 1, 0, 265]), (149, .return_, 1, [])]
theorem go_69_C {lo st : List ab_V} {h : ab_H} {u : Nat × Nat} {Q : Option ab_V → ab_H → Prop} (hw : wBc 69 Q (fun t lo st h u => Sx 69 t lo st h u Q) sg_69_C (fun lo st h u => Sx 69 75 lo st h u Q) lo st h u) : Sx 69 48 lo st h u Q := sm_seg sg_69_C (by decide) rfl rfl hw
theorem go_69_at39 {D : ab_D} {Q : Option ab_V → ab_H → Prop} {c s : Nat} (hr : c + 11 ≤ 68 ∧ s + 242 ≤ 1393) (kz : CN 43 [vR 34, vR 6] (EEk 69 L, D) (fun h' => (EEk 69 L).1 ≤ h'.1.1 ∧ Sx 69 40 [vR 0] [vR 34, vI 0, vR 33, vR 33, vR 0] h' (c + 11, s + 242) Q)) : Sx 69 39 [vR 0] [vR 6, vR 34, vR 34, vI 0, vR 33, vR 33, vR 0] (EEk 69 L, D) (c, s) Q := ⟨(), s_deep (na := 2) (z := 43) (F := (⟨by decide, rfl⟩ : Fq 69 39 (79, .invokespecial 29, 3, [43, 2, 3, 142, 0, 2, 7]))) cat5 (by decide) (by decide) ⟨34, rfl, Nat.le_of_ble_eq_true rfl, rfl⟩ hr (CN.mono kz (fun h' q => ⟨q.1, q.2.un⟩))⟩
theorem go_69_at47 {D : ab_D} {Q : Option ab_V → ab_H → Prop} {c s : Nat} (hr : c + 11 ≤ 68 ∧ s + 242 ≤ 1393) (kz : CN 43 [vR 46, vR 6] (EEk 94 L, D) (fun h' => (EEk 94 L).1 ≤ h'.1.1 ∧ Sx 69 48 [vR 0] [vR 46, vI 1, vR 33, vR 33, vR 0] h' (c + 11, s + 242) Q)) : Sx 69 47 [vR 0] [vR 6, vR 46, vR 46, vI 1, vR 33, vR 33, vR 0] (EEk 94 L, D) (c, s) Q := ⟨(), s_deep (na := 2) (z := 43) (F := (⟨by decide, rfl⟩ : Fq 69 47 (93, .invokespecial 29, 3, [43, 2, 3, 142, 0, 2, 7]))) cat5 (by decide) (by decide) ⟨46, rfl, Nat.le_of_ble_eq_true rfl, rfl⟩ hr (CN.mono kz (fun h' q => ⟨q.1, q.2.un⟩))⟩
/-- behind the class's constructor -/
def iP (D D' : ab_D) : Prop := (∀ a, 69 ≤ a → D' a = D a) ∧ D' 0 1 = 0 ∧ (∀ j : Int, 0 ≤ j → j < 8 → D' 7 j.toNat = D 1001 j.toNat) ∧ (∀ j : Int, 0 ≤ j → j < 56 → D' 8 j.toNat = 5) ∧ vP D' 9 emV ∧ (∀ j, D' 58 j = 0) ∧ (∀ j, D' 59 j = 0) ∧ D' 60 = (fun _ => 0) ∧ D' 62 = (fun _ => 0) ∧ (∀ j, D' 63 j = 0) ∧ D' 64 = (fun _ => 0) ∧ D' 65 = (fun _ => 0)
set_option maxHeartbeats 4000000 in
theorem pi_0 : CN 69 [vR 0] (EEk 1 L, D) (fun h' => h'.1 = EEk 142 L ∧ iP D h'.2) := by
  refine Sx.un (y := 69) (n := 0) (lo := [vR 0]) (st := []) (u := (0, 0)) ?_
  refine go_69_A ?_
  simp only [sg_69_A, cl_I, cl_L, cl_R, e_aload_n, e_anew, e_bipush, e_ci1, e_ci2, e_dupI, e_dupR, e_iconst, e_new, e_newa, e_nil, e_objInit, e_vret, fl_0, fl_I, fl_L, fl_R, l_ldA0, rk_3, kA_1, kP_2, kO_3, kP_10, kO_11, kP_16, kO_17, kP_41, kO_42, kP_66, kA_67, kO_68, kS_92, kO_93, kS_117, kP_118, kA_119, kP_120, kO_121, kP_124, kO_125, kP_128, kO_129, kP_141, kG_18, kG_43, kG_69, kG_94, kG_130, kZ_142, kn_4, ks_4_2, kn_12, ks_12_6, kn_18, ks_18_9, kn_43, ks_43_21, kn_69, ks_69_34, kn_94, ks_94_46, kn_122, ks_122_59, kn_126, ks_126_61, kn_130, ks_130_63, rmc_4, rms_4, rmc_18, rms_18, rmc_27, rms_27, rmc_30, rms_30, rmc_43, rms_43, rmc_64, rms_64, rmc_69, rms_69, rmc_116, rms_116, true_and, and_true, List.length_cons, List.length_nil, Nat.reduceAdd, Nat.reduceLeDiff, Nat.reduceEqDiff, Nat.reduceLT, Int.reduceLT, Int.reduceLE, Int.reduceEq, Int.reduceNeg, not_false_eq_true, not_true_eq_false, Nat.zero_le, Nat.le_refl, Nat.zero_add]
  refine CN.mono ri_2 ?_
  rintro ⟨E', D1⟩ ⟨e, f1⟩
  have e : E' = EEk 10 L := e
  subst e
  have f1 : ∀ a, ¬ (3 ≤ a ∧ a ≤ 5) → D1 a = upr (upr D 1 (fun _ => 0)) 2 (fun _ => 0) a := f1
  refine ⟨Nat.le_of_ble_eq_true rfl, ?_⟩
  simp only [cl_I, cl_L, cl_R, e_aload_n, e_anew, e_bipush, e_ci1, e_ci2, e_dupI, e_dupR, e_iconst, e_new, e_newa, e_nil, e_objInit, e_vret, fl_0, fl_I, fl_L, fl_R, l_ldA0, rk_3, kA_1, kP_2, kO_3, kP_10, kO_11, kP_16, kO_17, kP_41, kO_42, kP_66, kA_67, kO_68, kS_92, kO_93, kS_117, kP_118, kA_119, kP_120, kO_121, kP_124, kO_125, kP_128, kO_129, kP_141, kG_18, kG_43, kG_69, kG_94, kG_130, kZ_142, kn_4, ks_4_2, kn_12, ks_12_6, kn_18, ks_18_9, kn_43, ks_43_21, kn_69, ks_69_34, kn_94, ks_94_46, kn_122, ks_122_59, kn_126, ks_126_61, kn_130, ks_130_63, rmc_4, rms_4, rmc_18, rms_18, rmc_27, rms_27, rmc_30, rms_30, rmc_43, rms_43, rmc_64, rms_64, rmc_69, rms_69, rmc_116, rms_116, true_and, and_true, List.length_cons, List.length_nil, Nat.reduceAdd, Nat.reduceLeDiff, Nat.reduceEqDiff, Nat.reduceLT, Int.reduceLT, Int.reduceLE, Int.reduceEq, Int.reduceNeg, not_false_eq_true, not_true_eq_false, Nat.zero_le, Nat.le_refl, Nat.zero_add]
  refine CN.mono gi_6 ?_
  rintro ⟨E', D2⟩ ⟨e, f2, g7, g8⟩
  have e : E' = EEk 16 L := e
  subst e
  have f2 : ∀ a, a ≠ 7 → a ≠ 8 → D2 a = upr D1 6 (fun _ => 0) a := f2
  have g7 : ∀ j : Int, 0 ≤ j → j < 8 → D2 7 j.toNat = upr D1 6 (fun _ => 0) 1001 j.toNat := g7
  have g8 : ∀ j : Int, 0 ≤ j → j < 56 → D2 8 j.toNat = 5 := g8
  refine ⟨Nat.le_of_ble_eq_true rfl, ?_⟩
  simp only [cl_I, cl_L, cl_R, e_aload_n, e_anew, e_bipush, e_ci1, e_ci2, e_dupI, e_dupR, e_iconst, e_new, e_newa, e_nil, e_objInit, e_vret, fl_0, fl_I, fl_L, fl_R, l_ldA0, rk_3, kA_1, kP_2, kO_3, kP_10, kO_11, kP_16, kO_17, kP_41, kO_42, kP_66, kA_67, kO_68, kS_92, kO_93, kS_117, kP_118, kA_119, kP_120, kO_121, kP_124, kO_125, kP_128, kO_129, kP_141, kG_18, kG_43, kG_69, kG_94, kG_130, kZ_142, kn_4, ks_4_2, kn_12, ks_12_6, kn_18, ks_18_9, kn_43, ks_43_21, kn_69, ks_69_34, kn_94, ks_94_46, kn_122, ks_122_59, kn_126, ks_126_61, kn_130, ks_130_63, rmc_4, rms_4, rmc_18, rms_18, rmc_27, rms_27, rmc_30, rms_30, rmc_43, rms_43, rmc_64, rms_64, rmc_69, rms_69, rmc_116, rms_116, true_and, and_true, List.length_cons, List.length_nil, Nat.reduceAdd, Nat.reduceLeDiff, Nat.reduceEqDiff, Nat.reduceLT, Int.reduceLT, Int.reduceLE, Int.reduceEq, Int.reduceNeg, not_false_eq_true, not_true_eq_false, Nat.zero_le, Nat.le_refl, Nat.zero_add]
  refine CN.mono vi_9 ?_
  rintro ⟨E', D3⟩ ⟨e, f3, v9⟩
  have e : E' = EEk 41 L := e
  subst e
  have f3 : fr 9 (upr D2 9 (fun _ => 0)) D3 := f3
  have v9 : vP D3 9 emV := v9
  refine ⟨Nat.le_of_ble_eq_true rfl, ?_⟩
  simp only [cl_I, cl_L, cl_R, e_aload_n, e_anew, e_bipush, e_ci1, e_ci2, e_dupI, e_dupR, e_iconst, e_new, e_newa, e_nil, e_objInit, e_vret, fl_0, fl_I, fl_L, fl_R, l_ldA0, rk_3, kA_1, kP_2, kO_3, kP_10, kO_11, kP_16, kO_17, kP_41, kO_42, kP_66, kA_67, kO_68, kS_92, kO_93, kS_117, kP_118, kA_119, kP_120, kO_121, kP_124, kO_125, kP_128, kO_129, kP_141, kG_18, kG_43, kG_69, kG_94, kG_130, kZ_142, kn_4, ks_4_2, kn_12, ks_12_6, kn_18, ks_18_9, kn_43, ks_43_21, kn_69, ks_69_34, kn_94, ks_94_46, kn_122, ks_122_59, kn_126, ks_126_61, kn_130, ks_130_63, rmc_4, rms_4, rmc_18, rms_18, rmc_27, rms_27, rmc_30, rms_30, rmc_43, rms_43, rmc_64, rms_64, rmc_69, rms_69, rmc_116, rms_116, true_and, and_true, List.length_cons, List.length_nil, Nat.reduceAdd, Nat.reduceLeDiff, Nat.reduceEqDiff, Nat.reduceLT, Int.reduceLT, Int.reduceLE, Int.reduceEq, Int.reduceNeg, not_false_eq_true, not_true_eq_false, Nat.zero_le, Nat.le_refl, Nat.zero_add]
  refine CN.mono vi_21 ?_
  rintro ⟨E', D4⟩ ⟨e, f4, _⟩
  have e : E' = EEk 66 L := e
  subst e
  have f4 : fr 21 (upr D3 21 (fun _ => 0)) D4 := f4
  refine ⟨Nat.le_of_ble_eq_true rfl, ?_⟩
  simp only [cl_I, cl_L, cl_R, e_aload_n, e_anew, e_bipush, e_ci1, e_ci2, e_dupI, e_dupR, e_iconst, e_new, e_newa, e_nil, e_objInit, e_vret, fl_0, fl_I, fl_L, fl_R, l_ldA0, rk_3, kA_1, kP_2, kO_3, kP_10, kO_11, kP_16, kO_17, kP_41, kO_42, kP_66, kA_67, kO_68, kS_92, kO_93, kS_117, kP_118, kA_119, kP_120, kO_121, kP_124, kO_125, kP_128, kO_129, kP_141, kG_18, kG_43, kG_69, kG_94, kG_130, kZ_142, kn_4, ks_4_2, kn_12, ks_12_6, kn_18, ks_18_9, kn_43, ks_43_21, kn_69, ks_69_34, kn_94, ks_94_46, kn_122, ks_122_59, kn_126, ks_126_61, kn_130, ks_130_63, rmc_4, rms_4, rmc_18, rms_18, rmc_27, rms_27, rmc_30, rms_30, rmc_43, rms_43, rmc_64, rms_64, rmc_69, rms_69, rmc_116, rms_116, true_and, and_true, List.length_cons, List.length_nil, Nat.reduceAdd, Nat.reduceLeDiff, Nat.reduceEqDiff, Nat.reduceLT, Int.reduceLT, Int.reduceLE, Int.reduceEq, Int.reduceNeg, not_false_eq_true, not_true_eq_false, Nat.zero_le, Nat.le_refl, Nat.zero_add]
  refine go_69_at39 (by decide) ?_
  refine CN.mono vi_34 ?_
  rintro ⟨E', D5⟩ ⟨e, f5, _⟩
  have e : E' = EEk 92 L := e
  subst e
  have f5 : fr 34 (upr (upr D4 33 (fun _ => 0)) 34 (fun _ => 0)) D5 := f5
  refine ⟨Nat.le_of_ble_eq_true rfl, ?_⟩
  refine go_69_B ?_
  simp only [sg_69_B, cl_I, cl_L, cl_R, e_aload_n, e_anew, e_bipush, e_ci1, e_ci2, e_dupI, e_dupR, e_iconst, e_new, e_newa, e_nil, e_objInit, e_vret, fl_0, fl_I, fl_L, fl_R, l_ldA0, rk_3, kA_1, kP_2, kO_3, kP_10, kO_11, kP_16, kO_17, kP_41, kO_42, kP_66, kA_67, kO_68, kS_92, kO_93, kS_117, kP_118, kA_119, kP_120, kO_121, kP_124, kO_125, kP_128, kO_129, kP_141, kG_18, kG_43, kG_69, kG_94, kG_130, kZ_142, kn_4, ks_4_2, kn_12, ks_12_6, kn_18, ks_18_9, kn_43, ks_43_21, kn_69, ks_69_34, kn_94, ks_94_46, kn_122, ks_122_59, kn_126, ks_126_61, kn_130, ks_130_63, rmc_4, rms_4, rmc_18, rms_18, rmc_27, rms_27, rmc_30, rms_30, rmc_43, rms_43, rmc_64, rms_64, rmc_69, rms_69, rmc_116, rms_116, true_and, and_true, List.length_cons, List.length_nil, Nat.reduceAdd, Nat.reduceLeDiff, Nat.reduceEqDiff, Nat.reduceLT, Int.reduceLT, Int.reduceLE, Int.reduceEq, Int.reduceNeg, not_false_eq_true, not_true_eq_false, Nat.zero_le, Nat.le_refl, Nat.zero_add]
  refine go_69_at47 (by decide) ?_
  refine CN.mono vi_46 ?_
  rintro ⟨E', D6⟩ ⟨e, f6, _⟩
  have e : E' = EEk 117 L := e
  subst e
  have f6 : fr 46 (upr D5 46 (fun _ => 0)) D6 := f6
  refine ⟨Nat.le_of_ble_eq_true rfl, ?_⟩
  refine go_69_C ?_
  simp only [sg_69_C, cl_I, cl_L, cl_R, e_aload_n, e_anew, e_bipush, e_ci1, e_ci2, e_dupI, e_dupR, e_iconst, e_new, e_newa, e_nil, e_objInit, e_vret, fl_0, fl_I, fl_L, fl_R, l_ldA0, rk_3, kA_1, kP_2, kO_3, kP_10, kO_11, kP_16, kO_17, kP_41, kO_42, kP_66, kA_67, kO_68, kS_92, kO_93, kS_117, kP_118, kA_119, kP_120, kO_121, kP_124, kO_125, kP_128, kO_129, kP_141, kG_18, kG_43, kG_69, kG_94, kG_130, kZ_142, kn_4, ks_4_2, kn_12, ks_12_6, kn_18, ks_18_9, kn_43, ks_43_21, kn_69, ks_69_34, kn_94, ks_94_46, kn_122, ks_122_59, kn_126, ks_126_61, kn_130, ks_130_63, rmc_4, rms_4, rmc_18, rms_18, rmc_27, rms_27, rmc_30, rms_30, rmc_43, rms_43, rmc_64, rms_64, rmc_69, rms_69, rmc_116, rms_116, true_and, and_true, List.length_cons, List.length_nil, Nat.reduceAdd, Nat.reduceLeDiff, Nat.reduceEqDiff, Nat.reduceLT, Int.reduceLT, Int.reduceLE, Int.reduceEq, Int.reduceNeg, not_false_eq_true, not_true_eq_false, Nat.zero_le, Nat.le_refl, Nat.zero_add]
  refine CN.mono wi_59 ?_
  rintro ⟨E', D7⟩ ⟨e, f7⟩
  have e : E' = EEk 124 L := e
  subst e
  have f7 : D7 = upr (upr (upr D6 58 (fun _ => 0)) 59 (fun _ => 0)) 60 (fun _ => 0) := f7
  refine ⟨Nat.le_of_ble_eq_true rfl, ?_⟩
  simp only [cl_I, cl_L, cl_R, e_aload_n, e_anew, e_bipush, e_ci1, e_ci2, e_dupI, e_dupR, e_iconst, e_new, e_newa, e_nil, e_objInit, e_vret, fl_0, fl_I, fl_L, fl_R, l_ldA0, rk_3, kA_1, kP_2, kO_3, kP_10, kO_11, kP_16, kO_17, kP_41, kO_42, kP_66, kA_67, kO_68, kS_92, kO_93, kS_117, kP_118, kA_119, kP_120, kO_121, kP_124, kO_125, kP_128, kO_129, kP_141, kG_18, kG_43, kG_69, kG_94, kG_130, kZ_142, kn_4, ks_4_2, kn_12, ks_12_6, kn_18, ks_18_9, kn_43, ks_43_21, kn_69, ks_69_34, kn_94, ks_94_46, kn_122, ks_122_59, kn_126, ks_126_61, kn_130, ks_130_63, rmc_4, rms_4, rmc_18, rms_18, rmc_27, rms_27, rmc_30, rms_30, rmc_43, rms_43, rmc_64, rms_64, rmc_69, rms_69, rmc_116, rms_116, true_and, and_true, List.length_cons, List.length_nil, Nat.reduceAdd, Nat.reduceLeDiff, Nat.reduceEqDiff, Nat.reduceLT, Int.reduceLT, Int.reduceLE, Int.reduceEq, Int.reduceNeg, not_false_eq_true, not_true_eq_false, Nat.zero_le, Nat.le_refl, Nat.zero_add]
  refine CN.mono li_61 ?_
  rintro ⟨E', D8⟩ ⟨e, f8⟩
  have e : E' = EEk 128 L := e
  subst e
  have f8 : D8 = upr (upr D7 61 (fun _ => 0)) 62 (fun _ => 0) := f8
  refine ⟨Nat.le_of_ble_eq_true rfl, ?_⟩
  simp only [cl_I, cl_L, cl_R, e_aload_n, e_anew, e_bipush, e_ci1, e_ci2, e_dupI, e_dupR, e_iconst, e_new, e_newa, e_nil, e_objInit, e_vret, fl_0, fl_I, fl_L, fl_R, l_ldA0, rk_3, kA_1, kP_2, kO_3, kP_10, kO_11, kP_16, kO_17, kP_41, kO_42, kP_66, kA_67, kO_68, kS_92, kO_93, kS_117, kP_118, kA_119, kP_120, kO_121, kP_124, kO_125, kP_128, kO_129, kP_141, kG_18, kG_43, kG_69, kG_94, kG_130, kZ_142, kn_4, ks_4_2, kn_12, ks_12_6, kn_18, ks_18_9, kn_43, ks_43_21, kn_69, ks_69_34, kn_94, ks_94_46, kn_122, ks_122_59, kn_126, ks_126_61, kn_130, ks_130_63, rmc_4, rms_4, rmc_18, rms_18, rmc_27, rms_27, rmc_30, rms_30, rmc_43, rms_43, rmc_64, rms_64, rmc_69, rms_69, rmc_116, rms_116, true_and, and_true, List.length_cons, List.length_nil, Nat.reduceAdd, Nat.reduceLeDiff, Nat.reduceEqDiff, Nat.reduceLT, Int.reduceLT, Int.reduceLE, Int.reduceEq, Int.reduceNeg, not_false_eq_true, not_true_eq_false, Nat.zero_le, Nat.le_refl, Nat.zero_add]
  refine CN.mono fi_63 ?_
  rintro ⟨E', D9⟩ ⟨e, f9⟩
  have e : E' = EEk 141 L := e
  subst e
  have f9 : D9 = upr (upr (upr (upr (upr (upr D8 63 (fun _ => 0)) 64 (fun _ => 0)) 65 (fun _ => 0)) 66 (fun _ => 0)) 67 (fun _ => 0)) 68 (fun _ => 0) := f9
  refine ⟨Nat.le_of_ble_eq_true rfl, ?_⟩
  simp only [cl_I, cl_L, cl_R, e_aload_n, e_anew, e_bipush, e_ci1, e_ci2, e_dupI, e_dupR, e_iconst, e_new, e_newa, e_nil, e_objInit, e_vret, fl_0, fl_I, fl_L, fl_R, l_ldA0, rk_3, kA_1, kP_2, kO_3, kP_10, kO_11, kP_16, kO_17, kP_41, kO_42, kP_66, kA_67, kO_68, kS_92, kO_93, kS_117, kP_118, kA_119, kP_120, kO_121, kP_124, kO_125, kP_128, kO_129, kP_141, kG_18, kG_43, kG_69, kG_94, kG_130, kZ_142, kn_4, ks_4_2, kn_12, ks_12_6, kn_18, ks_18_9, kn_43, ks_43_21, kn_69, ks_69_34, kn_94, ks_94_46, kn_122, ks_122_59, kn_126, ks_126_61, kn_130, ks_130_63, rmc_4, rms_4, rmc_18, rms_18, rmc_27, rms_27, rmc_30, rms_30, rmc_43, rms_43, rmc_64, rms_64, rmc_69, rms_69, rmc_116, rms_116, true_and, and_true, List.length_cons, List.length_nil, Nat.reduceAdd, Nat.reduceLeDiff, Nat.reduceEqDiff, Nat.reduceLT, Int.reduceLT, Int.reduceLE, Int.reduceEq, Int.reduceNeg, not_false_eq_true, not_true_eq_false, Nat.zero_le, Nat.le_refl, Nat.zero_add]
  have c9 : ∀ a, a < 63 ∨ 69 ≤ a → D9 a = D8 a := fun a ha => by rw [f9]; simp (disch := omega) only [upr_ne]
  have c8 : ∀ a, a < 61 ∨ 69 ≤ a → D8 a = D7 a := fun a ha => by rw [f8]; simp (disch := omega) only [upr_ne]
  have c7 : ∀ a, a < 58 ∨ 69 ≤ a → D7 a = D6 a := fun a ha => by rw [f7]; simp (disch := omega) only [upr_ne]
  have c6 : ∀ a, a < 46 ∨ 69 ≤ a → D6 a = D5 a := fun a ha => by rw [f6 a (by omega), upr_ne (by omega)]
  have c5 : ∀ a, a < 33 ∨ 69 ≤ a → D5 a = D4 a := fun a ha => by rw [f5 a (by omega), upr_ne (by omega), upr_ne (by omega)]
  have c4 : ∀ a, a < 21 ∨ 69 ≤ a → D4 a = D3 a := fun a ha => by rw [f4 a (by omega), upr_ne (by omega)]
  have c3 : ∀ a, a < 9 ∨ 69 ≤ a → D3 a = D2 a := fun a ha => by rw [f3 a (by omega), upr_ne (by omega)]
  have c2 : ∀ a, 69 ≤ a → D2 a = D1 a := fun a ha => by rw [f2 a (by omega) (by omega), upr_ne (by omega)]
  have c1 : ∀ a, 69 ≤ a → D1 a = D a := fun a ha => by rw [f1 a (by omega), upr_ne (by omega), upr_ne (by omega)]
  have z : ∀ a, a ≠ 0 → ups D9 0 1 0 a = D9 a := fun a ha => ups_fn ha
  have c39 : ∀ a, a < 21 → D9 a = D3 a := fun a ha => by rw [c9 a (by omega), c8 a (by omega), c7 a (by omega), c6 a (by omega), c5 a (by omega), c4 a (by omega)]
  refine ⟨fun a ha => ?_, ups_self, fun j j0 j1 => ?_, fun j j0 j1 => ?_, vP_cg (fun a a1 a2 => ?_) v9, fun j => ?_, fun j => ?_, ?_, ?_, fun j => ?_, ?_, ?_⟩
  · rw [z a (by omega), c9 a (by omega), c8 a (by omega), c7 a (by omega), c6 a (by omega), c5 a (by omega), c4 a (by omega), c3 a (by omega), c2 a ha, c1 a ha]
  · rw [z 7 (by decide), c39 7 (by decide), c3 7 (by omega), g7 j j0 j1, upr_ne (by decide), c1 1001 (by decide)]
  · rw [z 8 (by decide), c39 8 (by decide), c3 8 (by omega), g8 j j0 j1]
  · rw [z a (by omega), c39 a (by omega)]
  · rw [z 58 (by decide), c9 58 (by omega), c8 58 (by omega), f7]
    simp (disch := omega) only [upr_ne, upr_self]
  · rw [z 59 (by decide), c9 59 (by omega), c8 59 (by omega), f7]
    simp (disch := omega) only [upr_ne, upr_self]
  · rw [z 60 (by decide), c9 60 (by omega), c8 60 (by omega), f7]
    simp (disch := omega) only [upr_ne, upr_self]
  · rw [z 62 (by decide), c9 62 (by omega), f8]
    simp (disch := omega) only [upr_ne, upr_self]
  · rw [z 63 (by decide), f9]
    simp (disch := omega) only [upr_ne, upr_self]
  · rw [z 64 (by decide), f9]
    simp (disch := omega) only [upr_ne, upr_self]
  · rw [z 65 (by decide), f9]
    simp (disch := omega) only [upr_ne, upr_self]
/-- behind the reference's constructor -/
def iM (D D' : ab_D) : Prop := (∀ a, ¬ (69 ≤ a ∧ a < 88) → D' a = D a) ∧ (∀ j, D' 69 j = D 69 j ∨ D' 69 j = 0) ∧ vM D' emV ∧ (D' 77 0 = 0 ∧ D' 77 1 = 0) ∧ D' 69 22 = 0 ∧ gM D' (grd (st1 (fun _ => -1) 0 2) (fun _ => -1)) ∧ D' 81 = (fun _ => 0) ∧ D' 82 = (fun _ => 0) ∧ D' 83 = (fun _ => 0) ∧ D' 84 = (fun _ => 0)
set_option maxHeartbeats 4000000 in
theorem mi_69 : CN 116 [vR 69] (EEk 143 L, D) (fun h' => h'.1 = EE L ∧ iM D h'.2) := by
  refine Sx.un (y := 116) (n := 0) (lo := [vR 69]) (st := []) (u := (0, 0)) ?_
  refine go_116_0 ?_
  simp only [sg_116_0, cl_I, cl_L, cl_R, e_aload_n, e_bipush, e_cv1, e_get1, e_iastore, e_iconst, e_newa, e_nil, e_objInit, e_sipush, e_vret, fl_0, fl_I, fl_L, fl_R, l_ldA0, rk_0, wRef_some, kA_143, kP_144, kA_145, kP_146, kA_147, kP_148, kA_149, kP_150, kA_151, kP_152, kA_153, kP_154, kA_155, kP_156, kA_157, kP_158, kA_159, kP_160, kA_161, kP_162, kA_163, kP_164, kA_165, kP_166, kA_167, kP_168, kA_169, kP_170, kA_171, kP_172, kA_173, kP_174, kA_175, kP_176, kA_177, kP_178, EEk_all, EE_n, EE_s69, EE_r69_0, EE_s70, Int.reduceToNat, rmc_4, rms_4, rmc_18, rms_18, rmc_27, rms_27, rmc_30, rms_30, rmc_43, rms_43, rmc_64, rms_64, rmc_69, rms_69, rmc_116, rms_116, true_and, and_true, List.length_cons, List.length_nil, Nat.reduceAdd, Nat.reduceLeDiff, Nat.reduceEqDiff, Nat.reduceLT, Int.reduceLT, Int.reduceLE, Int.reduceEq, Int.reduceNeg, not_false_eq_true, not_true_eq_false, Nat.zero_le, Nat.le_refl, Nat.zero_add]
  refine m_blank.mono ?_
  rintro D1 ⟨f1, hb⟩
  refine ⟨by decide, ?_⟩
  refine m_take.mono ?_
  rintro D2 ⟨t1, t2, t3, t4, t5, t6, t7, t8, t9⟩
  have q : ∀ a, a ≠ 69 → a ≠ 70 → a ≠ 71 → a ≠ 72 → a ≠ 77 → D2 a = _ := fun a a1 a2 a3 a4 a5 => by
    rw [t1 a a1 a3 a5, ups_fn a2, f1 a a2 a4]
  refine ⟨fun a ha => ?_, fun j => ?_, ⟨⟨t4, t5, t6⟩, fun p p0 p1 => absurd p1 (by show ¬ p < 0; omega), fun p p0 p1 => absurd p1 (by show ¬ p < 0; omega)⟩, ⟨t8, t9⟩, t7, grd_M (D := ups D1 70 0 2) ⟨?_, fun j j0 j1 => ?_, fun a qa => ?_⟩ t3, ?_, ?_, ?_, ?_⟩
  · rw [q a (by omega) (by omega) (by omega) (by omega) (by omega)]
    simp (disch := omega) only [upr_ne]
  · by_cases z : j = 8 ∨ j = 10 ∨ j = 12 ∨ j = 22
    · rcases z with rfl | rfl | rfl | rfl
      · exact Or.inr t4
      · exact Or.inr t5
      · exact Or.inr t6
      · exact Or.inr t7
    · left
      rw [t2 j (by omega) (by omega) (by omega) (by omega), ups_ne1 (by decide), f1 69 (by decide) (by decide)]
      simp (disch := omega) only [upr_ne]
  · rw [ups_self]
    unfold st1
    rw [if_pos rfl]
  · rw [ups_ne1 (by decide), ups_ne2 (by omega), (hb j (by omega) (by omega)).1, (hb j (by omega) (by omega)).2]
    unfold st1 els
    rw [if_neg (show ¬ j = 0 by omega), if_pos rfl, if_pos rfl]
    exact ⟨rfl, rfl⟩
  · unfold isCl at qa
    obtain ⟨g1, g2⟩ := hb (8 + 6 * (a / 10) + a % 10) (by omega) (by omega)
    rw [ups_ne1 (by decide), ups_ne2 (by omega), g1, g2]
    unfold els dfl
    rw [if_pos rfl, if_pos rfl, if_neg (by omega), if_neg (by omega), if_neg (by omega)]
    exact ⟨rfl, rfl⟩
  all_goals
    rw [q _ (by decide) (by decide) (by decide) (by decide) (by decide)]
    simp (disch := omega) only [upr_ne, upr_self]
end Made

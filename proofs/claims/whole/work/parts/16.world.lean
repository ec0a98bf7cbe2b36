/-! the world behind both constructors (printed by wip/gen/gen_world.py) -/
def pushE (E : ab_E) (v : Nat × Nat) : ab_E := (E.1 + 1, ups2 E.2.1 E.1 v, uprq E.2.2 E.1)
def putE (E : ab_E) (i k j : Nat) : ab_E := (E.1, E.2.1, upq E.2.2 i k j)
/-- the start: the script, the two tables -/
def EE0 (L : Nat) : ab_E := (0, (fun k => if k = 1000 then (5, L) else if k = 1001 then (5, 8) else if k = 1002 then (5, 10) else (6, 0)), fun _ _ => none)
def eOp (E : ab_E) (q : Nat × Nat × Nat × Nat) : ab_E := match q with
  | (0, a, b, _) => pushE E (a, b)
  | (_, a, b, c) => putE E a b c
def eOps : List (Nat × Nat × Nat × Nat) := [(0, 9, 0, 0), (0, 0, 64, 0), (1, 0, 0, 1), (0, 6, 0, 0), (0, 4, 0, 0), (0, 0, 8, 0), (1, 3, 0, 4), (0, 0, 56, 0), (1, 3, 1, 5), (1, 2, 0, 3), (1, 0, 2, 2), (0, 4, 0, 0), (0, 0, 8, 0), (1, 6, 0, 7), (0, 0, 56, 0), (1, 6, 1, 8), (1, 0, 3, 6), (0, 7, 0, 0), (0, 0, 24, 0), (1, 9, 2, 10), (0, 0, 24, 0), (1, 9, 3, 11), (0, 0, 24, 0), (1, 9, 4, 12), (0, 0, 24, 0), (1, 9, 5, 13), (0, 1, 24, 0), (1, 9, 6, 14), (0, 0, 24, 0), (1, 9, 7, 15), (0, 0, 24, 0), (1, 9, 8, 16), (0, 0, 6, 0), (1, 9, 10, 17), (0, 0, 6, 0), (1, 9, 11, 18), (0, 1, 6, 0), (1, 9, 12, 19), (0, 0, 56, 0), (1, 9, 13, 20), (1, 9, 0, 6), (1, 0, 4, 9), (0, 7, 0, 0), (0, 0, 24, 0), (1, 21, 2, 22), (0, 0, 24, 0), (1, 21, 3, 23), (0, 0, 24, 0), (1, 21, 4, 24), (0, 0, 24, 0), (1, 21, 5, 25), (0, 1, 24, 0), (1, 21, 6, 26), (0, 0, 24, 0), (1, 21, 7, 27), (0, 0, 24, 0), (1, 21, 8, 28), (0, 0, 6, 0), (1, 21, 10, 29), (0, 0, 6, 0), (1, 21, 11, 30), (0, 1, 6, 0), (1, 21, 12, 31), (0, 0, 56, 0), (1, 21, 13, 32), (1, 21, 0, 6), (1, 0, 5, 21), (0, 2, 2, 0), (0, 7, 0, 0), (0, 0, 24, 0), (1, 34, 2, 35), (0, 0, 24, 0), (1, 34, 3, 36), (0, 0, 24, 0), (1, 34, 4, 37), (0, 0, 24, 0), (1, 34, 5, 38), (0, 1, 24, 0), (1, 34, 6, 39), (0, 0, 24, 0), (1, 34, 7, 40), (0, 0, 24, 0), (1, 34, 8, 41), (0, 0, 6, 0), (1, 34, 10, 42), (0, 0, 6, 0), (1, 34, 11, 43), (0, 1, 6, 0), (1, 34, 12, 44), (0, 0, 56, 0), (1, 34, 13, 45), (1, 34, 0, 6), (1, 33, 0, 34), (0, 7, 0, 0), (0, 0, 24, 0), (1, 46, 2, 47), (0, 0, 24, 0), (1, 46, 3, 48), (0, 0, 24, 0), (1, 46, 4, 49), (0, 0, 24, 0), (1, 46, 5, 50), (0, 1, 24, 0), (1, 46, 6, 51), (0, 0, 24, 0), (1, 46, 7, 52), (0, 0, 24, 0), (1, 46, 8, 53), (0, 0, 6, 0), (1, 46, 10, 54), (0, 0, 6, 0), (1, 46, 11, 55), (0, 1, 6, 0), (1, 46, 12, 56), (0, 0, 56, 0), (1, 46, 13, 57), (1, 46, 0, 6), (1, 33, 1, 46), (1, 0, 6, 33), (0, 1, 2, 0), (1, 0, 7, 58), (0, 8, 0, 0), (0, 0, 8, 0), (1, 59, 0, 60), (1, 0, 8, 59), (0, 5, 0, 0), (0, 0, 60, 0), (1, 61, 0, 62), (1, 0, 9, 61), (0, 3, 0, 0), (0, 0, 16, 0), (1, 63, 2, 64), (0, 0, 16, 0), (1, 63, 3, 65), (0, 0, 16, 0), (1, 63, 4, 66), (0, 0, 16, 0), (1, 63, 5, 67), (0, 0, 16, 0), (1, 63, 6, 68), (1, 63, 0, 6), (1, 0, 10, 63), (0, 10, 0, 0), (0, 0, 44, 0), (1, 69, 0, 70), (0, 0, 44, 0), (1, 69, 1, 71), (0, 1, 44, 0), (1, 69, 2, 72), (0, 0, 64, 0), (1, 69, 3, 73), (0, 0, 192, 0), (1, 69, 9, 74), (0, 0, 24, 0), (1, 69, 11, 75), (0, 0, 6, 0), (1, 69, 13, 76), (0, 1, 3, 0), (1, 69, 14, 77), (0, 0, 576, 0), (1, 69, 15, 78), (0, 0, 72, 0), (1, 69, 16, 79), (0, 0, 9, 0), (1, 69, 17, 80), (0, 0, 8, 0), (1, 69, 20, 81), (0, 0, 60, 0), (1, 69, 21, 82), (0, 0, 16, 0), (1, 69, 23, 83), (0, 0, 16, 0), (1, 69, 24, 84), (0, 0, 16, 0), (1, 69, 25, 85), (0, 0, 16, 0), (1, 69, 26, 86), (0, 0, 16, 0), (1, 69, 27, 87)]
def EE (L : Nat) : ab_E := eOps.foldl eOp (EE0 L)
set_option maxRecDepth 100000 in
theorem EE_n {L : Nat} : (EE L).1 = 88 := rfl
set_option maxRecDepth 100000 in
theorem EE_s0 {L : Nat} : (EE L).2.1 0 = (9, 0) := rfl
set_option maxRecDepth 100000 in
theorem EE_r0_0 {L : Nat} : (EE L).2.2 0 0 = some 1 := rfl
set_option maxRecDepth 100000 in
theorem EE_r0_2 {L : Nat} : (EE L).2.2 0 2 = some 2 := rfl
set_option maxRecDepth 100000 in
theorem EE_r0_3 {L : Nat} : (EE L).2.2 0 3 = some 6 := rfl
set_option maxRecDepth 100000 in
theorem EE_r0_4 {L : Nat} : (EE L).2.2 0 4 = some 9 := rfl
set_option maxRecDepth 100000 in
theorem EE_r0_5 {L : Nat} : (EE L).2.2 0 5 = some 21 := rfl
set_option maxRecDepth 100000 in
theorem EE_r0_6 {L : Nat} : (EE L).2.2 0 6 = some 33 := rfl
set_option maxRecDepth 100000 in
theorem EE_r0_7 {L : Nat} : (EE L).2.2 0 7 = some 58 := rfl
set_option maxRecDepth 100000 in
theorem EE_r0_8 {L : Nat} : (EE L).2.2 0 8 = some 59 := rfl
set_option maxRecDepth 100000 in
theorem EE_r0_9 {L : Nat} : (EE L).2.2 0 9 = some 61 := rfl
set_option maxRecDepth 100000 in
theorem EE_r0_10 {L : Nat} : (EE L).2.2 0 10 = some 63 := rfl
set_option maxRecDepth 100000 in
theorem EE_s1 {L : Nat} : (EE L).2.1 1 = (0, 64) := rfl
set_option maxRecDepth 100000 in
theorem EE_s2 {L : Nat} : (EE L).2.1 2 = (6, 0) := rfl
set_option maxRecDepth 100000 in
theorem EE_r2_0 {L : Nat} : (EE L).2.2 2 0 = some 3 := rfl
set_option maxRecDepth 100000 in
theorem EE_s3 {L : Nat} : (EE L).2.1 3 = (4, 0) := rfl
set_option maxRecDepth 100000 in
theorem EE_r3_0 {L : Nat} : (EE L).2.2 3 0 = some 4 := rfl
set_option maxRecDepth 100000 in
theorem EE_r3_1 {L : Nat} : (EE L).2.2 3 1 = some 5 := rfl
set_option maxRecDepth 100000 in
theorem EE_s4 {L : Nat} : (EE L).2.1 4 = (0, 8) := rfl
set_option maxRecDepth 100000 in
theorem EE_s5 {L : Nat} : (EE L).2.1 5 = (0, 56) := rfl
set_option maxRecDepth 100000 in
theorem EE_s6 {L : Nat} : (EE L).2.1 6 = (4, 0) := rfl
set_option maxRecDepth 100000 in
theorem EE_r6_0 {L : Nat} : (EE L).2.2 6 0 = some 7 := rfl
set_option maxRecDepth 100000 in
theorem EE_r6_1 {L : Nat} : (EE L).2.2 6 1 = some 8 := rfl
set_option maxRecDepth 100000 in
theorem EE_s7 {L : Nat} : (EE L).2.1 7 = (0, 8) := rfl
set_option maxRecDepth 100000 in
theorem EE_s8 {L : Nat} : (EE L).2.1 8 = (0, 56) := rfl
set_option maxRecDepth 100000 in
theorem EE_s9 {L : Nat} : (EE L).2.1 9 = (7, 0) := rfl
set_option maxRecDepth 100000 in
theorem EE_r9_0 {L : Nat} : (EE L).2.2 9 0 = some 6 := rfl
set_option maxRecDepth 100000 in
theorem EE_r9_2 {L : Nat} : (EE L).2.2 9 2 = some 10 := rfl
set_option maxRecDepth 100000 in
theorem EE_r9_3 {L : Nat} : (EE L).2.2 9 3 = some 11 := rfl
set_option maxRecDepth 100000 in
theorem EE_r9_4 {L : Nat} : (EE L).2.2 9 4 = some 12 := rfl
set_option maxRecDepth 100000 in
theorem EE_r9_5 {L : Nat} : (EE L).2.2 9 5 = some 13 := rfl
set_option maxRecDepth 100000 in
theorem EE_r9_6 {L : Nat} : (EE L).2.2 9 6 = some 14 := rfl
set_option maxRecDepth 100000 in
theorem EE_r9_7 {L : Nat} : (EE L).2.2 9 7 = some 15 := rfl
set_option maxRecDepth 100000 in
theorem EE_r9_8 {L : Nat} : (EE L).2.2 9 8 = some 16 := rfl
set_option maxRecDepth 100000 in
theorem EE_r9_10 {L : Nat} : (EE L).2.2 9 10 = some 17 := rfl
set_option maxRecDepth 100000 in
theorem EE_r9_11 {L : Nat} : (EE L).2.2 9 11 = some 18 := rfl
set_option maxRecDepth 100000 in
theorem EE_r9_12 {L : Nat} : (EE L).2.2 9 12 = some 19 := rfl
set_option maxRecDepth 100000 in
theorem EE_r9_13 {L : Nat} : (EE L).2.2 9 13 = some 20 := rfl
set_option maxRecDepth 100000 in
theorem EE_s10 {L : Nat} : (EE L).2.1 10 = (0, 24) := rfl
set_option maxRecDepth 100000 in
theorem EE_s11 {L : Nat} : (EE L).2.1 11 = (0, 24) := rfl
set_option maxRecDepth 100000 in
theorem EE_s12 {L : Nat} : (EE L).2.1 12 = (0, 24) := rfl
set_option maxRecDepth 100000 in
theorem EE_s13 {L : Nat} : (EE L).2.1 13 = (0, 24) := rfl
set_option maxRecDepth 100000 in
theorem EE_s14 {L : Nat} : (EE L).2.1 14 = (1, 24) := rfl
set_option maxRecDepth 100000 in
theorem EE_s15 {L : Nat} : (EE L).2.1 15 = (0, 24) := rfl
set_option maxRecDepth 100000 in
theorem EE_s16 {L : Nat} : (EE L).2.1 16 = (0, 24) := rfl
set_option maxRecDepth 100000 in
theorem EE_s17 {L : Nat} : (EE L).2.1 17 = (0, 6) := rfl
set_option maxRecDepth 100000 in
theorem EE_s18 {L : Nat} : (EE L).2.1 18 = (0, 6) := rfl
set_option maxRecDepth 100000 in
theorem EE_s19 {L : Nat} : (EE L).2.1 19 = (1, 6) := rfl
set_option maxRecDepth 100000 in
theorem EE_s20 {L : Nat} : (EE L).2.1 20 = (0, 56) := rfl
set_option maxRecDepth 100000 in
theorem EE_s21 {L : Nat} : (EE L).2.1 21 = (7, 0) := rfl
set_option maxRecDepth 100000 in
theorem EE_r21_0 {L : Nat} : (EE L).2.2 21 0 = some 6 := rfl
set_option maxRecDepth 100000 in
theorem EE_r21_2 {L : Nat} : (EE L).2.2 21 2 = some 22 := rfl
set_option maxRecDepth 100000 in
theorem EE_r21_3 {L : Nat} : (EE L).2.2 21 3 = some 23 := rfl
set_option maxRecDepth 100000 in
theorem EE_r21_4 {L : Nat} : (EE L).2.2 21 4 = some 24 := rfl
set_option maxRecDepth 100000 in
theorem EE_r21_5 {L : Nat} : (EE L).2.2 21 5 = some 25 := rfl
set_option maxRecDepth 100000 in
theorem EE_r21_6 {L : Nat} : (EE L).2.2 21 6 = some 26 := rfl
set_option maxRecDepth 100000 in
theorem EE_r21_7 {L : Nat} : (EE L).2.2 21 7 = some 27 := rfl
set_option maxRecDepth 100000 in
theorem EE_r21_8 {L : Nat} : (EE L).2.2 21 8 = some 28 := rfl
set_option maxRecDepth 100000 in
theorem EE_r21_10 {L : Nat} : (EE L).2.2 21 10 = some 29 := rfl
set_option maxRecDepth 100000 in
theorem EE_r21_11 {L : Nat} : (EE L).2.2 21 11 = some 30 := rfl
set_option maxRecDepth 100000 in
theorem EE_r21_12 {L : Nat} : (EE L).2.2 21 12 = some 31 := rfl
set_option maxRecDepth 100000 in
theorem EE_r21_13 {L : Nat} : (EE L).2.2 21 13 = some 32 := rfl
set_option maxRecDepth 100000 in
theorem EE_s22 {L : Nat} : (EE L).2.1 22 = (0, 24) := rfl
set_option maxRecDepth 100000 in
theorem EE_s23 {L : Nat} : (EE L).2.1 23 = (0, 24) := rfl
set_option maxRecDepth 100000 in
theorem EE_s24 {L : Nat} : (EE L).2.1 24 = (0, 24) := rfl
set_option maxRecDepth 100000 in
theorem EE_s25 {L : Nat} : (EE L).2.1 25 = (0, 24) := rfl
set_option maxRecDepth 100000 in
theorem EE_s26 {L : Nat} : (EE L).2.1 26 = (1, 24) := rfl
set_option maxRecDepth 100000 in
theorem EE_s27 {L : Nat} : (EE L).2.1 27 = (0, 24) := rfl
set_option maxRecDepth 100000 in
theorem EE_s28 {L : Nat} : (EE L).2.1 28 = (0, 24) := rfl
set_option maxRecDepth 100000 in
theorem EE_s29 {L : Nat} : (EE L).2.1 29 = (0, 6) := rfl
set_option maxRecDepth 100000 in
theorem EE_s30 {L : Nat} : (EE L).2.1 30 = (0, 6) := rfl
set_option maxRecDepth 100000 in
theorem EE_s31 {L : Nat} : (EE L).2.1 31 = (1, 6) := rfl
set_option maxRecDepth 100000 in
theorem EE_s32 {L : Nat} : (EE L).2.1 32 = (0, 56) := rfl
set_option maxRecDepth 100000 in
theorem EE_s33 {L : Nat} : (EE L).2.1 33 = (2, 2) := rfl
set_option maxRecDepth 100000 in
theorem EE_r33_0 {L : Nat} : (EE L).2.2 33 0 = some 34 := rfl
set_option maxRecDepth 100000 in
theorem EE_r33_1 {L : Nat} : (EE L).2.2 33 1 = some 46 := rfl
set_option maxRecDepth 100000 in
theorem EE_s34 {L : Nat} : (EE L).2.1 34 = (7, 0) := rfl
set_option maxRecDepth 100000 in
theorem EE_r34_0 {L : Nat} : (EE L).2.2 34 0 = some 6 := rfl
set_option maxRecDepth 100000 in
theorem EE_r34_2 {L : Nat} : (EE L).2.2 34 2 = some 35 := rfl
set_option maxRecDepth 100000 in
theorem EE_r34_3 {L : Nat} : (EE L).2.2 34 3 = some 36 := rfl
set_option maxRecDepth 100000 in
theorem EE_r34_4 {L : Nat} : (EE L).2.2 34 4 = some 37 := rfl
set_option maxRecDepth 100000 in
theorem EE_r34_5 {L : Nat} : (EE L).2.2 34 5 = some 38 := rfl
set_option maxRecDepth 100000 in
theorem EE_r34_6 {L : Nat} : (EE L).2.2 34 6 = some 39 := rfl
set_option maxRecDepth 100000 in
theorem EE_r34_7 {L : Nat} : (EE L).2.2 34 7 = some 40 := rfl
set_option maxRecDepth 100000 in
theorem EE_r34_8 {L : Nat} : (EE L).2.2 34 8 = some 41 := rfl
set_option maxRecDepth 100000 in
theorem EE_r34_10 {L : Nat} : (EE L).2.2 34 10 = some 42 := rfl
set_option maxRecDepth 100000 in
theorem EE_r34_11 {L : Nat} : (EE L).2.2 34 11 = some 43 := rfl
set_option maxRecDepth 100000 in
theorem EE_r34_12 {L : Nat} : (EE L).2.2 34 12 = some 44 := rfl
set_option maxRecDepth 100000 in
theorem EE_r34_13 {L : Nat} : (EE L).2.2 34 13 = some 45 := rfl
set_option maxRecDepth 100000 in
theorem EE_s35 {L : Nat} : (EE L).2.1 35 = (0, 24) := rfl
set_option maxRecDepth 100000 in
theorem EE_s36 {L : Nat} : (EE L).2.1 36 = (0, 24) := rfl
set_option maxRecDepth 100000 in
theorem EE_s37 {L : Nat} : (EE L).2.1 37 = (0, 24) := rfl
set_option maxRecDepth 100000 in
theorem EE_s38 {L : Nat} : (EE L).2.1 38 = (0, 24) := rfl
set_option maxRecDepth 100000 in
theorem EE_s39 {L : Nat} : (EE L).2.1 39 = (1, 24) := rfl
set_option maxRecDepth 100000 in
theorem EE_s40 {L : Nat} : (EE L).2.1 40 = (0, 24) := rfl
set_option maxRecDepth 100000 in
theorem EE_s41 {L : Nat} : (EE L).2.1 41 = (0, 24) := rfl
set_option maxRecDepth 100000 in
theorem EE_s42 {L : Nat} : (EE L).2.1 42 = (0, 6) := rfl
set_option maxRecDepth 100000 in
theorem EE_s43 {L : Nat} : (EE L).2.1 43 = (0, 6) := rfl
set_option maxRecDepth 100000 in
theorem EE_s44 {L : Nat} : (EE L).2.1 44 = (1, 6) := rfl
set_option maxRecDepth 100000 in
theorem EE_s45 {L : Nat} : (EE L).2.1 45 = (0, 56) := rfl
set_option maxRecDepth 100000 in
theorem EE_s46 {L : Nat} : (EE L).2.1 46 = (7, 0) := rfl
set_option maxRecDepth 100000 in
theorem EE_r46_0 {L : Nat} : (EE L).2.2 46 0 = some 6 := rfl
set_option maxRecDepth 100000 in
theorem EE_r46_2 {L : Nat} : (EE L).2.2 46 2 = some 47 := rfl
set_option maxRecDepth 100000 in
theorem EE_r46_3 {L : Nat} : (EE L).2.2 46 3 = some 48 := rfl
set_option maxRecDepth 100000 in
theorem EE_r46_4 {L : Nat} : (EE L).2.2 46 4 = some 49 := rfl
set_option maxRecDepth 100000 in
theorem EE_r46_5 {L : Nat} : (EE L).2.2 46 5 = some 50 := rfl
set_option maxRecDepth 100000 in
theorem EE_r46_6 {L : Nat} : (EE L).2.2 46 6 = some 51 := rfl
set_option maxRecDepth 100000 in
theorem EE_r46_7 {L : Nat} : (EE L).2.2 46 7 = some 52 := rfl
set_option maxRecDepth 100000 in
theorem EE_r46_8 {L : Nat} : (EE L).2.2 46 8 = some 53 := rfl
set_option maxRecDepth 100000 in
theorem EE_r46_10 {L : Nat} : (EE L).2.2 46 10 = some 54 := rfl
set_option maxRecDepth 100000 in
theorem EE_r46_11 {L : Nat} : (EE L).2.2 46 11 = some 55 := rfl
set_option maxRecDepth 100000 in
theorem EE_r46_12 {L : Nat} : (EE L).2.2 46 12 = some 56 := rfl
set_option maxRecDepth 100000 in
theorem EE_r46_13 {L : Nat} : (EE L).2.2 46 13 = some 57 := rfl
set_option maxRecDepth 100000 in
theorem EE_s47 {L : Nat} : (EE L).2.1 47 = (0, 24) := rfl
set_option maxRecDepth 100000 in
theorem EE_s48 {L : Nat} : (EE L).2.1 48 = (0, 24) := rfl
set_option maxRecDepth 100000 in
theorem EE_s49 {L : Nat} : (EE L).2.1 49 = (0, 24) := rfl
set_option maxRecDepth 100000 in
theorem EE_s50 {L : Nat} : (EE L).2.1 50 = (0, 24) := rfl
set_option maxRecDepth 100000 in
theorem EE_s51 {L : Nat} : (EE L).2.1 51 = (1, 24) := rfl
set_option maxRecDepth 100000 in
theorem EE_s52 {L : Nat} : (EE L).2.1 52 = (0, 24) := rfl
set_option maxRecDepth 100000 in
theorem EE_s53 {L : Nat} : (EE L).2.1 53 = (0, 24) := rfl
set_option maxRecDepth 100000 in
theorem EE_s54 {L : Nat} : (EE L).2.1 54 = (0, 6) := rfl
set_option maxRecDepth 100000 in
theorem EE_s55 {L : Nat} : (EE L).2.1 55 = (0, 6) := rfl
set_option maxRecDepth 100000 in
theorem EE_s56 {L : Nat} : (EE L).2.1 56 = (1, 6) := rfl
set_option maxRecDepth 100000 in
theorem EE_s57 {L : Nat} : (EE L).2.1 57 = (0, 56) := rfl
set_option maxRecDepth 100000 in
theorem EE_s58 {L : Nat} : (EE L).2.1 58 = (1, 2) := rfl
set_option maxRecDepth 100000 in
theorem EE_s59 {L : Nat} : (EE L).2.1 59 = (8, 0) := rfl
set_option maxRecDepth 100000 in
theorem EE_r59_0 {L : Nat} : (EE L).2.2 59 0 = some 60 := rfl
set_option maxRecDepth 100000 in
theorem EE_s60 {L : Nat} : (EE L).2.1 60 = (0, 8) := rfl
set_option maxRecDepth 100000 in
theorem EE_s61 {L : Nat} : (EE L).2.1 61 = (5, 0) := rfl
set_option maxRecDepth 100000 in
theorem EE_r61_0 {L : Nat} : (EE L).2.2 61 0 = some 62 := rfl
set_option maxRecDepth 100000 in
theorem EE_s62 {L : Nat} : (EE L).2.1 62 = (0, 60) := rfl
set_option maxRecDepth 100000 in
theorem EE_s63 {L : Nat} : (EE L).2.1 63 = (3, 0) := rfl
set_option maxRecDepth 100000 in
theorem EE_r63_0 {L : Nat} : (EE L).2.2 63 0 = some 6 := rfl
set_option maxRecDepth 100000 in
theorem EE_r63_2 {L : Nat} : (EE L).2.2 63 2 = some 64 := rfl
set_option maxRecDepth 100000 in
theorem EE_r63_3 {L : Nat} : (EE L).2.2 63 3 = some 65 := rfl
set_option maxRecDepth 100000 in
theorem EE_r63_4 {L : Nat} : (EE L).2.2 63 4 = some 66 := rfl
set_option maxRecDepth 100000 in
theorem EE_r63_5 {L : Nat} : (EE L).2.2 63 5 = some 67 := rfl
set_option maxRecDepth 100000 in
theorem EE_r63_6 {L : Nat} : (EE L).2.2 63 6 = some 68 := rfl
set_option maxRecDepth 100000 in
theorem EE_s64 {L : Nat} : (EE L).2.1 64 = (0, 16) := rfl
set_option maxRecDepth 100000 in
theorem EE_s65 {L : Nat} : (EE L).2.1 65 = (0, 16) := rfl
set_option maxRecDepth 100000 in
theorem EE_s66 {L : Nat} : (EE L).2.1 66 = (0, 16) := rfl
set_option maxRecDepth 100000 in
theorem EE_s67 {L : Nat} : (EE L).2.1 67 = (0, 16) := rfl
set_option maxRecDepth 100000 in
theorem EE_s68 {L : Nat} : (EE L).2.1 68 = (0, 16) := rfl
set_option maxRecDepth 100000 in
theorem EE_s69 {L : Nat} : (EE L).2.1 69 = (10, 0) := rfl
set_option maxRecDepth 100000 in
theorem EE_r69_0 {L : Nat} : (EE L).2.2 69 0 = some 70 := rfl
set_option maxRecDepth 100000 in
theorem EE_r69_1 {L : Nat} : (EE L).2.2 69 1 = some 71 := rfl
set_option maxRecDepth 100000 in
theorem EE_r69_2 {L : Nat} : (EE L).2.2 69 2 = some 72 := rfl
set_option maxRecDepth 100000 in
theorem EE_r69_3 {L : Nat} : (EE L).2.2 69 3 = some 73 := rfl
set_option maxRecDepth 100000 in
theorem EE_r69_9 {L : Nat} : (EE L).2.2 69 9 = some 74 := rfl
set_option maxRecDepth 100000 in
theorem EE_r69_11 {L : Nat} : (EE L).2.2 69 11 = some 75 := rfl
set_option maxRecDepth 100000 in
theorem EE_r69_13 {L : Nat} : (EE L).2.2 69 13 = some 76 := rfl
set_option maxRecDepth 100000 in
theorem EE_r69_14 {L : Nat} : (EE L).2.2 69 14 = some 77 := rfl
set_option maxRecDepth 100000 in
theorem EE_r69_15 {L : Nat} : (EE L).2.2 69 15 = some 78 := rfl
set_option maxRecDepth 100000 in
theorem EE_r69_16 {L : Nat} : (EE L).2.2 69 16 = some 79 := rfl
set_option maxRecDepth 100000 in
theorem EE_r69_17 {L : Nat} : (EE L).2.2 69 17 = some 80 := rfl
set_option maxRecDepth 100000 in
theorem EE_r69_20 {L : Nat} : (EE L).2.2 69 20 = some 81 := rfl
set_option maxRecDepth 100000 in
theorem EE_r69_21 {L : Nat} : (EE L).2.2 69 21 = some 82 := rfl
set_option maxRecDepth 100000 in
theorem EE_r69_23 {L : Nat} : (EE L).2.2 69 23 = some 83 := rfl
set_option maxRecDepth 100000 in
theorem EE_r69_24 {L : Nat} : (EE L).2.2 69 24 = some 84 := rfl
set_option maxRecDepth 100000 in
theorem EE_r69_25 {L : Nat} : (EE L).2.2 69 25 = some 85 := rfl
set_option maxRecDepth 100000 in
theorem EE_r69_26 {L : Nat} : (EE L).2.2 69 26 = some 86 := rfl
set_option maxRecDepth 100000 in
theorem EE_r69_27 {L : Nat} : (EE L).2.2 69 27 = some 87 := rfl
set_option maxRecDepth 100000 in
theorem EE_s70 {L : Nat} : (EE L).2.1 70 = (0, 44) := rfl
set_option maxRecDepth 100000 in
theorem EE_s71 {L : Nat} : (EE L).2.1 71 = (0, 44) := rfl
set_option maxRecDepth 100000 in
theorem EE_s72 {L : Nat} : (EE L).2.1 72 = (1, 44) := rfl
set_option maxRecDepth 100000 in
theorem EE_s73 {L : Nat} : (EE L).2.1 73 = (0, 64) := rfl
set_option maxRecDepth 100000 in
theorem EE_s74 {L : Nat} : (EE L).2.1 74 = (0, 192) := rfl
set_option maxRecDepth 100000 in
theorem EE_s75 {L : Nat} : (EE L).2.1 75 = (0, 24) := rfl
set_option maxRecDepth 100000 in
theorem EE_s76 {L : Nat} : (EE L).2.1 76 = (0, 6) := rfl
set_option maxRecDepth 100000 in
theorem EE_s77 {L : Nat} : (EE L).2.1 77 = (1, 3) := rfl
set_option maxRecDepth 100000 in
theorem EE_s78 {L : Nat} : (EE L).2.1 78 = (0, 576) := rfl
set_option maxRecDepth 100000 in
theorem EE_s79 {L : Nat} : (EE L).2.1 79 = (0, 72) := rfl
set_option maxRecDepth 100000 in
theorem EE_s80 {L : Nat} : (EE L).2.1 80 = (0, 9) := rfl
set_option maxRecDepth 100000 in
theorem EE_s81 {L : Nat} : (EE L).2.1 81 = (0, 8) := rfl
set_option maxRecDepth 100000 in
theorem EE_s82 {L : Nat} : (EE L).2.1 82 = (0, 60) := rfl
set_option maxRecDepth 100000 in
theorem EE_s83 {L : Nat} : (EE L).2.1 83 = (0, 16) := rfl
set_option maxRecDepth 100000 in
theorem EE_s84 {L : Nat} : (EE L).2.1 84 = (0, 16) := rfl
set_option maxRecDepth 100000 in
theorem EE_s85 {L : Nat} : (EE L).2.1 85 = (0, 16) := rfl
set_option maxRecDepth 100000 in
theorem EE_s86 {L : Nat} : (EE L).2.1 86 = (0, 16) := rfl
set_option maxRecDepth 100000 in
theorem EE_s87 {L : Nat} : (EE L).2.1 87 = (0, 16) := rfl
set_option maxRecDepth 100000 in
theorem EE_s1000 {L : Nat} : (EE L).2.1 1000 = (5, L) := rfl
set_option maxRecDepth 100000 in
theorem EE_s1001 {L : Nat} : (EE L).2.1 1001 = (5, 8) := rfl
set_option maxRecDepth 100000 in
theorem EE_s1002 {L : Nat} : (EE L).2.1 1002 = (5, 10) := rfl

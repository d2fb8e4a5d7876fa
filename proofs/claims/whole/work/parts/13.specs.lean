def x_spMl : List x_K := [.inr (12, [(1, 1), (1, 2), (0, 0), (1, 3), (0, 0), (0, 0), (0, 0), (0, 0), (0, 0), (0, 0), (0, 0), (0, 0), (0, 0), (0, 0), (1, 4), (1, 5), (0, 0), (0, 0), (0, 0), (1, 6), (1, 7), (1, 8), (1, 9), (1, 10), (0, 0), (1, 11), (1, 12), (1, 13), (1, 14), (1, 15), (1, 16), (1, 17), (1, 18), (1, 19), (1, 20), (0, 0), (1, 21), (1, 22), (1, 23)]), .inl (0, 5512), .inl (0, 5512), .inl (0, 132), .inl (0, 1060), .inl (0, 140), .inl (0, 140), .inl (0, 128), .inl (0, 100), .inl (0, 100), .inl (0, 100), .inl (0, 40), .inl (0, 4), .inl (0, 4), .inl (0, 100), .inl (0, 100), .inl (3, 100), .inl (0, 10), .inl (0, 27009), .inl (0, 8), .inl (0, 16), .inl (0, 32), .inl (0, 2), .inl (0, 16)]
def x_spM (k : Nat) : x_K := x_spMl.getD k (.inl (0, 0))
theorem sM_0 : x_spM 0 = .inr (12, [(1, 1), (1, 2), (0, 0), (1, 3), (0, 0), (0, 0), (0, 0), (0, 0), (0, 0), (0, 0), (0, 0), (0, 0), (0, 0), (0, 0), (1, 4), (1, 5), (0, 0), (0, 0), (0, 0), (1, 6), (1, 7), (1, 8), (1, 9), (1, 10), (0, 0), (1, 11), (1, 12), (1, 13), (1, 14), (1, 15), (1, 16), (1, 17), (1, 18), (1, 19), (1, 20), (0, 0), (1, 21), (1, 22), (1, 23)]) := rfl
theorem sM_1 : x_spM 1 = .inl (0, 5512) := rfl
theorem sM_2 : x_spM 2 = .inl (0, 5512) := rfl
theorem sM_3 : x_spM 3 = .inl (0, 132) := rfl
theorem sM_4 : x_spM 4 = .inl (0, 1060) := rfl
theorem sM_5 : x_spM 5 = .inl (0, 140) := rfl
theorem sM_6 : x_spM 6 = .inl (0, 140) := rfl
theorem sM_7 : x_spM 7 = .inl (0, 128) := rfl
theorem sM_8 : x_spM 8 = .inl (0, 100) := rfl
theorem sM_9 : x_spM 9 = .inl (0, 100) := rfl
theorem sM_10 : x_spM 10 = .inl (0, 100) := rfl
theorem sM_11 : x_spM 11 = .inl (0, 40) := rfl
theorem sM_12 : x_spM 12 = .inl (0, 4) := rfl
theorem sM_13 : x_spM 13 = .inl (0, 4) := rfl
theorem sM_14 : x_spM 14 = .inl (0, 100) := rfl
theorem sM_15 : x_spM 15 = .inl (0, 100) := rfl
theorem sM_16 : x_spM 16 = .inl (3, 100) := rfl
theorem sM_17 : x_spM 17 = .inl (0, 10) := rfl
theorem sM_18 : x_spM 18 = .inl (0, 27009) := rfl
theorem sM_19 : x_spM 19 = .inl (0, 8) := rfl
theorem sM_20 : x_spM 20 = .inl (0, 16) := rfl
theorem sM_21 : x_spM 21 = .inl (0, 32) := rfl
theorem sM_22 : x_spM 22 = .inl (0, 2) := rfl
theorem sM_23 : x_spM 23 = .inl (0, 16) := rfl
def x_spXl : List x_K := [.inr (11, [(1, 1), (1, 34), (1, 67), (1, 78), (1, 80), (1, 84), (1, 85), (1, 86), (1, 87), (0, 0), (0, 0)]), .inr (0, [(1, 2), (1, 6), (1, 16), (1, 18), (1, 27), (1, 31), (1, 32), (1, 33), (0, 0)]), .inr (4, [(1, 3), (1, 4), (1, 5), (0, 0)]), .inl (0, 10), .inl (0, 10), .inl (0, 10), .inr (3, [(1, 7), (1, 8), (1, 9), (1, 10), (1, 11), (1, 12), (1, 13), (1, 14), (1, 15), (0, 0)]), .inl (0, 100), .inl (0, 100), .inl (0, 100), .inl (0, 100), .inl (0, 100), .inl (0, 100), .inl (0, 100), .inl (0, 100), .inl (0, 100), .inr (9, [(1, 17), (1, 88), (0, 0)]), .inl (4, 4), .inr (6, [(1, 19), (1, 20), (1, 21), (1, 22), (1, 23), (1, 24), (1, 25), (1, 26), (0, 0), (0, 0)]), .inl (0, 8), .inl (0, 8), .inl (0, 8), .inl (0, 8), .inl (0, 30), .inl (0, 30), .inl (0, 30), .inl (0, 30), .inr (5, [(1, 28), (1, 29), (1, 30), (0, 0)]), .inl (0, 8), .inl (0, 8), .inl (0, 8), .inl (0, 3), .inl (0, 4), .inl (0, 4), .inr (0, [(1, 35), (1, 39), (1, 49), (1, 51), (1, 60), (1, 64), (1, 65), (1, 66), (0, 0)]), .inr (4, [(1, 36), (1, 37), (1, 38), (0, 0)]), .inl (0, 10), .inl (0, 10), .inl (0, 10), .inr (3, [(1, 40), (1, 41), (1, 42), (1, 43), (1, 44), (1, 45), (1, 46), (1, 47), (1, 48), (0, 0)]), .inl (0, 100), .inl (0, 100), .inl (0, 100), .inl (0, 100), .inl (0, 100), .inl (0, 100), .inl (0, 100), .inl (0, 100), .inl (0, 100), .inr (9, [(1, 50), (1, 91), (0, 0)]), .inl (4, 4), .inr (6, [(1, 52), (1, 53), (1, 54), (1, 55), (1, 56), (1, 57), (1, 58), (1, 59), (0, 0), (0, 0)]), .inl (0, 8), .inl (0, 8), .inl (0, 8), .inl (0, 8), .inl (0, 30), .inl (0, 30), .inl (0, 30), .inl (0, 30), .inr (5, [(1, 61), (1, 62), (1, 63), (0, 0)]), .inl (0, 8), .inl (0, 8), .inl (0, 8), .inl (0, 3), .inl (0, 4), .inl (0, 4), .inr (2, [(1, 68), (1, 70), (1, 71), (1, 72), (1, 73), (1, 74), (1, 75), (1, 76), (1, 77), (0, 0)]), .inr (1, [(1, 69), (0, 0), (0, 0), (0, 0), (0, 0), (0, 0), (0, 0), (0, 0), (0, 0), (0, 0), (0, 0)]), .inl (0, 132), .inl (0, 100), .inl (0, 100), .inl (0, 100), .inl (0, 40), .inl (0, 4), .inl (0, 4), .inl (0, 100), .inl (0, 100), .inr (10, [(1, 79), (0, 0)]), .inl (6, 3001), .inr (7, [(1, 81), (1, 82), (1, 83), (0, 0), (0, 0), (0, 0), (0, 0), (0, 0), (0, 0), (0, 0), (0, 0), (0, 0), (0, 0), (2, 0)]), .inl (2, 132), .inl (0, 132), .inl (0, 4), .inl (0, 16), .inl (0, 30), .inl (1, 32), .inl (0, 2)]
/-- behind the fixed cells: TERMS, three cells each: the object, its code, its ends -/
def x_spX (k : Nat) : x_K := if k < 88 then x_spXl.getD k (.inl (0, 0)) else if (k - 88) % 3 = 0 then .inr (8, [(0, 0), (1, k + 1), (1, k + 2)]) else if (k - 88) % 3 = 1 then .inl (5, 0) else .inl (0, 4)
theorem sX_0 : x_spX 0 = .inr (11, [(1, 1), (1, 34), (1, 67), (1, 78), (1, 80), (1, 84), (1, 85), (1, 86), (1, 87), (0, 0), (0, 0)]) := rfl
theorem sX_1 : x_spX 1 = .inr (0, [(1, 2), (1, 6), (1, 16), (1, 18), (1, 27), (1, 31), (1, 32), (1, 33), (0, 0)]) := rfl
theorem sX_2 : x_spX 2 = .inr (4, [(1, 3), (1, 4), (1, 5), (0, 0)]) := rfl
theorem sX_3 : x_spX 3 = .inl (0, 10) := rfl
theorem sX_4 : x_spX 4 = .inl (0, 10) := rfl
theorem sX_5 : x_spX 5 = .inl (0, 10) := rfl
theorem sX_6 : x_spX 6 = .inr (3, [(1, 7), (1, 8), (1, 9), (1, 10), (1, 11), (1, 12), (1, 13), (1, 14), (1, 15), (0, 0)]) := rfl
theorem sX_7 : x_spX 7 = .inl (0, 100) := rfl
theorem sX_8 : x_spX 8 = .inl (0, 100) := rfl
theorem sX_9 : x_spX 9 = .inl (0, 100) := rfl
theorem sX_10 : x_spX 10 = .inl (0, 100) := rfl
theorem sX_11 : x_spX 11 = .inl (0, 100) := rfl
theorem sX_12 : x_spX 12 = .inl (0, 100) := rfl
theorem sX_13 : x_spX 13 = .inl (0, 100) := rfl
theorem sX_14 : x_spX 14 = .inl (0, 100) := rfl
theorem sX_15 : x_spX 15 = .inl (0, 100) := rfl
theorem sX_16 : x_spX 16 = .inr (9, [(1, 17), (1, 88), (0, 0)]) := rfl
theorem sX_17 : x_spX 17 = .inl (4, 4) := rfl
theorem sX_18 : x_spX 18 = .inr (6, [(1, 19), (1, 20), (1, 21), (1, 22), (1, 23), (1, 24), (1, 25), (1, 26), (0, 0), (0, 0)]) := rfl
theorem sX_19 : x_spX 19 = .inl (0, 8) := rfl
theorem sX_20 : x_spX 20 = .inl (0, 8) := rfl
theorem sX_21 : x_spX 21 = .inl (0, 8) := rfl
theorem sX_22 : x_spX 22 = .inl (0, 8) := rfl
theorem sX_23 : x_spX 23 = .inl (0, 30) := rfl
theorem sX_24 : x_spX 24 = .inl (0, 30) := rfl
theorem sX_25 : x_spX 25 = .inl (0, 30) := rfl
theorem sX_26 : x_spX 26 = .inl (0, 30) := rfl
theorem sX_27 : x_spX 27 = .inr (5, [(1, 28), (1, 29), (1, 30), (0, 0)]) := rfl
theorem sX_28 : x_spX 28 = .inl (0, 8) := rfl
theorem sX_29 : x_spX 29 = .inl (0, 8) := rfl
theorem sX_30 : x_spX 30 = .inl (0, 8) := rfl
theorem sX_31 : x_spX 31 = .inl (0, 3) := rfl
theorem sX_32 : x_spX 32 = .inl (0, 4) := rfl
theorem sX_33 : x_spX 33 = .inl (0, 4) := rfl
theorem sX_34 : x_spX 34 = .inr (0, [(1, 35), (1, 39), (1, 49), (1, 51), (1, 60), (1, 64), (1, 65), (1, 66), (0, 0)]) := rfl
theorem sX_35 : x_spX 35 = .inr (4, [(1, 36), (1, 37), (1, 38), (0, 0)]) := rfl
theorem sX_36 : x_spX 36 = .inl (0, 10) := rfl
theorem sX_37 : x_spX 37 = .inl (0, 10) := rfl
theorem sX_38 : x_spX 38 = .inl (0, 10) := rfl
theorem sX_39 : x_spX 39 = .inr (3, [(1, 40), (1, 41), (1, 42), (1, 43), (1, 44), (1, 45), (1, 46), (1, 47), (1, 48), (0, 0)]) := rfl
theorem sX_40 : x_spX 40 = .inl (0, 100) := rfl
theorem sX_41 : x_spX 41 = .inl (0, 100) := rfl
theorem sX_42 : x_spX 42 = .inl (0, 100) := rfl
theorem sX_43 : x_spX 43 = .inl (0, 100) := rfl
theorem sX_44 : x_spX 44 = .inl (0, 100) := rfl
theorem sX_45 : x_spX 45 = .inl (0, 100) := rfl
theorem sX_46 : x_spX 46 = .inl (0, 100) := rfl
theorem sX_47 : x_spX 47 = .inl (0, 100) := rfl
theorem sX_48 : x_spX 48 = .inl (0, 100) := rfl
theorem sX_49 : x_spX 49 = .inr (9, [(1, 50), (1, 91), (0, 0)]) := rfl
theorem sX_50 : x_spX 50 = .inl (4, 4) := rfl
theorem sX_51 : x_spX 51 = .inr (6, [(1, 52), (1, 53), (1, 54), (1, 55), (1, 56), (1, 57), (1, 58), (1, 59), (0, 0), (0, 0)]) := rfl
theorem sX_52 : x_spX 52 = .inl (0, 8) := rfl
theorem sX_53 : x_spX 53 = .inl (0, 8) := rfl
theorem sX_54 : x_spX 54 = .inl (0, 8) := rfl
theorem sX_55 : x_spX 55 = .inl (0, 8) := rfl
theorem sX_56 : x_spX 56 = .inl (0, 30) := rfl
theorem sX_57 : x_spX 57 = .inl (0, 30) := rfl
theorem sX_58 : x_spX 58 = .inl (0, 30) := rfl
theorem sX_59 : x_spX 59 = .inl (0, 30) := rfl
theorem sX_60 : x_spX 60 = .inr (5, [(1, 61), (1, 62), (1, 63), (0, 0)]) := rfl
theorem sX_61 : x_spX 61 = .inl (0, 8) := rfl
theorem sX_62 : x_spX 62 = .inl (0, 8) := rfl
theorem sX_63 : x_spX 63 = .inl (0, 8) := rfl
theorem sX_64 : x_spX 64 = .inl (0, 3) := rfl
theorem sX_65 : x_spX 65 = .inl (0, 4) := rfl
theorem sX_66 : x_spX 66 = .inl (0, 4) := rfl
theorem sX_67 : x_spX 67 = .inr (2, [(1, 68), (1, 70), (1, 71), (1, 72), (1, 73), (1, 74), (1, 75), (1, 76), (1, 77), (0, 0)]) := rfl
theorem sX_68 : x_spX 68 = .inr (1, [(1, 69), (0, 0), (0, 0), (0, 0), (0, 0), (0, 0), (0, 0), (0, 0), (0, 0), (0, 0), (0, 0)]) := rfl
theorem sX_69 : x_spX 69 = .inl (0, 132) := rfl
theorem sX_70 : x_spX 70 = .inl (0, 100) := rfl
theorem sX_71 : x_spX 71 = .inl (0, 100) := rfl
theorem sX_72 : x_spX 72 = .inl (0, 100) := rfl
theorem sX_73 : x_spX 73 = .inl (0, 40) := rfl
theorem sX_74 : x_spX 74 = .inl (0, 4) := rfl
theorem sX_75 : x_spX 75 = .inl (0, 4) := rfl
theorem sX_76 : x_spX 76 = .inl (0, 100) := rfl
theorem sX_77 : x_spX 77 = .inl (0, 100) := rfl
theorem sX_78 : x_spX 78 = .inr (10, [(1, 79), (0, 0)]) := rfl
theorem sX_79 : x_spX 79 = .inl (6, 3001) := rfl
theorem sX_80 : x_spX 80 = .inr (7, [(1, 81), (1, 82), (1, 83), (0, 0), (0, 0), (0, 0), (0, 0), (0, 0), (0, 0), (0, 0), (0, 0), (0, 0), (0, 0), (2, 0)]) := rfl
theorem sX_81 : x_spX 81 = .inl (2, 132) := rfl
theorem sX_82 : x_spX 82 = .inl (0, 132) := rfl
theorem sX_83 : x_spX 83 = .inl (0, 4) := rfl
theorem sX_84 : x_spX 84 = .inl (0, 16) := rfl
theorem sX_85 : x_spX 85 = .inl (0, 30) := rfl
theorem sX_86 : x_spX 86 = .inl (1, 32) := rfl
theorem sX_87 : x_spX 87 = .inl (0, 2) := rfl

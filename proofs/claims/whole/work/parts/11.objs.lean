/-! THE STANDING OBJECTS, and the rows in the form in which the functions are written (by program) -/
def zK0 : List (Nat × Nat) := [(18, 19), (2, 500), (15, 5), (7, 12), (0, 12), (0, 12), (0, 48), (0, 8), (0, 30), (0, 30), (0, 30), (8, 2), (7, 12), (0, 12), (0, 12), (0, 48), (0, 8), (0, 30), (0, 30), (0, 30), (10, 2), (0, 500), (14, 7), (6, 15), (10, 2), (0, 500), (0, 1024), (10, 2), (0, 500), (10, 2), (0, 500), (10, 2), (0, 500), (10, 2), (0, 500), (10, 2), (0, 500), (10, 2), (0, 500), (10, 2), (0, 500), (10, 2), (0, 500), (10, 2), (0, 500), (10, 2), (0, 500), (10, 2), (0, 500), (10, 2), (0, 500), (10, 2), (0, 500), (10, 2), (0, 500), (10, 2), (0, 500), (16, 8), (0, 6), (0, 6), (0, 8), (0, 8), (0, 8), (16, 8), (0, 6), (0, 6), (0, 8), (0, 8), (0, 8), (16, 8), (0, 6), (0, 6), (0, 8), (0, 8), (0, 8), (16, 8), (0, 6), (0, 6), (0, 8), (0, 8), (0, 8), (17, 8), (0, 12), (0, 12), (0, 144), (13, 4), (17, 8), (0, 12), (0, 12), (0, 144), (11, 4), (0, 12), (9, 6), (1, 64), (1, 64), (1, 64), (0, 2176), (12, 3), (0, 800), (0, 800), (0, 8), (0, 34), (19, 57), (0, 500), (0, 12), (0, 12), (0, 12), (0, 12), (0, 8), (0, 8), (4, 8), (0, 6), (0, 6), (0, 6), (0, 6), (0, 6), (0, 6), (0, 6), (0, 6), (4, 8), (0, 6), (0, 6), (0, 6), (0, 6), (0, 6), (0, 6), (0, 6), (0, 6), (0, 500), (4, 30), (0, 501), (0, 501), (0, 501), (0, 501), (0, 501), (0, 501), (0, 501), (0, 501), (0, 501), (0, 501), (0, 501), (0, 501), (0, 501), (0, 501), (0, 501), (0, 501), (0, 501), (0, 501), (0, 501), (0, 501), (0, 501), (0, 501), (0, 501), (0, 501), (0, 501), (0, 501), (0, 501), (0, 501), (0, 501), (0, 501), (0, 30), (0, 501), (4, 6), (0, 2), (0, 2), (0, 2), (0, 2), (0, 2), (0, 2), (4, 8), (0, 3), (0, 3), (0, 3), (0, 3), (0, 3), (0, 3), (0, 3), (0, 3), (4, 3), (0, 64), (0, 64), (0, 64), (5, 12), (3, 12), (3, 12), (3, 12), (3, 12), (3, 12), (3, 12), (3, 12), (3, 12), (3, 12), (3, 12), (3, 12), (3, 12), (0, 12), (0, 30), (0, 30), (0, 30), (3, 30), (0, 4096), (3, 4096), (1, 64), (0, 4096), (0, 8), (0, 8), (1, 1)]
def zRt : List (Nat × Nat × Nat) := [(0, 0, 1), (0, 1, 2), (0, 2, 3), (0, 3, 11), (0, 4, 20), (0, 5, 22), (0, 6, 57), (0, 7, 63), (0, 8, 69), (0, 9, 75), (0, 10, 81), (0, 11, 85), (0, 12, 90), (0, 13, 92), (0, 14, 97), (0, 15, 101), (2, 0, 1), (3, 4, 4), (3, 5, 5), (3, 6, 6), (3, 7, 7), (3, 8, 8), (3, 9, 9), (3, 10, 10), (11, 0, 2), (11, 1, 12), (12, 4, 13), (12, 5, 14), (12, 6, 15), (12, 7, 16), (12, 8, 17), (12, 9, 18), (12, 10, 19), (20, 0, 21), (22, 0, 2), (22, 1, 23), (22, 2, 24), (22, 3, 26), (23, 0, 27), (23, 1, 29), (23, 2, 31), (23, 3, 33), (23, 4, 35), (23, 5, 37), (23, 6, 39), (23, 7, 41), (23, 8, 43), (23, 9, 45), (23, 10, 47), (23, 11, 49), (23, 12, 51), (23, 13, 53), (23, 14, 55), (24, 0, 25), (27, 0, 28), (29, 0, 30), (31, 0, 32), (33, 0, 34), (35, 0, 36), (37, 0, 38), (39, 0, 40), (41, 0, 42), (43, 0, 44), (45, 0, 46), (47, 0, 48), (49, 0, 50), (51, 0, 52), (53, 0, 54), (55, 0, 56), (57, 3, 58), (57, 4, 59), (57, 5, 60), (57, 6, 61), (57, 7, 62), (63, 3, 64), (63, 4, 65), (63, 5, 66), (63, 6, 67), (63, 7, 68), (69, 3, 70), (69, 4, 71), (69, 5, 72), (69, 6, 73), (69, 7, 74), (75, 3, 76), (75, 4, 77), (75, 5, 78), (75, 6, 79), (75, 7, 80), (81, 0, 20), (81, 1, 82), (81, 2, 83), (81, 3, 84), (85, 0, 86), (86, 0, 20), (86, 1, 87), (86, 2, 88), (86, 3, 89), (90, 0, 91), (92, 0, 93), (92, 1, 94), (92, 2, 95), (92, 3, 96), (97, 0, 98), (97, 1, 99), (97, 2, 100), (102, 9, 103), (102, 18, 104), (102, 19, 105), (102, 20, 106), (102, 21, 107), (102, 22, 108), (102, 23, 109), (102, 24, 110), (102, 25, 119), (102, 28, 128), (102, 29, 129), (102, 30, 160), (102, 31, 161), (102, 39, 162), (102, 40, 169), (102, 41, 178), (102, 42, 182), (102, 43, 195), (102, 44, 196), (102, 45, 197), (102, 46, 198), (102, 47, 199), (102, 50, 200), (102, 51, 201), (102, 52, 202), (102, 54, 203), (102, 55, 204), (102, 56, 205), (110, 0, 111), (110, 1, 112), (110, 2, 113), (110, 3, 114), (110, 4, 115), (110, 5, 116), (110, 6, 117), (110, 7, 118), (119, 0, 120), (119, 1, 121), (119, 2, 122), (119, 3, 123), (119, 4, 124), (119, 5, 125), (119, 6, 126), (119, 7, 127), (129, 0, 130), (129, 1, 131), (129, 2, 132), (129, 3, 133), (129, 4, 134), (129, 5, 135), (129, 6, 136), (129, 7, 137), (129, 8, 138), (129, 9, 139), (129, 10, 140), (129, 11, 141), (129, 12, 142), (129, 13, 143), (129, 14, 144), (129, 15, 145), (129, 16, 146), (129, 17, 147), (129, 18, 148), (129, 19, 149), (129, 20, 150), (129, 21, 151), (129, 22, 152), (129, 23, 153), (129, 24, 154), (129, 25, 155), (129, 26, 156), (129, 27, 157), (129, 28, 158), (129, 29, 159), (162, 0, 163), (162, 1, 164), (162, 2, 165), (162, 3, 166), (162, 4, 167), (162, 5, 168), (169, 0, 170), (169, 1, 171), (169, 2, 172), (169, 3, 173), (169, 4, 174), (169, 5, 175), (169, 6, 176), (169, 7, 177), (178, 0, 179), (178, 1, 180), (178, 2, 181), (182, 0, 183), (182, 1, 184), (182, 2, 185), (182, 3, 186), (182, 4, 187), (182, 5, 188), (182, 6, 189), (182, 7, 190), (182, 8, 191), (182, 9, 192), (182, 10, 193), (182, 11, 194)]
def zSh0 (Sh : zSh) : Prop := Sh.1 = zK0 ∧ (∀ t ∈ zRt, Sh.2.1 t.1 t.2.1 = some t.2.2) ∧ Sh.2.2 ≠ 0
theorem zK_at {Sh : zSh} (h : zSh0 Sh) (k : Nat) {kd : Nat × Nat} (e : zK0[k]? = some kd) : Sh.1[k]? = some kd := by rw [h.1]; exact e
theorem zR_at {Sh : zSh} (h : zSh0 Sh) (a b q : Nat) (e : zRt.contains (a, b, q) = true) : Sh.2.1 a b = some q := h.2.1 (a, b, q) (List.contains_iff_mem.mp e)
theorem K_0 {Sh : zSh} (h : zSh0 Sh) : Sh.1[0]? = some (18, 19) := zK_at h 0 rfl
theorem K_1 {Sh : zSh} (h : zSh0 Sh) : Sh.1[1]? = some (2, 500) := zK_at h 1 rfl
theorem K_2 {Sh : zSh} (h : zSh0 Sh) : Sh.1[2]? = some (15, 5) := zK_at h 2 rfl
theorem K_3 {Sh : zSh} (h : zSh0 Sh) : Sh.1[3]? = some (7, 12) := zK_at h 3 rfl
theorem K_4 {Sh : zSh} (h : zSh0 Sh) : Sh.1[4]? = some (0, 12) := zK_at h 4 rfl
theorem K_5 {Sh : zSh} (h : zSh0 Sh) : Sh.1[5]? = some (0, 12) := zK_at h 5 rfl
theorem K_6 {Sh : zSh} (h : zSh0 Sh) : Sh.1[6]? = some (0, 48) := zK_at h 6 rfl
theorem K_7 {Sh : zSh} (h : zSh0 Sh) : Sh.1[7]? = some (0, 8) := zK_at h 7 rfl
theorem K_8 {Sh : zSh} (h : zSh0 Sh) : Sh.1[8]? = some (0, 30) := zK_at h 8 rfl
theorem K_9 {Sh : zSh} (h : zSh0 Sh) : Sh.1[9]? = some (0, 30) := zK_at h 9 rfl
theorem K_10 {Sh : zSh} (h : zSh0 Sh) : Sh.1[10]? = some (0, 30) := zK_at h 10 rfl
theorem K_11 {Sh : zSh} (h : zSh0 Sh) : Sh.1[11]? = some (8, 2) := zK_at h 11 rfl
theorem K_12 {Sh : zSh} (h : zSh0 Sh) : Sh.1[12]? = some (7, 12) := zK_at h 12 rfl
theorem K_13 {Sh : zSh} (h : zSh0 Sh) : Sh.1[13]? = some (0, 12) := zK_at h 13 rfl
theorem K_14 {Sh : zSh} (h : zSh0 Sh) : Sh.1[14]? = some (0, 12) := zK_at h 14 rfl
theorem K_15 {Sh : zSh} (h : zSh0 Sh) : Sh.1[15]? = some (0, 48) := zK_at h 15 rfl
theorem K_16 {Sh : zSh} (h : zSh0 Sh) : Sh.1[16]? = some (0, 8) := zK_at h 16 rfl
theorem K_17 {Sh : zSh} (h : zSh0 Sh) : Sh.1[17]? = some (0, 30) := zK_at h 17 rfl
theorem K_18 {Sh : zSh} (h : zSh0 Sh) : Sh.1[18]? = some (0, 30) := zK_at h 18 rfl
theorem K_19 {Sh : zSh} (h : zSh0 Sh) : Sh.1[19]? = some (0, 30) := zK_at h 19 rfl
theorem K_20 {Sh : zSh} (h : zSh0 Sh) : Sh.1[20]? = some (10, 2) := zK_at h 20 rfl
theorem K_21 {Sh : zSh} (h : zSh0 Sh) : Sh.1[21]? = some (0, 500) := zK_at h 21 rfl
theorem K_22 {Sh : zSh} (h : zSh0 Sh) : Sh.1[22]? = some (14, 7) := zK_at h 22 rfl
theorem K_23 {Sh : zSh} (h : zSh0 Sh) : Sh.1[23]? = some (6, 15) := zK_at h 23 rfl
theorem K_24 {Sh : zSh} (h : zSh0 Sh) : Sh.1[24]? = some (10, 2) := zK_at h 24 rfl
theorem K_25 {Sh : zSh} (h : zSh0 Sh) : Sh.1[25]? = some (0, 500) := zK_at h 25 rfl
theorem K_26 {Sh : zSh} (h : zSh0 Sh) : Sh.1[26]? = some (0, 1024) := zK_at h 26 rfl
theorem K_27 {Sh : zSh} (h : zSh0 Sh) : Sh.1[27]? = some (10, 2) := zK_at h 27 rfl
theorem K_28 {Sh : zSh} (h : zSh0 Sh) : Sh.1[28]? = some (0, 500) := zK_at h 28 rfl
theorem K_29 {Sh : zSh} (h : zSh0 Sh) : Sh.1[29]? = some (10, 2) := zK_at h 29 rfl
theorem K_30 {Sh : zSh} (h : zSh0 Sh) : Sh.1[30]? = some (0, 500) := zK_at h 30 rfl
theorem K_31 {Sh : zSh} (h : zSh0 Sh) : Sh.1[31]? = some (10, 2) := zK_at h 31 rfl
theorem K_32 {Sh : zSh} (h : zSh0 Sh) : Sh.1[32]? = some (0, 500) := zK_at h 32 rfl
theorem K_33 {Sh : zSh} (h : zSh0 Sh) : Sh.1[33]? = some (10, 2) := zK_at h 33 rfl
theorem K_34 {Sh : zSh} (h : zSh0 Sh) : Sh.1[34]? = some (0, 500) := zK_at h 34 rfl
theorem K_35 {Sh : zSh} (h : zSh0 Sh) : Sh.1[35]? = some (10, 2) := zK_at h 35 rfl
theorem K_36 {Sh : zSh} (h : zSh0 Sh) : Sh.1[36]? = some (0, 500) := zK_at h 36 rfl
theorem K_37 {Sh : zSh} (h : zSh0 Sh) : Sh.1[37]? = some (10, 2) := zK_at h 37 rfl
theorem K_38 {Sh : zSh} (h : zSh0 Sh) : Sh.1[38]? = some (0, 500) := zK_at h 38 rfl
theorem K_39 {Sh : zSh} (h : zSh0 Sh) : Sh.1[39]? = some (10, 2) := zK_at h 39 rfl
theorem K_40 {Sh : zSh} (h : zSh0 Sh) : Sh.1[40]? = some (0, 500) := zK_at h 40 rfl
theorem K_41 {Sh : zSh} (h : zSh0 Sh) : Sh.1[41]? = some (10, 2) := zK_at h 41 rfl
theorem K_42 {Sh : zSh} (h : zSh0 Sh) : Sh.1[42]? = some (0, 500) := zK_at h 42 rfl
theorem K_43 {Sh : zSh} (h : zSh0 Sh) : Sh.1[43]? = some (10, 2) := zK_at h 43 rfl
theorem K_44 {Sh : zSh} (h : zSh0 Sh) : Sh.1[44]? = some (0, 500) := zK_at h 44 rfl
theorem K_45 {Sh : zSh} (h : zSh0 Sh) : Sh.1[45]? = some (10, 2) := zK_at h 45 rfl
theorem K_46 {Sh : zSh} (h : zSh0 Sh) : Sh.1[46]? = some (0, 500) := zK_at h 46 rfl
theorem K_47 {Sh : zSh} (h : zSh0 Sh) : Sh.1[47]? = some (10, 2) := zK_at h 47 rfl
theorem K_48 {Sh : zSh} (h : zSh0 Sh) : Sh.1[48]? = some (0, 500) := zK_at h 48 rfl
theorem K_49 {Sh : zSh} (h : zSh0 Sh) : Sh.1[49]? = some (10, 2) := zK_at h 49 rfl
theorem K_50 {Sh : zSh} (h : zSh0 Sh) : Sh.1[50]? = some (0, 500) := zK_at h 50 rfl
theorem K_51 {Sh : zSh} (h : zSh0 Sh) : Sh.1[51]? = some (10, 2) := zK_at h 51 rfl
theorem K_52 {Sh : zSh} (h : zSh0 Sh) : Sh.1[52]? = some (0, 500) := zK_at h 52 rfl
theorem K_53 {Sh : zSh} (h : zSh0 Sh) : Sh.1[53]? = some (10, 2) := zK_at h 53 rfl
theorem K_54 {Sh : zSh} (h : zSh0 Sh) : Sh.1[54]? = some (0, 500) := zK_at h 54 rfl
theorem K_55 {Sh : zSh} (h : zSh0 Sh) : Sh.1[55]? = some (10, 2) := zK_at h 55 rfl
theorem K_56 {Sh : zSh} (h : zSh0 Sh) : Sh.1[56]? = some (0, 500) := zK_at h 56 rfl
theorem K_57 {Sh : zSh} (h : zSh0 Sh) : Sh.1[57]? = some (16, 8) := zK_at h 57 rfl
theorem K_58 {Sh : zSh} (h : zSh0 Sh) : Sh.1[58]? = some (0, 6) := zK_at h 58 rfl
theorem K_59 {Sh : zSh} (h : zSh0 Sh) : Sh.1[59]? = some (0, 6) := zK_at h 59 rfl
theorem K_60 {Sh : zSh} (h : zSh0 Sh) : Sh.1[60]? = some (0, 8) := zK_at h 60 rfl
theorem K_61 {Sh : zSh} (h : zSh0 Sh) : Sh.1[61]? = some (0, 8) := zK_at h 61 rfl
theorem K_62 {Sh : zSh} (h : zSh0 Sh) : Sh.1[62]? = some (0, 8) := zK_at h 62 rfl
theorem K_63 {Sh : zSh} (h : zSh0 Sh) : Sh.1[63]? = some (16, 8) := zK_at h 63 rfl
theorem K_64 {Sh : zSh} (h : zSh0 Sh) : Sh.1[64]? = some (0, 6) := zK_at h 64 rfl
theorem K_65 {Sh : zSh} (h : zSh0 Sh) : Sh.1[65]? = some (0, 6) := zK_at h 65 rfl
theorem K_66 {Sh : zSh} (h : zSh0 Sh) : Sh.1[66]? = some (0, 8) := zK_at h 66 rfl
theorem K_67 {Sh : zSh} (h : zSh0 Sh) : Sh.1[67]? = some (0, 8) := zK_at h 67 rfl
theorem K_68 {Sh : zSh} (h : zSh0 Sh) : Sh.1[68]? = some (0, 8) := zK_at h 68 rfl
theorem K_69 {Sh : zSh} (h : zSh0 Sh) : Sh.1[69]? = some (16, 8) := zK_at h 69 rfl
theorem K_70 {Sh : zSh} (h : zSh0 Sh) : Sh.1[70]? = some (0, 6) := zK_at h 70 rfl
theorem K_71 {Sh : zSh} (h : zSh0 Sh) : Sh.1[71]? = some (0, 6) := zK_at h 71 rfl
theorem K_72 {Sh : zSh} (h : zSh0 Sh) : Sh.1[72]? = some (0, 8) := zK_at h 72 rfl
theorem K_73 {Sh : zSh} (h : zSh0 Sh) : Sh.1[73]? = some (0, 8) := zK_at h 73 rfl
theorem K_74 {Sh : zSh} (h : zSh0 Sh) : Sh.1[74]? = some (0, 8) := zK_at h 74 rfl
theorem K_75 {Sh : zSh} (h : zSh0 Sh) : Sh.1[75]? = some (16, 8) := zK_at h 75 rfl
theorem K_76 {Sh : zSh} (h : zSh0 Sh) : Sh.1[76]? = some (0, 6) := zK_at h 76 rfl
theorem K_77 {Sh : zSh} (h : zSh0 Sh) : Sh.1[77]? = some (0, 6) := zK_at h 77 rfl
theorem K_78 {Sh : zSh} (h : zSh0 Sh) : Sh.1[78]? = some (0, 8) := zK_at h 78 rfl
theorem K_79 {Sh : zSh} (h : zSh0 Sh) : Sh.1[79]? = some (0, 8) := zK_at h 79 rfl
theorem K_80 {Sh : zSh} (h : zSh0 Sh) : Sh.1[80]? = some (0, 8) := zK_at h 80 rfl
theorem K_81 {Sh : zSh} (h : zSh0 Sh) : Sh.1[81]? = some (17, 8) := zK_at h 81 rfl
theorem K_82 {Sh : zSh} (h : zSh0 Sh) : Sh.1[82]? = some (0, 12) := zK_at h 82 rfl
theorem K_83 {Sh : zSh} (h : zSh0 Sh) : Sh.1[83]? = some (0, 12) := zK_at h 83 rfl
theorem K_84 {Sh : zSh} (h : zSh0 Sh) : Sh.1[84]? = some (0, 144) := zK_at h 84 rfl
theorem K_85 {Sh : zSh} (h : zSh0 Sh) : Sh.1[85]? = some (13, 4) := zK_at h 85 rfl
theorem K_86 {Sh : zSh} (h : zSh0 Sh) : Sh.1[86]? = some (17, 8) := zK_at h 86 rfl
theorem K_87 {Sh : zSh} (h : zSh0 Sh) : Sh.1[87]? = some (0, 12) := zK_at h 87 rfl
theorem K_88 {Sh : zSh} (h : zSh0 Sh) : Sh.1[88]? = some (0, 12) := zK_at h 88 rfl
theorem K_89 {Sh : zSh} (h : zSh0 Sh) : Sh.1[89]? = some (0, 144) := zK_at h 89 rfl
theorem K_90 {Sh : zSh} (h : zSh0 Sh) : Sh.1[90]? = some (11, 4) := zK_at h 90 rfl
theorem K_91 {Sh : zSh} (h : zSh0 Sh) : Sh.1[91]? = some (0, 12) := zK_at h 91 rfl
theorem K_92 {Sh : zSh} (h : zSh0 Sh) : Sh.1[92]? = some (9, 6) := zK_at h 92 rfl
theorem K_93 {Sh : zSh} (h : zSh0 Sh) : Sh.1[93]? = some (1, 64) := zK_at h 93 rfl
theorem K_94 {Sh : zSh} (h : zSh0 Sh) : Sh.1[94]? = some (1, 64) := zK_at h 94 rfl
theorem K_95 {Sh : zSh} (h : zSh0 Sh) : Sh.1[95]? = some (1, 64) := zK_at h 95 rfl
theorem K_96 {Sh : zSh} (h : zSh0 Sh) : Sh.1[96]? = some (0, 2176) := zK_at h 96 rfl
theorem K_97 {Sh : zSh} (h : zSh0 Sh) : Sh.1[97]? = some (12, 3) := zK_at h 97 rfl
theorem K_98 {Sh : zSh} (h : zSh0 Sh) : Sh.1[98]? = some (0, 800) := zK_at h 98 rfl
theorem K_99 {Sh : zSh} (h : zSh0 Sh) : Sh.1[99]? = some (0, 800) := zK_at h 99 rfl
theorem K_100 {Sh : zSh} (h : zSh0 Sh) : Sh.1[100]? = some (0, 8) := zK_at h 100 rfl
theorem K_101 {Sh : zSh} (h : zSh0 Sh) : Sh.1[101]? = some (0, 34) := zK_at h 101 rfl
theorem K_102 {Sh : zSh} (h : zSh0 Sh) : Sh.1[102]? = some (19, 57) := zK_at h 102 rfl
theorem K_103 {Sh : zSh} (h : zSh0 Sh) : Sh.1[103]? = some (0, 500) := zK_at h 103 rfl
theorem K_104 {Sh : zSh} (h : zSh0 Sh) : Sh.1[104]? = some (0, 12) := zK_at h 104 rfl
theorem K_105 {Sh : zSh} (h : zSh0 Sh) : Sh.1[105]? = some (0, 12) := zK_at h 105 rfl
theorem K_106 {Sh : zSh} (h : zSh0 Sh) : Sh.1[106]? = some (0, 12) := zK_at h 106 rfl
theorem K_107 {Sh : zSh} (h : zSh0 Sh) : Sh.1[107]? = some (0, 12) := zK_at h 107 rfl
theorem K_108 {Sh : zSh} (h : zSh0 Sh) : Sh.1[108]? = some (0, 8) := zK_at h 108 rfl
theorem K_109 {Sh : zSh} (h : zSh0 Sh) : Sh.1[109]? = some (0, 8) := zK_at h 109 rfl
theorem K_110 {Sh : zSh} (h : zSh0 Sh) : Sh.1[110]? = some (4, 8) := zK_at h 110 rfl
theorem K_111 {Sh : zSh} (h : zSh0 Sh) : Sh.1[111]? = some (0, 6) := zK_at h 111 rfl
theorem K_112 {Sh : zSh} (h : zSh0 Sh) : Sh.1[112]? = some (0, 6) := zK_at h 112 rfl
theorem K_113 {Sh : zSh} (h : zSh0 Sh) : Sh.1[113]? = some (0, 6) := zK_at h 113 rfl
theorem K_114 {Sh : zSh} (h : zSh0 Sh) : Sh.1[114]? = some (0, 6) := zK_at h 114 rfl
theorem K_115 {Sh : zSh} (h : zSh0 Sh) : Sh.1[115]? = some (0, 6) := zK_at h 115 rfl
theorem K_116 {Sh : zSh} (h : zSh0 Sh) : Sh.1[116]? = some (0, 6) := zK_at h 116 rfl
theorem K_117 {Sh : zSh} (h : zSh0 Sh) : Sh.1[117]? = some (0, 6) := zK_at h 117 rfl
theorem K_118 {Sh : zSh} (h : zSh0 Sh) : Sh.1[118]? = some (0, 6) := zK_at h 118 rfl
theorem K_119 {Sh : zSh} (h : zSh0 Sh) : Sh.1[119]? = some (4, 8) := zK_at h 119 rfl
theorem K_120 {Sh : zSh} (h : zSh0 Sh) : Sh.1[120]? = some (0, 6) := zK_at h 120 rfl
theorem K_121 {Sh : zSh} (h : zSh0 Sh) : Sh.1[121]? = some (0, 6) := zK_at h 121 rfl
theorem K_122 {Sh : zSh} (h : zSh0 Sh) : Sh.1[122]? = some (0, 6) := zK_at h 122 rfl
theorem K_123 {Sh : zSh} (h : zSh0 Sh) : Sh.1[123]? = some (0, 6) := zK_at h 123 rfl
theorem K_124 {Sh : zSh} (h : zSh0 Sh) : Sh.1[124]? = some (0, 6) := zK_at h 124 rfl
theorem K_125 {Sh : zSh} (h : zSh0 Sh) : Sh.1[125]? = some (0, 6) := zK_at h 125 rfl
theorem K_126 {Sh : zSh} (h : zSh0 Sh) : Sh.1[126]? = some (0, 6) := zK_at h 126 rfl
theorem K_127 {Sh : zSh} (h : zSh0 Sh) : Sh.1[127]? = some (0, 6) := zK_at h 127 rfl
theorem K_128 {Sh : zSh} (h : zSh0 Sh) : Sh.1[128]? = some (0, 500) := zK_at h 128 rfl
theorem K_129 {Sh : zSh} (h : zSh0 Sh) : Sh.1[129]? = some (4, 30) := zK_at h 129 rfl
theorem K_130 {Sh : zSh} (h : zSh0 Sh) : Sh.1[130]? = some (0, 501) := zK_at h 130 rfl
theorem K_131 {Sh : zSh} (h : zSh0 Sh) : Sh.1[131]? = some (0, 501) := zK_at h 131 rfl
theorem K_132 {Sh : zSh} (h : zSh0 Sh) : Sh.1[132]? = some (0, 501) := zK_at h 132 rfl
theorem K_133 {Sh : zSh} (h : zSh0 Sh) : Sh.1[133]? = some (0, 501) := zK_at h 133 rfl
theorem K_134 {Sh : zSh} (h : zSh0 Sh) : Sh.1[134]? = some (0, 501) := zK_at h 134 rfl
theorem K_135 {Sh : zSh} (h : zSh0 Sh) : Sh.1[135]? = some (0, 501) := zK_at h 135 rfl
theorem K_136 {Sh : zSh} (h : zSh0 Sh) : Sh.1[136]? = some (0, 501) := zK_at h 136 rfl
theorem K_137 {Sh : zSh} (h : zSh0 Sh) : Sh.1[137]? = some (0, 501) := zK_at h 137 rfl
theorem K_138 {Sh : zSh} (h : zSh0 Sh) : Sh.1[138]? = some (0, 501) := zK_at h 138 rfl
theorem K_139 {Sh : zSh} (h : zSh0 Sh) : Sh.1[139]? = some (0, 501) := zK_at h 139 rfl
theorem K_140 {Sh : zSh} (h : zSh0 Sh) : Sh.1[140]? = some (0, 501) := zK_at h 140 rfl
theorem K_141 {Sh : zSh} (h : zSh0 Sh) : Sh.1[141]? = some (0, 501) := zK_at h 141 rfl
theorem K_142 {Sh : zSh} (h : zSh0 Sh) : Sh.1[142]? = some (0, 501) := zK_at h 142 rfl
theorem K_143 {Sh : zSh} (h : zSh0 Sh) : Sh.1[143]? = some (0, 501) := zK_at h 143 rfl
theorem K_144 {Sh : zSh} (h : zSh0 Sh) : Sh.1[144]? = some (0, 501) := zK_at h 144 rfl
theorem K_145 {Sh : zSh} (h : zSh0 Sh) : Sh.1[145]? = some (0, 501) := zK_at h 145 rfl
theorem K_146 {Sh : zSh} (h : zSh0 Sh) : Sh.1[146]? = some (0, 501) := zK_at h 146 rfl
theorem K_147 {Sh : zSh} (h : zSh0 Sh) : Sh.1[147]? = some (0, 501) := zK_at h 147 rfl
theorem K_148 {Sh : zSh} (h : zSh0 Sh) : Sh.1[148]? = some (0, 501) := zK_at h 148 rfl
theorem K_149 {Sh : zSh} (h : zSh0 Sh) : Sh.1[149]? = some (0, 501) := zK_at h 149 rfl
theorem K_150 {Sh : zSh} (h : zSh0 Sh) : Sh.1[150]? = some (0, 501) := zK_at h 150 rfl
theorem K_151 {Sh : zSh} (h : zSh0 Sh) : Sh.1[151]? = some (0, 501) := zK_at h 151 rfl
theorem K_152 {Sh : zSh} (h : zSh0 Sh) : Sh.1[152]? = some (0, 501) := zK_at h 152 rfl
theorem K_153 {Sh : zSh} (h : zSh0 Sh) : Sh.1[153]? = some (0, 501) := zK_at h 153 rfl
theorem K_154 {Sh : zSh} (h : zSh0 Sh) : Sh.1[154]? = some (0, 501) := zK_at h 154 rfl
theorem K_155 {Sh : zSh} (h : zSh0 Sh) : Sh.1[155]? = some (0, 501) := zK_at h 155 rfl
theorem K_156 {Sh : zSh} (h : zSh0 Sh) : Sh.1[156]? = some (0, 501) := zK_at h 156 rfl
theorem K_157 {Sh : zSh} (h : zSh0 Sh) : Sh.1[157]? = some (0, 501) := zK_at h 157 rfl
theorem K_158 {Sh : zSh} (h : zSh0 Sh) : Sh.1[158]? = some (0, 501) := zK_at h 158 rfl
theorem K_159 {Sh : zSh} (h : zSh0 Sh) : Sh.1[159]? = some (0, 501) := zK_at h 159 rfl
theorem K_160 {Sh : zSh} (h : zSh0 Sh) : Sh.1[160]? = some (0, 30) := zK_at h 160 rfl
theorem K_161 {Sh : zSh} (h : zSh0 Sh) : Sh.1[161]? = some (0, 501) := zK_at h 161 rfl
theorem K_162 {Sh : zSh} (h : zSh0 Sh) : Sh.1[162]? = some (4, 6) := zK_at h 162 rfl
theorem K_163 {Sh : zSh} (h : zSh0 Sh) : Sh.1[163]? = some (0, 2) := zK_at h 163 rfl
theorem K_164 {Sh : zSh} (h : zSh0 Sh) : Sh.1[164]? = some (0, 2) := zK_at h 164 rfl
theorem K_165 {Sh : zSh} (h : zSh0 Sh) : Sh.1[165]? = some (0, 2) := zK_at h 165 rfl
theorem K_166 {Sh : zSh} (h : zSh0 Sh) : Sh.1[166]? = some (0, 2) := zK_at h 166 rfl
theorem K_167 {Sh : zSh} (h : zSh0 Sh) : Sh.1[167]? = some (0, 2) := zK_at h 167 rfl
theorem K_168 {Sh : zSh} (h : zSh0 Sh) : Sh.1[168]? = some (0, 2) := zK_at h 168 rfl
theorem K_169 {Sh : zSh} (h : zSh0 Sh) : Sh.1[169]? = some (4, 8) := zK_at h 169 rfl
theorem K_170 {Sh : zSh} (h : zSh0 Sh) : Sh.1[170]? = some (0, 3) := zK_at h 170 rfl
theorem K_171 {Sh : zSh} (h : zSh0 Sh) : Sh.1[171]? = some (0, 3) := zK_at h 171 rfl
theorem K_172 {Sh : zSh} (h : zSh0 Sh) : Sh.1[172]? = some (0, 3) := zK_at h 172 rfl
theorem K_173 {Sh : zSh} (h : zSh0 Sh) : Sh.1[173]? = some (0, 3) := zK_at h 173 rfl
theorem K_174 {Sh : zSh} (h : zSh0 Sh) : Sh.1[174]? = some (0, 3) := zK_at h 174 rfl
theorem K_175 {Sh : zSh} (h : zSh0 Sh) : Sh.1[175]? = some (0, 3) := zK_at h 175 rfl
theorem K_176 {Sh : zSh} (h : zSh0 Sh) : Sh.1[176]? = some (0, 3) := zK_at h 176 rfl
theorem K_177 {Sh : zSh} (h : zSh0 Sh) : Sh.1[177]? = some (0, 3) := zK_at h 177 rfl
theorem K_178 {Sh : zSh} (h : zSh0 Sh) : Sh.1[178]? = some (4, 3) := zK_at h 178 rfl
theorem K_179 {Sh : zSh} (h : zSh0 Sh) : Sh.1[179]? = some (0, 64) := zK_at h 179 rfl
theorem K_180 {Sh : zSh} (h : zSh0 Sh) : Sh.1[180]? = some (0, 64) := zK_at h 180 rfl
theorem K_181 {Sh : zSh} (h : zSh0 Sh) : Sh.1[181]? = some (0, 64) := zK_at h 181 rfl
theorem K_182 {Sh : zSh} (h : zSh0 Sh) : Sh.1[182]? = some (5, 12) := zK_at h 182 rfl
theorem K_183 {Sh : zSh} (h : zSh0 Sh) : Sh.1[183]? = some (3, 12) := zK_at h 183 rfl
theorem K_184 {Sh : zSh} (h : zSh0 Sh) : Sh.1[184]? = some (3, 12) := zK_at h 184 rfl
theorem K_185 {Sh : zSh} (h : zSh0 Sh) : Sh.1[185]? = some (3, 12) := zK_at h 185 rfl
theorem K_186 {Sh : zSh} (h : zSh0 Sh) : Sh.1[186]? = some (3, 12) := zK_at h 186 rfl
theorem K_187 {Sh : zSh} (h : zSh0 Sh) : Sh.1[187]? = some (3, 12) := zK_at h 187 rfl
theorem K_188 {Sh : zSh} (h : zSh0 Sh) : Sh.1[188]? = some (3, 12) := zK_at h 188 rfl
theorem K_189 {Sh : zSh} (h : zSh0 Sh) : Sh.1[189]? = some (3, 12) := zK_at h 189 rfl
theorem K_190 {Sh : zSh} (h : zSh0 Sh) : Sh.1[190]? = some (3, 12) := zK_at h 190 rfl
theorem K_191 {Sh : zSh} (h : zSh0 Sh) : Sh.1[191]? = some (3, 12) := zK_at h 191 rfl
theorem K_192 {Sh : zSh} (h : zSh0 Sh) : Sh.1[192]? = some (3, 12) := zK_at h 192 rfl
theorem K_193 {Sh : zSh} (h : zSh0 Sh) : Sh.1[193]? = some (3, 12) := zK_at h 193 rfl
theorem K_194 {Sh : zSh} (h : zSh0 Sh) : Sh.1[194]? = some (3, 12) := zK_at h 194 rfl
theorem K_195 {Sh : zSh} (h : zSh0 Sh) : Sh.1[195]? = some (0, 12) := zK_at h 195 rfl
theorem K_196 {Sh : zSh} (h : zSh0 Sh) : Sh.1[196]? = some (0, 30) := zK_at h 196 rfl
theorem K_197 {Sh : zSh} (h : zSh0 Sh) : Sh.1[197]? = some (0, 30) := zK_at h 197 rfl
theorem K_198 {Sh : zSh} (h : zSh0 Sh) : Sh.1[198]? = some (0, 30) := zK_at h 198 rfl
theorem K_199 {Sh : zSh} (h : zSh0 Sh) : Sh.1[199]? = some (3, 30) := zK_at h 199 rfl
theorem K_200 {Sh : zSh} (h : zSh0 Sh) : Sh.1[200]? = some (0, 4096) := zK_at h 200 rfl
theorem K_201 {Sh : zSh} (h : zSh0 Sh) : Sh.1[201]? = some (3, 4096) := zK_at h 201 rfl
theorem K_202 {Sh : zSh} (h : zSh0 Sh) : Sh.1[202]? = some (1, 64) := zK_at h 202 rfl
theorem K_203 {Sh : zSh} (h : zSh0 Sh) : Sh.1[203]? = some (0, 4096) := zK_at h 203 rfl
theorem K_204 {Sh : zSh} (h : zSh0 Sh) : Sh.1[204]? = some (0, 8) := zK_at h 204 rfl
theorem K_205 {Sh : zSh} (h : zSh0 Sh) : Sh.1[205]? = some (0, 8) := zK_at h 205 rfl
theorem K_206 {Sh : zSh} (h : zSh0 Sh) : Sh.1[206]? = some (1, 1) := zK_at h 206 rfl
theorem R_0_0 {Sh : zSh} (h : zSh0 Sh) : Sh.2.1 0 0 = some 1 := zR_at h _ _ _ (by decide +kernel)
theorem R_2_0 {Sh : zSh} (h : zSh0 Sh) : Sh.2.1 2 0 = some 1 := zR_at h _ _ _ (by decide +kernel)
theorem R_0_1 {Sh : zSh} (h : zSh0 Sh) : Sh.2.1 0 1 = some 2 := zR_at h _ _ _ (by decide +kernel)
theorem R_3_4 {Sh : zSh} (h : zSh0 Sh) : Sh.2.1 3 4 = some 4 := zR_at h _ _ _ (by decide +kernel)
theorem R_3_5 {Sh : zSh} (h : zSh0 Sh) : Sh.2.1 3 5 = some 5 := zR_at h _ _ _ (by decide +kernel)
theorem R_3_6 {Sh : zSh} (h : zSh0 Sh) : Sh.2.1 3 6 = some 6 := zR_at h _ _ _ (by decide +kernel)
theorem R_3_7 {Sh : zSh} (h : zSh0 Sh) : Sh.2.1 3 7 = some 7 := zR_at h _ _ _ (by decide +kernel)
theorem R_3_8 {Sh : zSh} (h : zSh0 Sh) : Sh.2.1 3 8 = some 8 := zR_at h _ _ _ (by decide +kernel)
theorem R_3_9 {Sh : zSh} (h : zSh0 Sh) : Sh.2.1 3 9 = some 9 := zR_at h _ _ _ (by decide +kernel)
theorem R_3_10 {Sh : zSh} (h : zSh0 Sh) : Sh.2.1 3 10 = some 10 := zR_at h _ _ _ (by decide +kernel)
theorem R_0_2 {Sh : zSh} (h : zSh0 Sh) : Sh.2.1 0 2 = some 3 := zR_at h _ _ _ (by decide +kernel)
theorem R_12_4 {Sh : zSh} (h : zSh0 Sh) : Sh.2.1 12 4 = some 13 := zR_at h _ _ _ (by decide +kernel)
theorem R_12_5 {Sh : zSh} (h : zSh0 Sh) : Sh.2.1 12 5 = some 14 := zR_at h _ _ _ (by decide +kernel)
theorem R_12_6 {Sh : zSh} (h : zSh0 Sh) : Sh.2.1 12 6 = some 15 := zR_at h _ _ _ (by decide +kernel)
theorem R_12_7 {Sh : zSh} (h : zSh0 Sh) : Sh.2.1 12 7 = some 16 := zR_at h _ _ _ (by decide +kernel)
theorem R_12_8 {Sh : zSh} (h : zSh0 Sh) : Sh.2.1 12 8 = some 17 := zR_at h _ _ _ (by decide +kernel)
theorem R_12_9 {Sh : zSh} (h : zSh0 Sh) : Sh.2.1 12 9 = some 18 := zR_at h _ _ _ (by decide +kernel)
theorem R_12_10 {Sh : zSh} (h : zSh0 Sh) : Sh.2.1 12 10 = some 19 := zR_at h _ _ _ (by decide +kernel)
theorem R_11_1 {Sh : zSh} (h : zSh0 Sh) : Sh.2.1 11 1 = some 12 := zR_at h _ _ _ (by decide +kernel)
theorem R_11_0 {Sh : zSh} (h : zSh0 Sh) : Sh.2.1 11 0 = some 2 := zR_at h _ _ _ (by decide +kernel)
theorem R_0_3 {Sh : zSh} (h : zSh0 Sh) : Sh.2.1 0 3 = some 11 := zR_at h _ _ _ (by decide +kernel)
theorem R_20_0 {Sh : zSh} (h : zSh0 Sh) : Sh.2.1 20 0 = some 21 := zR_at h _ _ _ (by decide +kernel)
theorem R_0_4 {Sh : zSh} (h : zSh0 Sh) : Sh.2.1 0 4 = some 20 := zR_at h _ _ _ (by decide +kernel)
theorem R_22_1 {Sh : zSh} (h : zSh0 Sh) : Sh.2.1 22 1 = some 23 := zR_at h _ _ _ (by decide +kernel)
theorem R_24_0 {Sh : zSh} (h : zSh0 Sh) : Sh.2.1 24 0 = some 25 := zR_at h _ _ _ (by decide +kernel)
theorem R_22_2 {Sh : zSh} (h : zSh0 Sh) : Sh.2.1 22 2 = some 24 := zR_at h _ _ _ (by decide +kernel)
theorem R_22_3 {Sh : zSh} (h : zSh0 Sh) : Sh.2.1 22 3 = some 26 := zR_at h _ _ _ (by decide +kernel)
theorem R_22_0 {Sh : zSh} (h : zSh0 Sh) : Sh.2.1 22 0 = some 2 := zR_at h _ _ _ (by decide +kernel)
theorem R_27_0 {Sh : zSh} (h : zSh0 Sh) : Sh.2.1 27 0 = some 28 := zR_at h _ _ _ (by decide +kernel)
theorem R_29_0 {Sh : zSh} (h : zSh0 Sh) : Sh.2.1 29 0 = some 30 := zR_at h _ _ _ (by decide +kernel)
theorem R_31_0 {Sh : zSh} (h : zSh0 Sh) : Sh.2.1 31 0 = some 32 := zR_at h _ _ _ (by decide +kernel)
theorem R_33_0 {Sh : zSh} (h : zSh0 Sh) : Sh.2.1 33 0 = some 34 := zR_at h _ _ _ (by decide +kernel)
theorem R_35_0 {Sh : zSh} (h : zSh0 Sh) : Sh.2.1 35 0 = some 36 := zR_at h _ _ _ (by decide +kernel)
theorem R_37_0 {Sh : zSh} (h : zSh0 Sh) : Sh.2.1 37 0 = some 38 := zR_at h _ _ _ (by decide +kernel)
theorem R_39_0 {Sh : zSh} (h : zSh0 Sh) : Sh.2.1 39 0 = some 40 := zR_at h _ _ _ (by decide +kernel)
theorem R_41_0 {Sh : zSh} (h : zSh0 Sh) : Sh.2.1 41 0 = some 42 := zR_at h _ _ _ (by decide +kernel)
theorem R_43_0 {Sh : zSh} (h : zSh0 Sh) : Sh.2.1 43 0 = some 44 := zR_at h _ _ _ (by decide +kernel)
theorem R_45_0 {Sh : zSh} (h : zSh0 Sh) : Sh.2.1 45 0 = some 46 := zR_at h _ _ _ (by decide +kernel)
theorem R_47_0 {Sh : zSh} (h : zSh0 Sh) : Sh.2.1 47 0 = some 48 := zR_at h _ _ _ (by decide +kernel)
theorem R_49_0 {Sh : zSh} (h : zSh0 Sh) : Sh.2.1 49 0 = some 50 := zR_at h _ _ _ (by decide +kernel)
theorem R_51_0 {Sh : zSh} (h : zSh0 Sh) : Sh.2.1 51 0 = some 52 := zR_at h _ _ _ (by decide +kernel)
theorem R_53_0 {Sh : zSh} (h : zSh0 Sh) : Sh.2.1 53 0 = some 54 := zR_at h _ _ _ (by decide +kernel)
theorem R_55_0 {Sh : zSh} (h : zSh0 Sh) : Sh.2.1 55 0 = some 56 := zR_at h _ _ _ (by decide +kernel)
theorem R_0_5 {Sh : zSh} (h : zSh0 Sh) : Sh.2.1 0 5 = some 22 := zR_at h _ _ _ (by decide +kernel)
theorem R_57_3 {Sh : zSh} (h : zSh0 Sh) : Sh.2.1 57 3 = some 58 := zR_at h _ _ _ (by decide +kernel)
theorem R_57_4 {Sh : zSh} (h : zSh0 Sh) : Sh.2.1 57 4 = some 59 := zR_at h _ _ _ (by decide +kernel)
theorem R_57_5 {Sh : zSh} (h : zSh0 Sh) : Sh.2.1 57 5 = some 60 := zR_at h _ _ _ (by decide +kernel)
theorem R_57_6 {Sh : zSh} (h : zSh0 Sh) : Sh.2.1 57 6 = some 61 := zR_at h _ _ _ (by decide +kernel)
theorem R_57_7 {Sh : zSh} (h : zSh0 Sh) : Sh.2.1 57 7 = some 62 := zR_at h _ _ _ (by decide +kernel)
theorem R_0_6 {Sh : zSh} (h : zSh0 Sh) : Sh.2.1 0 6 = some 57 := zR_at h _ _ _ (by decide +kernel)
theorem R_63_3 {Sh : zSh} (h : zSh0 Sh) : Sh.2.1 63 3 = some 64 := zR_at h _ _ _ (by decide +kernel)
theorem R_63_4 {Sh : zSh} (h : zSh0 Sh) : Sh.2.1 63 4 = some 65 := zR_at h _ _ _ (by decide +kernel)
theorem R_63_5 {Sh : zSh} (h : zSh0 Sh) : Sh.2.1 63 5 = some 66 := zR_at h _ _ _ (by decide +kernel)
theorem R_63_6 {Sh : zSh} (h : zSh0 Sh) : Sh.2.1 63 6 = some 67 := zR_at h _ _ _ (by decide +kernel)
theorem R_63_7 {Sh : zSh} (h : zSh0 Sh) : Sh.2.1 63 7 = some 68 := zR_at h _ _ _ (by decide +kernel)
theorem R_0_7 {Sh : zSh} (h : zSh0 Sh) : Sh.2.1 0 7 = some 63 := zR_at h _ _ _ (by decide +kernel)
theorem R_69_3 {Sh : zSh} (h : zSh0 Sh) : Sh.2.1 69 3 = some 70 := zR_at h _ _ _ (by decide +kernel)
theorem R_69_4 {Sh : zSh} (h : zSh0 Sh) : Sh.2.1 69 4 = some 71 := zR_at h _ _ _ (by decide +kernel)
theorem R_69_5 {Sh : zSh} (h : zSh0 Sh) : Sh.2.1 69 5 = some 72 := zR_at h _ _ _ (by decide +kernel)
theorem R_69_6 {Sh : zSh} (h : zSh0 Sh) : Sh.2.1 69 6 = some 73 := zR_at h _ _ _ (by decide +kernel)
theorem R_69_7 {Sh : zSh} (h : zSh0 Sh) : Sh.2.1 69 7 = some 74 := zR_at h _ _ _ (by decide +kernel)
theorem R_0_8 {Sh : zSh} (h : zSh0 Sh) : Sh.2.1 0 8 = some 69 := zR_at h _ _ _ (by decide +kernel)
theorem R_75_3 {Sh : zSh} (h : zSh0 Sh) : Sh.2.1 75 3 = some 76 := zR_at h _ _ _ (by decide +kernel)
theorem R_75_4 {Sh : zSh} (h : zSh0 Sh) : Sh.2.1 75 4 = some 77 := zR_at h _ _ _ (by decide +kernel)
theorem R_75_5 {Sh : zSh} (h : zSh0 Sh) : Sh.2.1 75 5 = some 78 := zR_at h _ _ _ (by decide +kernel)
theorem R_75_6 {Sh : zSh} (h : zSh0 Sh) : Sh.2.1 75 6 = some 79 := zR_at h _ _ _ (by decide +kernel)
theorem R_75_7 {Sh : zSh} (h : zSh0 Sh) : Sh.2.1 75 7 = some 80 := zR_at h _ _ _ (by decide +kernel)
theorem R_0_9 {Sh : zSh} (h : zSh0 Sh) : Sh.2.1 0 9 = some 75 := zR_at h _ _ _ (by decide +kernel)
theorem R_81_1 {Sh : zSh} (h : zSh0 Sh) : Sh.2.1 81 1 = some 82 := zR_at h _ _ _ (by decide +kernel)
theorem R_81_2 {Sh : zSh} (h : zSh0 Sh) : Sh.2.1 81 2 = some 83 := zR_at h _ _ _ (by decide +kernel)
theorem R_81_3 {Sh : zSh} (h : zSh0 Sh) : Sh.2.1 81 3 = some 84 := zR_at h _ _ _ (by decide +kernel)
theorem R_81_0 {Sh : zSh} (h : zSh0 Sh) : Sh.2.1 81 0 = some 20 := zR_at h _ _ _ (by decide +kernel)
theorem R_0_10 {Sh : zSh} (h : zSh0 Sh) : Sh.2.1 0 10 = some 81 := zR_at h _ _ _ (by decide +kernel)
theorem R_86_1 {Sh : zSh} (h : zSh0 Sh) : Sh.2.1 86 1 = some 87 := zR_at h _ _ _ (by decide +kernel)
theorem R_86_2 {Sh : zSh} (h : zSh0 Sh) : Sh.2.1 86 2 = some 88 := zR_at h _ _ _ (by decide +kernel)
theorem R_86_3 {Sh : zSh} (h : zSh0 Sh) : Sh.2.1 86 3 = some 89 := zR_at h _ _ _ (by decide +kernel)
theorem R_86_0 {Sh : zSh} (h : zSh0 Sh) : Sh.2.1 86 0 = some 20 := zR_at h _ _ _ (by decide +kernel)
theorem R_85_0 {Sh : zSh} (h : zSh0 Sh) : Sh.2.1 85 0 = some 86 := zR_at h _ _ _ (by decide +kernel)
theorem R_0_11 {Sh : zSh} (h : zSh0 Sh) : Sh.2.1 0 11 = some 85 := zR_at h _ _ _ (by decide +kernel)
theorem R_90_0 {Sh : zSh} (h : zSh0 Sh) : Sh.2.1 90 0 = some 91 := zR_at h _ _ _ (by decide +kernel)
theorem R_0_12 {Sh : zSh} (h : zSh0 Sh) : Sh.2.1 0 12 = some 90 := zR_at h _ _ _ (by decide +kernel)
theorem R_92_0 {Sh : zSh} (h : zSh0 Sh) : Sh.2.1 92 0 = some 93 := zR_at h _ _ _ (by decide +kernel)
theorem R_92_1 {Sh : zSh} (h : zSh0 Sh) : Sh.2.1 92 1 = some 94 := zR_at h _ _ _ (by decide +kernel)
theorem R_92_2 {Sh : zSh} (h : zSh0 Sh) : Sh.2.1 92 2 = some 95 := zR_at h _ _ _ (by decide +kernel)
theorem R_92_3 {Sh : zSh} (h : zSh0 Sh) : Sh.2.1 92 3 = some 96 := zR_at h _ _ _ (by decide +kernel)
theorem R_0_13 {Sh : zSh} (h : zSh0 Sh) : Sh.2.1 0 13 = some 92 := zR_at h _ _ _ (by decide +kernel)
theorem R_97_0 {Sh : zSh} (h : zSh0 Sh) : Sh.2.1 97 0 = some 98 := zR_at h _ _ _ (by decide +kernel)
theorem R_97_1 {Sh : zSh} (h : zSh0 Sh) : Sh.2.1 97 1 = some 99 := zR_at h _ _ _ (by decide +kernel)
theorem R_97_2 {Sh : zSh} (h : zSh0 Sh) : Sh.2.1 97 2 = some 100 := zR_at h _ _ _ (by decide +kernel)
theorem R_0_14 {Sh : zSh} (h : zSh0 Sh) : Sh.2.1 0 14 = some 97 := zR_at h _ _ _ (by decide +kernel)
theorem R_0_15 {Sh : zSh} (h : zSh0 Sh) : Sh.2.1 0 15 = some 101 := zR_at h _ _ _ (by decide +kernel)
theorem R_102_9 {Sh : zSh} (h : zSh0 Sh) : Sh.2.1 102 9 = some 103 := zR_at h _ _ _ (by decide +kernel)
theorem R_102_18 {Sh : zSh} (h : zSh0 Sh) : Sh.2.1 102 18 = some 104 := zR_at h _ _ _ (by decide +kernel)
theorem R_102_19 {Sh : zSh} (h : zSh0 Sh) : Sh.2.1 102 19 = some 105 := zR_at h _ _ _ (by decide +kernel)
theorem R_102_20 {Sh : zSh} (h : zSh0 Sh) : Sh.2.1 102 20 = some 106 := zR_at h _ _ _ (by decide +kernel)
theorem R_102_21 {Sh : zSh} (h : zSh0 Sh) : Sh.2.1 102 21 = some 107 := zR_at h _ _ _ (by decide +kernel)
theorem R_102_22 {Sh : zSh} (h : zSh0 Sh) : Sh.2.1 102 22 = some 108 := zR_at h _ _ _ (by decide +kernel)
theorem R_102_23 {Sh : zSh} (h : zSh0 Sh) : Sh.2.1 102 23 = some 109 := zR_at h _ _ _ (by decide +kernel)
theorem R_102_24 {Sh : zSh} (h : zSh0 Sh) : Sh.2.1 102 24 = some 110 := zR_at h _ _ _ (by decide +kernel)
theorem R_102_25 {Sh : zSh} (h : zSh0 Sh) : Sh.2.1 102 25 = some 119 := zR_at h _ _ _ (by decide +kernel)
theorem R_102_28 {Sh : zSh} (h : zSh0 Sh) : Sh.2.1 102 28 = some 128 := zR_at h _ _ _ (by decide +kernel)
theorem R_102_29 {Sh : zSh} (h : zSh0 Sh) : Sh.2.1 102 29 = some 129 := zR_at h _ _ _ (by decide +kernel)
theorem R_102_30 {Sh : zSh} (h : zSh0 Sh) : Sh.2.1 102 30 = some 160 := zR_at h _ _ _ (by decide +kernel)
theorem R_102_31 {Sh : zSh} (h : zSh0 Sh) : Sh.2.1 102 31 = some 161 := zR_at h _ _ _ (by decide +kernel)
theorem R_102_39 {Sh : zSh} (h : zSh0 Sh) : Sh.2.1 102 39 = some 162 := zR_at h _ _ _ (by decide +kernel)
theorem R_102_40 {Sh : zSh} (h : zSh0 Sh) : Sh.2.1 102 40 = some 169 := zR_at h _ _ _ (by decide +kernel)
theorem R_102_41 {Sh : zSh} (h : zSh0 Sh) : Sh.2.1 102 41 = some 178 := zR_at h _ _ _ (by decide +kernel)
theorem R_102_42 {Sh : zSh} (h : zSh0 Sh) : Sh.2.1 102 42 = some 182 := zR_at h _ _ _ (by decide +kernel)
theorem R_102_43 {Sh : zSh} (h : zSh0 Sh) : Sh.2.1 102 43 = some 195 := zR_at h _ _ _ (by decide +kernel)
theorem R_102_44 {Sh : zSh} (h : zSh0 Sh) : Sh.2.1 102 44 = some 196 := zR_at h _ _ _ (by decide +kernel)
theorem R_102_45 {Sh : zSh} (h : zSh0 Sh) : Sh.2.1 102 45 = some 197 := zR_at h _ _ _ (by decide +kernel)
theorem R_102_46 {Sh : zSh} (h : zSh0 Sh) : Sh.2.1 102 46 = some 198 := zR_at h _ _ _ (by decide +kernel)
theorem R_102_47 {Sh : zSh} (h : zSh0 Sh) : Sh.2.1 102 47 = some 199 := zR_at h _ _ _ (by decide +kernel)
theorem R_102_50 {Sh : zSh} (h : zSh0 Sh) : Sh.2.1 102 50 = some 200 := zR_at h _ _ _ (by decide +kernel)
theorem R_102_51 {Sh : zSh} (h : zSh0 Sh) : Sh.2.1 102 51 = some 201 := zR_at h _ _ _ (by decide +kernel)
theorem R_102_52 {Sh : zSh} (h : zSh0 Sh) : Sh.2.1 102 52 = some 202 := zR_at h _ _ _ (by decide +kernel)
theorem R_102_54 {Sh : zSh} (h : zSh0 Sh) : Sh.2.1 102 54 = some 203 := zR_at h _ _ _ (by decide +kernel)
theorem R_102_55 {Sh : zSh} (h : zSh0 Sh) : Sh.2.1 102 55 = some 204 := zR_at h _ _ _ (by decide +kernel)
theorem R_102_56 {Sh : zSh} (h : zSh0 Sh) : Sh.2.1 102 56 = some 205 := zR_at h _ _ _ (by decide +kernel)
def zI_0 : List Nat := [3, 12]
theorem I_3 : 3 ∈ zI_0 := List.contains_iff_mem.mp rfl
theorem I_12 : 12 ∈ zI_0 := List.contains_iff_mem.mp rfl
theorem LK_0 {Sh : zSh} (h : zSh0 Sh) {a : Nat} (ha : a ∈ zI_0) : Sh.1[a]? = some (7, 12) := by
  rw [h.1]
  have key : ∀ a ∈ zI_0, zK0[a]? = some (7, 12) := by decide +kernel
  exact key a ha
theorem LR_0_4 {Sh : zSh} (h : zSh0 Sh) {a : Nat} (ha : a ∈ zI_0) : Sh.2.1 a 4 = some (a + 1) := by
  have key : ∀ a ∈ zI_0, zRt.contains (a, 4, a + 1) = true := by decide +kernel
  exact zR_at h _ _ _ (key a ha)
theorem LA_0_4 {Sh : zSh} (h : zSh0 Sh) {a : Nat} (ha : a ∈ zI_0) : Sh.1[a + 1]? = some (0, 12) := by
  rw [h.1]
  have key : ∀ a ∈ zI_0, zK0[a + 1]? = some (0, 12) := by decide +kernel
  exact key a ha
theorem LR_0_5 {Sh : zSh} (h : zSh0 Sh) {a : Nat} (ha : a ∈ zI_0) : Sh.2.1 a 5 = some (a + 2) := by
  have key : ∀ a ∈ zI_0, zRt.contains (a, 5, a + 2) = true := by decide +kernel
  exact zR_at h _ _ _ (key a ha)
theorem LA_0_5 {Sh : zSh} (h : zSh0 Sh) {a : Nat} (ha : a ∈ zI_0) : Sh.1[a + 2]? = some (0, 12) := by
  rw [h.1]
  have key : ∀ a ∈ zI_0, zK0[a + 2]? = some (0, 12) := by decide +kernel
  exact key a ha
theorem LR_0_6 {Sh : zSh} (h : zSh0 Sh) {a : Nat} (ha : a ∈ zI_0) : Sh.2.1 a 6 = some (a + 3) := by
  have key : ∀ a ∈ zI_0, zRt.contains (a, 6, a + 3) = true := by decide +kernel
  exact zR_at h _ _ _ (key a ha)
theorem LA_0_6 {Sh : zSh} (h : zSh0 Sh) {a : Nat} (ha : a ∈ zI_0) : Sh.1[a + 3]? = some (0, 48) := by
  rw [h.1]
  have key : ∀ a ∈ zI_0, zK0[a + 3]? = some (0, 48) := by decide +kernel
  exact key a ha
theorem LR_0_7 {Sh : zSh} (h : zSh0 Sh) {a : Nat} (ha : a ∈ zI_0) : Sh.2.1 a 7 = some (a + 4) := by
  have key : ∀ a ∈ zI_0, zRt.contains (a, 7, a + 4) = true := by decide +kernel
  exact zR_at h _ _ _ (key a ha)
theorem LA_0_7 {Sh : zSh} (h : zSh0 Sh) {a : Nat} (ha : a ∈ zI_0) : Sh.1[a + 4]? = some (0, 8) := by
  rw [h.1]
  have key : ∀ a ∈ zI_0, zK0[a + 4]? = some (0, 8) := by decide +kernel
  exact key a ha
theorem LR_0_8 {Sh : zSh} (h : zSh0 Sh) {a : Nat} (ha : a ∈ zI_0) : Sh.2.1 a 8 = some (a + 5) := by
  have key : ∀ a ∈ zI_0, zRt.contains (a, 8, a + 5) = true := by decide +kernel
  exact zR_at h _ _ _ (key a ha)
theorem LA_0_8 {Sh : zSh} (h : zSh0 Sh) {a : Nat} (ha : a ∈ zI_0) : Sh.1[a + 5]? = some (0, 30) := by
  rw [h.1]
  have key : ∀ a ∈ zI_0, zK0[a + 5]? = some (0, 30) := by decide +kernel
  exact key a ha
theorem LR_0_9 {Sh : zSh} (h : zSh0 Sh) {a : Nat} (ha : a ∈ zI_0) : Sh.2.1 a 9 = some (a + 6) := by
  have key : ∀ a ∈ zI_0, zRt.contains (a, 9, a + 6) = true := by decide +kernel
  exact zR_at h _ _ _ (key a ha)
theorem LA_0_9 {Sh : zSh} (h : zSh0 Sh) {a : Nat} (ha : a ∈ zI_0) : Sh.1[a + 6]? = some (0, 30) := by
  rw [h.1]
  have key : ∀ a ∈ zI_0, zK0[a + 6]? = some (0, 30) := by decide +kernel
  exact key a ha
theorem LR_0_10 {Sh : zSh} (h : zSh0 Sh) {a : Nat} (ha : a ∈ zI_0) : Sh.2.1 a 10 = some (a + 7) := by
  have key : ∀ a ∈ zI_0, zRt.contains (a, 10, a + 7) = true := by decide +kernel
  exact zR_at h _ _ _ (key a ha)
theorem LA_0_10 {Sh : zSh} (h : zSh0 Sh) {a : Nat} (ha : a ∈ zI_0) : Sh.1[a + 7]? = some (0, 30) := by
  rw [h.1]
  have key : ∀ a ∈ zI_0, zK0[a + 7]? = some (0, 30) := by decide +kernel
  exact key a ha
def zI_3 : List Nat := [20, 24, 27, 29, 31, 33, 35, 37, 39, 41, 43, 45, 47, 49, 51, 53, 55]
theorem I_20 : 20 ∈ zI_3 := List.contains_iff_mem.mp rfl
theorem I_24 : 24 ∈ zI_3 := List.contains_iff_mem.mp rfl
theorem I_27 : 27 ∈ zI_3 := List.contains_iff_mem.mp rfl
theorem I_29 : 29 ∈ zI_3 := List.contains_iff_mem.mp rfl
theorem I_31 : 31 ∈ zI_3 := List.contains_iff_mem.mp rfl
theorem I_33 : 33 ∈ zI_3 := List.contains_iff_mem.mp rfl
theorem I_35 : 35 ∈ zI_3 := List.contains_iff_mem.mp rfl
theorem I_37 : 37 ∈ zI_3 := List.contains_iff_mem.mp rfl
theorem I_39 : 39 ∈ zI_3 := List.contains_iff_mem.mp rfl
theorem I_41 : 41 ∈ zI_3 := List.contains_iff_mem.mp rfl
theorem I_43 : 43 ∈ zI_3 := List.contains_iff_mem.mp rfl
theorem I_45 : 45 ∈ zI_3 := List.contains_iff_mem.mp rfl
theorem I_47 : 47 ∈ zI_3 := List.contains_iff_mem.mp rfl
theorem I_49 : 49 ∈ zI_3 := List.contains_iff_mem.mp rfl
theorem I_51 : 51 ∈ zI_3 := List.contains_iff_mem.mp rfl
theorem I_53 : 53 ∈ zI_3 := List.contains_iff_mem.mp rfl
theorem I_55 : 55 ∈ zI_3 := List.contains_iff_mem.mp rfl
theorem LK_3 {Sh : zSh} (h : zSh0 Sh) {a : Nat} (ha : a ∈ zI_3) : Sh.1[a]? = some (10, 2) := by
  rw [h.1]
  have key : ∀ a ∈ zI_3, zK0[a]? = some (10, 2) := by decide +kernel
  exact key a ha
theorem LR_3_0 {Sh : zSh} (h : zSh0 Sh) {a : Nat} (ha : a ∈ zI_3) : Sh.2.1 a 0 = some (a + 1) := by
  have key : ∀ a ∈ zI_3, zRt.contains (a, 0, a + 1) = true := by decide +kernel
  exact zR_at h _ _ _ (key a ha)
theorem LA_3_0 {Sh : zSh} (h : zSh0 Sh) {a : Nat} (ha : a ∈ zI_3) : Sh.1[a + 1]? = some (0, 500) := by
  rw [h.1]
  have key : ∀ a ∈ zI_3, zK0[a + 1]? = some (0, 500) := by decide +kernel
  exact key a ha
def zI_9 : List Nat := [57, 63, 69, 75]
theorem I_57 : 57 ∈ zI_9 := List.contains_iff_mem.mp rfl
theorem I_63 : 63 ∈ zI_9 := List.contains_iff_mem.mp rfl
theorem I_69 : 69 ∈ zI_9 := List.contains_iff_mem.mp rfl
theorem I_75 : 75 ∈ zI_9 := List.contains_iff_mem.mp rfl
theorem LK_9 {Sh : zSh} (h : zSh0 Sh) {a : Nat} (ha : a ∈ zI_9) : Sh.1[a]? = some (16, 8) := by
  rw [h.1]
  have key : ∀ a ∈ zI_9, zK0[a]? = some (16, 8) := by decide +kernel
  exact key a ha
theorem LR_9_3 {Sh : zSh} (h : zSh0 Sh) {a : Nat} (ha : a ∈ zI_9) : Sh.2.1 a 3 = some (a + 1) := by
  have key : ∀ a ∈ zI_9, zRt.contains (a, 3, a + 1) = true := by decide +kernel
  exact zR_at h _ _ _ (key a ha)
theorem LA_9_3 {Sh : zSh} (h : zSh0 Sh) {a : Nat} (ha : a ∈ zI_9) : Sh.1[a + 1]? = some (0, 6) := by
  rw [h.1]
  have key : ∀ a ∈ zI_9, zK0[a + 1]? = some (0, 6) := by decide +kernel
  exact key a ha
theorem LR_9_4 {Sh : zSh} (h : zSh0 Sh) {a : Nat} (ha : a ∈ zI_9) : Sh.2.1 a 4 = some (a + 2) := by
  have key : ∀ a ∈ zI_9, zRt.contains (a, 4, a + 2) = true := by decide +kernel
  exact zR_at h _ _ _ (key a ha)
theorem LA_9_4 {Sh : zSh} (h : zSh0 Sh) {a : Nat} (ha : a ∈ zI_9) : Sh.1[a + 2]? = some (0, 6) := by
  rw [h.1]
  have key : ∀ a ∈ zI_9, zK0[a + 2]? = some (0, 6) := by decide +kernel
  exact key a ha
theorem LR_9_5 {Sh : zSh} (h : zSh0 Sh) {a : Nat} (ha : a ∈ zI_9) : Sh.2.1 a 5 = some (a + 3) := by
  have key : ∀ a ∈ zI_9, zRt.contains (a, 5, a + 3) = true := by decide +kernel
  exact zR_at h _ _ _ (key a ha)
theorem LA_9_5 {Sh : zSh} (h : zSh0 Sh) {a : Nat} (ha : a ∈ zI_9) : Sh.1[a + 3]? = some (0, 8) := by
  rw [h.1]
  have key : ∀ a ∈ zI_9, zK0[a + 3]? = some (0, 8) := by decide +kernel
  exact key a ha
theorem LR_9_6 {Sh : zSh} (h : zSh0 Sh) {a : Nat} (ha : a ∈ zI_9) : Sh.2.1 a 6 = some (a + 4) := by
  have key : ∀ a ∈ zI_9, zRt.contains (a, 6, a + 4) = true := by decide +kernel
  exact zR_at h _ _ _ (key a ha)
theorem LA_9_6 {Sh : zSh} (h : zSh0 Sh) {a : Nat} (ha : a ∈ zI_9) : Sh.1[a + 4]? = some (0, 8) := by
  rw [h.1]
  have key : ∀ a ∈ zI_9, zK0[a + 4]? = some (0, 8) := by decide +kernel
  exact key a ha
theorem LR_9_7 {Sh : zSh} (h : zSh0 Sh) {a : Nat} (ha : a ∈ zI_9) : Sh.2.1 a 7 = some (a + 5) := by
  have key : ∀ a ∈ zI_9, zRt.contains (a, 7, a + 5) = true := by decide +kernel
  exact zR_at h _ _ _ (key a ha)
theorem LA_9_7 {Sh : zSh} (h : zSh0 Sh) {a : Nat} (ha : a ∈ zI_9) : Sh.1[a + 5]? = some (0, 8) := by
  rw [h.1]
  have key : ∀ a ∈ zI_9, zK0[a + 5]? = some (0, 8) := by decide +kernel
  exact key a ha
def zI_10 : List Nat := [81, 86]
theorem I_81 : 81 ∈ zI_10 := List.contains_iff_mem.mp rfl
theorem I_86 : 86 ∈ zI_10 := List.contains_iff_mem.mp rfl
theorem LK_10 {Sh : zSh} (h : zSh0 Sh) {a : Nat} (ha : a ∈ zI_10) : Sh.1[a]? = some (17, 8) := by
  rw [h.1]
  have key : ∀ a ∈ zI_10, zK0[a]? = some (17, 8) := by decide +kernel
  exact key a ha
theorem LR_10_0 {Sh : zSh} (h : zSh0 Sh) {a : Nat} (ha : a ∈ zI_10) : Sh.2.1 a 0 = some 20 := by
  have key : ∀ a ∈ zI_10, zRt.contains (a, 0, 20) = true := by decide +kernel
  exact zR_at h _ _ _ (key a ha)
theorem LR_10_1 {Sh : zSh} (h : zSh0 Sh) {a : Nat} (ha : a ∈ zI_10) : Sh.2.1 a 1 = some (a + 1) := by
  have key : ∀ a ∈ zI_10, zRt.contains (a, 1, a + 1) = true := by decide +kernel
  exact zR_at h _ _ _ (key a ha)
theorem LA_10_1 {Sh : zSh} (h : zSh0 Sh) {a : Nat} (ha : a ∈ zI_10) : Sh.1[a + 1]? = some (0, 12) := by
  rw [h.1]
  have key : ∀ a ∈ zI_10, zK0[a + 1]? = some (0, 12) := by decide +kernel
  exact key a ha
theorem LR_10_2 {Sh : zSh} (h : zSh0 Sh) {a : Nat} (ha : a ∈ zI_10) : Sh.2.1 a 2 = some (a + 2) := by
  have key : ∀ a ∈ zI_10, zRt.contains (a, 2, a + 2) = true := by decide +kernel
  exact zR_at h _ _ _ (key a ha)
theorem LA_10_2 {Sh : zSh} (h : zSh0 Sh) {a : Nat} (ha : a ∈ zI_10) : Sh.1[a + 2]? = some (0, 12) := by
  rw [h.1]
  have key : ∀ a ∈ zI_10, zK0[a + 2]? = some (0, 12) := by decide +kernel
  exact key a ha
theorem LR_10_3 {Sh : zSh} (h : zSh0 Sh) {a : Nat} (ha : a ∈ zI_10) : Sh.2.1 a 3 = some (a + 3) := by
  have key : ∀ a ∈ zI_10, zRt.contains (a, 3, a + 3) = true := by decide +kernel
  exact zR_at h _ _ _ (key a ha)
theorem LA_10_3 {Sh : zSh} (h : zSh0 Sh) {a : Nat} (ha : a ∈ zI_10) : Sh.1[a + 3]? = some (0, 144) := by
  rw [h.1]
  have key : ∀ a ∈ zI_10, zK0[a + 3]? = some (0, 144) := by decide +kernel
  exact key a ha
theorem SI_23 (j : Nat) (hj : j < 15) : 27 + 2 * j ∈ zI_3 := by
  have key : ∀ j < 15, zI_3.contains (27 + 2 * j) = true := by decide +kernel
  exact List.contains_iff_mem.mp (key j hj)
theorem RW_23 {Sh : zSh} (h : zSh0 Sh) (j : Nat) (hj : j < 15) : Sh.2.1 23 j = some (27 + 2 * j) := by
  have key : ∀ j < 15, zRt.contains (23, j, 27 + 2 * j) = true := by decide +kernel
  exact zR_at h _ _ _ (key j hj)
theorem RW_110 {Sh : zSh} (h : zSh0 Sh) (j : Nat) (hj : j < 8) : Sh.2.1 110 j = some (111 + j) := by
  have key : ∀ j < 8, zRt.contains (110, j, 111 + j) = true := by decide +kernel
  exact zR_at h _ _ _ (key j hj)
theorem RK_110 {Sh : zSh} (h : zSh0 Sh) (j : Nat) (hj : j < 8) : Sh.1[111 + j]? = some (0, 6) := by
  rw [h.1]
  have key : ∀ j < 8, zK0[111 + j]? = some (0, 6) := by decide +kernel
  exact key j hj
theorem RW_119 {Sh : zSh} (h : zSh0 Sh) (j : Nat) (hj : j < 8) : Sh.2.1 119 j = some (120 + j) := by
  have key : ∀ j < 8, zRt.contains (119, j, 120 + j) = true := by decide +kernel
  exact zR_at h _ _ _ (key j hj)
theorem RK_119 {Sh : zSh} (h : zSh0 Sh) (j : Nat) (hj : j < 8) : Sh.1[120 + j]? = some (0, 6) := by
  rw [h.1]
  have key : ∀ j < 8, zK0[120 + j]? = some (0, 6) := by decide +kernel
  exact key j hj
theorem RW_129 {Sh : zSh} (h : zSh0 Sh) (j : Nat) (hj : j < 30) : Sh.2.1 129 j = some (130 + j) := by
  have key : ∀ j < 30, zRt.contains (129, j, 130 + j) = true := by decide +kernel
  exact zR_at h _ _ _ (key j hj)
theorem RK_129 {Sh : zSh} (h : zSh0 Sh) (j : Nat) (hj : j < 30) : Sh.1[130 + j]? = some (0, 501) := by
  rw [h.1]
  have key : ∀ j < 30, zK0[130 + j]? = some (0, 501) := by decide +kernel
  exact key j hj
theorem RW_162 {Sh : zSh} (h : zSh0 Sh) (j : Nat) (hj : j < 6) : Sh.2.1 162 j = some (163 + j) := by
  have key : ∀ j < 6, zRt.contains (162, j, 163 + j) = true := by decide +kernel
  exact zR_at h _ _ _ (key j hj)
theorem RK_162 {Sh : zSh} (h : zSh0 Sh) (j : Nat) (hj : j < 6) : Sh.1[163 + j]? = some (0, 2) := by
  rw [h.1]
  have key : ∀ j < 6, zK0[163 + j]? = some (0, 2) := by decide +kernel
  exact key j hj
theorem RW_169 {Sh : zSh} (h : zSh0 Sh) (j : Nat) (hj : j < 8) : Sh.2.1 169 j = some (170 + j) := by
  have key : ∀ j < 8, zRt.contains (169, j, 170 + j) = true := by decide +kernel
  exact zR_at h _ _ _ (key j hj)
theorem RK_169 {Sh : zSh} (h : zSh0 Sh) (j : Nat) (hj : j < 8) : Sh.1[170 + j]? = some (0, 3) := by
  rw [h.1]
  have key : ∀ j < 8, zK0[170 + j]? = some (0, 3) := by decide +kernel
  exact key j hj
theorem RW_178 {Sh : zSh} (h : zSh0 Sh) (j : Nat) (hj : j < 3) : Sh.2.1 178 j = some (179 + j) := by
  have key : ∀ j < 3, zRt.contains (178, j, 179 + j) = true := by decide +kernel
  exact zR_at h _ _ _ (key j hj)
theorem RK_178 {Sh : zSh} (h : zSh0 Sh) (j : Nat) (hj : j < 3) : Sh.1[179 + j]? = some (0, 64) := by
  rw [h.1]
  have key : ∀ j < 3, zK0[179 + j]? = some (0, 64) := by decide +kernel
  exact key j hj
theorem RW_182 {Sh : zSh} (h : zSh0 Sh) (j : Nat) (hj : j < 12) : Sh.2.1 182 j = some (183 + j) := by
  have key : ∀ j < 12, zRt.contains (182, j, 183 + j) = true := by decide +kernel
  exact zR_at h _ _ _ (key j hj)
theorem RK_182 {Sh : zSh} (h : zSh0 Sh) (j : Nat) (hj : j < 12) : Sh.1[183 + j]? = some (3, 12) := by
  rw [h.1]
  have key : ∀ j < 12, zK0[183 + j]? = some (3, 12) := by decide +kernel
  exact key j hj
theorem str_X11_384 : ((zR11, 384, "n is 0 to the bytes of the tape", 17) : String × Nat × String × Nat) ∈ z_str := List.mem_of_getElem? (i := 0) rfl
theorem str_X1_43 : ((zR1, 43, "board", 0) : String × Nat × String × Nat) ∈ z_str := List.mem_of_getElem? (i := 1) rfl
theorem str_X1_56 : ((zR1, 56, "sign", 1) : String × Nat × String × Nat) ∈ z_str := List.mem_of_getElem? (i := 2) rfl
theorem str_X1_64 : ((zR1, 64, "across", 2) : String × Nat × String × Nat) ∈ z_str := List.mem_of_getElem? (i := 3) rfl
theorem str_X1_73 : ((zR1, 73, "down", 3) : String × Nat × String × Nat) ∈ z_str := List.mem_of_getElem? (i := 4) rfl
theorem str_X1_75 : ((zR1, 75, "clean", 4) : String × Nat × String × Nat) ∈ z_str := List.mem_of_getElem? (i := 5) rfl
theorem str_X1_79 : ((zR1, 79, "turned", 5) : String × Nat × String × Nat) ∈ z_str := List.mem_of_getElem? (i := 6) rfl
theorem str_X1_85 : ((zR1, 85, "mirror", 6) : String × Nat × String × Nat) ∈ z_str := List.mem_of_getElem? (i := 7) rfl
theorem str_X1_87 : ((zR1, 87, "family", 7) : String × Nat × String × Nat) ∈ z_str := List.mem_of_getElem? (i := 8) rfl
theorem str_X1_92 : ((zR1, 92, "word", 8) : String × Nat × String × Nat) ∈ z_str := List.mem_of_getElem? (i := 9) rfl
theorem str_X7_93 : ((zR7, 93, "not", 9) : String × Nat × String × Nat) ∈ z_str := List.mem_of_getElem? (i := 10) rfl
theorem str_X7_99 : ((zR7, 99, "side", 10) : String × Nat × String × Nat) ∈ z_str := List.mem_of_getElem? (i := 11) rfl
theorem str_X7_103 : ((zR7, 103, "corner", 11) : String × Nat × String × Nat) ∈ z_str := List.mem_of_getElem? (i := 12) rfl
theorem str_X7_107 : ((zR7, 107, "any", 12) : String × Nat × String × Nat) ∈ z_str := List.mem_of_getElem? (i := 13) rfl
theorem str_X7_111 : ((zR7, 111, "front", 13) : String × Nat × String × Nat) ∈ z_str := List.mem_of_getElem? (i := 14) rfl
theorem str_X7_115 : ((zR7, 115, "fog", 14) : String × Nat × String × Nat) ∈ z_str := List.mem_of_getElem? (i := 15) rfl
theorem str_X7_81 : ((zR7, 81, "and", 15) : String × Nat × String × Nat) ∈ z_str := List.mem_of_getElem? (i := 16) rfl
theorem str_X7_68 : ((zR7, 68, "or", 16) : String × Nat × String × Nat) ∈ z_str := List.mem_of_getElem? (i := 17) rfl
theorem str_X11_200 : ((zR11, 200, "what is 0 to 5", 18) : String × Nat × String × Nat) ∈ z_str := List.mem_of_getElem? (i := 18) rfl
theorem str_X11_388 : ((zR11, 388, "no such sign", 19) : String × Nat × String × Nat) ∈ z_str := List.mem_of_getElem? (i := 19) rfl
theorem str_X11_217 : ((zR11, 217, "no such word", 20) : String × Nat × String × Nat) ∈ z_str := List.mem_of_getElem? (i := 20) rfl
theorem str_X11_220 : ((zR11, 220, "a place is 0 to 5", 21) : String × Nat × String × Nat) ∈ z_str := List.mem_of_getElem? (i := 21) rfl
theorem str_X11_391 : ((zR11, 391, "no such cover", 22) : String × Nat × String × Nat) ∈ z_str := List.mem_of_getElem? (i := 22) rfl
theorem str_X11_232 : ((zR11, 232, "d is 0 to 3", 23) : String × Nat × String × Nat) ∈ z_str := List.mem_of_getElem? (i := 23) rfl
theorem str_X11_234 : ((zR11, 234, "one sign is not confused with itself", 24) : String × Nat × String × Nat) ∈ z_str := List.mem_of_getElem? (i := 24) rfl
theorem str_X11_402 : ((zR11, 402, "no such what", 25) : String × Nat × String × Nat) ∈ z_str := List.mem_of_getElem? (i := 25) rfl
theorem str_X11_396 : ((zR11, 396, "paint beside the board", 26) : String × Nat × String × Nat) ∈ z_str := List.mem_of_getElem? (i := 26) rfl
theorem str_X11_303 : ((zR11, 303, "a family is 0 to 3", 27) : String × Nat × String × Nat) ∈ z_str := List.mem_of_getElem? (i := 27) rfl
theorem str_X11_344 : ((zR11, 344, "x is 0 to 99, y 1 to 99", 28) : String × Nat × String × Nat) ∈ z_str := List.mem_of_getElem? (i := 28) rfl
theorem str_X11_398 : ((zR11, 398, "no such standing one", 29) : String × Nat × String × Nat) ∈ z_str := List.mem_of_getElem? (i := 29) rfl
theorem str_X11_400 : ((zR11, 400, "s is 0 to 99", 30) : String × Nat × String × Nat) ∈ z_str := List.mem_of_getElem? (i := 30) rfl
def zFU : Nat := 4294967296
/-- a value by a name -/
def zlet {α β : Type} (a : α) (f : α → β) : β := f a
/-- a boolean looked at -/
def zcb {α : Type} (x : Int32) (a : Option α) : Option α := if x = 0 ∨ x = 1 then a else none
/-- the places of a copy looked at -/
def zcp {α : Type} (sp dp n : Int32) (n0 n1 : Nat) (a : Option α) : Option α := if (¬ sp < 0 ∧ ¬ dp < 0 ∧ ¬ n < 0) ∧ sp.toNatClampNeg + n.toNatClampNeg ≤ n0 ∧ dp.toNatClampNeg + n.toNatClampNeg ≤ n1 then a else none
def zexn (e : Nat) : String := if e = 1 then "java/lang/IllegalArgumentException" else if e = 2 then "java/lang/IndexOutOfBoundsException" else "java/util/NoSuchElementException"
def oP (Sh : zSh) (D : zD) (c : Option Int32) : Option (zOut × zM) := c.map fun v => (.inl (some (.int v)), (Sh, D))
def oI (Sh : zSh) (c : Option (Int32 × zD)) : Option (zOut × zM) := c.map fun q => (.inl (some (.int q.1)), (Sh, q.2))
def oV (Sh : zSh) (c : Option zD) : Option (zOut × zM) := c.map fun D => (.inl none, (Sh, D))
def oA (Sh : zSh) (D : zD) (c : Option Nat) : Option (zOut × zM) := c.map fun a => (.inl (some (.ref a)), (Sh, D))
def oN (Sh : zSh) (D : zD) (c : Option Nat) : Option (zOut × zM) := c.map fun e => if e = 0 then (.inl none, (Sh, D)) else (.inr (zexn e), zEx (Sh, D))
def oXP (Sh : zSh) (D : zD) (c : Option (Nat ⊕ Int32)) : Option (zOut × zM) := c.map fun q => match q with
  | .inl e => (.inr (zexn e), zEx (Sh, D))
  | .inr v => (.inl (some (.int v)), (Sh, D))
def oXI (Sh : zSh) (c : Option ((Nat ⊕ Int32) × zD)) : Option (zOut × zM) := c.map fun q => match q.1 with
  | .inl e => (.inr (zexn e), zEx (Sh, q.2))
  | .inr v => (.inl (some (.int v)), (Sh, q.2))
section ROWS7
variable {X : zX} {Y Y2 : zY} {d pc : Nat} {ls : List (Nat × Value)} {st av : List Value} {M : zM} {r r1 : Option (zOut × zM)} {Sh : zSh} {D : zD} {α β : Type} {f : α → Option (zOut × zM)}
theorem Rn_none (h : r = none) : Rn X Y d pc ls st M r := by
  intro o M' hr
  rw [h] at hr
  cases hr
theorem r_pick (ps : List Nat) {ls' : List (Nat × Value)} (h : lv_pick ls ps = ls') (k : Rn X Y d pc ls' st M r) : Rn X Y d pc ls st M r := by
  subst h
  intro o M' hr p e Rm s m args below meth c mc ms E H locs cells slots la S
  refine k o M' hr p e Rm s m args below meth c mc ms E H locs cells slots la ⟨S.1, S.2.1, S.2.2.1, ⟨S.2.2.2.1.1, S.2.2.2.1.2.1, fun q hq => ?_⟩, S.2.2.2.2⟩
  obtain ⟨q0, h0, rfl⟩ := List.mem_map.mp hq
  obtain ⟨i, -, hi⟩ := List.mem_filterMap.mp h0
  exact S.2.2.2.1.2.2 _ (List.mem_map.mpr ⟨q0, List.mem_of_getElem? hi, rfl⟩)
end ROWS7
section ROWS8
variable {X : zX} {Y Y2 : zY} {d pc : Nat} {ls : List (Nat × Value)} {st av : List Value} {M : zM} {r r1 : Option (zOut × zM)} {Sh : zSh} {D : zD} {α β : Type} {f : Option α → Option (zOut × zM)}
theorem r_leti {e : Int32} {k : Int32 → Option α} (h : ∀ x, Rn X Y d pc ls (.int x :: st) M (f (k x))) : Rn X Y d pc ls (.int e :: st) M (f (zlet e k)) := h e
theorem r_letj {e : Int64} {k : Int64 → Option α} (h : ∀ x, Rn X Y d pc ls (.long x :: st) M (f (k x))) : Rn X Y d pc ls (.long e :: st) M (f (zlet e k)) := h e
theorem r_letD {e : zD} {k : zD → Option α} (h : ∀ x, Rn X Y d pc ls st (Sh, x) (f (k x))) : Rn X Y d pc ls st (Sh, e) (f (zlet e k)) := h e
theorem r_ck {i : Int32} {n : Nat} {a : Option α} (hf : f none = none) (h : vp_in i n → Rn X Y d pc ls st M (f a)) : Rn X Y d pc ls st M (f (zck i n a)) := by
  by_cases hc : i < 0 ∨ n ≤ i.toNatClampNeg
  · rw [zck, if_pos hc]
    exact Rn_none hf
  · rw [zck, if_neg hc]
    exact h hc
theorem r_cb {x : Int32} {a : Option α} (hf : f none = none) (h : (x = 0 ∨ x = 1) → Rn X Y d pc ls st M (f a)) : Rn X Y d pc ls st M (f (zcb x a)) := by
  by_cases hc : x = 0 ∨ x = 1
  · rw [zcb, if_pos hc]
    exact h hc
  · rw [zcb, if_neg hc]
    exact Rn_none hf
theorem r_cp {sp dp n : Int32} {n0 n1 : Nat} {a : Option α} (hf : f none = none) (h : ((¬ sp < 0 ∧ ¬ dp < 0 ∧ ¬ n < 0) ∧ sp.toNatClampNeg + n.toNatClampNeg ≤ n0 ∧ dp.toNatClampNeg + n.toNatClampNeg ≤ n1) → Rn X Y d pc ls st M (f a)) : Rn X Y d pc ls st M (f (zcp sp dp n n0 n1 a)) := by
  by_cases hc : (¬ sp < 0 ∧ ¬ dp < 0 ∧ ¬ n < 0) ∧ sp.toNatClampNeg + n.toNatClampNeg ≤ n0 ∧ dp.toNatClampNeg + n.toNatClampNeg ≤ n1
  · rw [zcp, if_pos hc]
    exact h hc
  · rw [zcp, if_neg hc]
    exact Rn_none hf
theorem q_gI {idx ci j N k : Nat} (g : zGf (yO Y) idx ci j N) (hk : Sh.1[k]? = some (ci + 7, N)) (hf : zrf ci j = false) (dg : decode (yB Y) pc = .ok (.getfield idx, 3)) (kk : Rn X Y d (pc + 3) ls (.int (gI D k j) :: st) (Sh, D) r) : Rn X Y d pc ls (.ref k :: st) (Sh, D) r := r_getI (M := (Sh, D)) g hk hf dg kk
theorem q_gIn {idx ci j N k : Nat} (g : zGn (yO Y) idx ci j N) (hk : Sh.1[k]? = some (ci + 7, N)) (hf : zrf ci j = false) (dg : decode (yB Y) pc = .ok (.getfield idx, 3)) (kk : Rn X Y d (pc + 3) ls (.int (gI D k j) :: st) (Sh, D) r) : Rn X Y d pc ls (.ref k :: st) (Sh, D) r := r_getIn (M := (Sh, D)) g hk hf dg kk
theorem q_iald {k n : Nat} {i : Int32} {j : Nat} (hk : Sh.1[k]? = some (0, n)) (hin : vp_in i n) (hj : i.toNatClampNeg = j) (dg : decode (yB Y) pc = .ok (.iaload, 1)) (kk : Rn X Y d (pc + 1) ls (.int (gI D k j) :: st) (Sh, D) r) : Rn X Y d pc ls (.int i :: .ref k :: st) (Sh, D) r := by
  subst hj
  exact r_iald (M := (Sh, D)) hk hin dg kk
theorem q_bald {k n : Nat} {i : Int32} {j : Nat} (hk : Sh.1[k]? = some (2, n)) (hin : vp_in i n) (hj : i.toNatClampNeg = j) (dg : decode (yB Y) pc = .ok (.baload, 1)) (kk : Rn X Y d (pc + 1) ls (.int (gI D k j) :: st) (Sh, D) r) : Rn X Y d pc ls (.int i :: .ref k :: st) (Sh, D) r := by
  subst hj
  exact r_bald (M := (Sh, D)) hk hin dg kk
theorem q_zald {k n : Nat} {i : Int32} {j : Nat} (hk : Sh.1[k]? = some (3, n)) (hin : vp_in i n) (hj : i.toNatClampNeg = j) (dg : decode (yB Y) pc = .ok (.baload, 1)) (kk : Rn X Y d (pc + 1) ls (.int (gI D k j) :: st) (Sh, D) r) : Rn X Y d pc ls (.int i :: .ref k :: st) (Sh, D) r := by
  subst hj
  exact r_zald (M := (Sh, D)) hk hin dg kk
theorem q_lald {k n : Nat} {i : Int32} {j : Nat} (hk : Sh.1[k]? = some (1, n)) (hin : vp_in i n) (hj : i.toNatClampNeg = j) (dg : decode (yB Y) pc = .ok (.laload, 1)) (kk : Rn X Y d (pc + 1) ls (.long (gL D k j) :: st) (Sh, D) r) : Rn X Y d pc ls (.int i :: .ref k :: st) (Sh, D) r := by
  subst hj
  exact r_lald (M := (Sh, D)) hk hin dg kk
theorem q_aald {k n t q : Nat} {i : Int32} {ty : FieldType} {j : Nat} (hk : Sh.1[k]? = some (t, n)) (ht : (t = 4 ∧ ty = .array .int) ∨ (t = 5 ∧ ty = .array .boolean) ∨ (t = 6 ∧ ty = .object "CoveredSigns$Covers")) (hin : vp_in i n) (hj : i.toNatClampNeg = j) (hq : Sh.2.1 k j = some q) (dg : decode (yB Y) pc = .ok (.aaload, 1)) (kk : Rn X Y d (pc + 1) ls (.ref q :: st) (Sh, D) r) : Rn X Y d pc ls (.int i :: .ref k :: st) (Sh, D) r := by
  subst hj
  exact r_aald (M := (Sh, D)) hk ht hin hq dg kk
theorem z_lt {i : Int32} {n : Nat} (h : vp_in i n) : i.toNatClampNeg < n := Nat.not_le.mp fun q => h (Or.inr q)
theorem q_iast {k n : Nat} {i x : Int32} {j : Nat} (hk : Sh.1[k]? = some (0, n)) (hin : vp_in i n) (hj : i.toNatClampNeg = j) (dg : decode (yB Y) pc = .ok (.iastore, 1)) (kk : Rn X Y d (pc + 1) ls st (Sh, sI D k j x) r) : Rn X Y d pc ls (.int x :: .int i :: .ref k :: st) (Sh, D) r := by
  subst hj
  exact r_iast hk hin dg kk
theorem q_bast {k n : Nat} {i x : Int32} {j : Nat} (hk : Sh.1[k]? = some (2, n)) (hin : vp_in i n) (hj : i.toNatClampNeg = j) (dg : decode (yB Y) pc = .ok (.bastore, 1)) (kk : Rn X Y d (pc + 1) ls st (Sh, sI D k j (vp_nar .byte x)) r) : Rn X Y d pc ls (.int x :: .int i :: .ref k :: st) (Sh, D) r := by
  subst hj
  exact r_bast hk hin dg kk
theorem q_zast {k n : Nat} {i x : Int32} {j : Nat} (hk : Sh.1[k]? = some (3, n)) (hin : vp_in i n) (hj : i.toNatClampNeg = j) (hx : x = 0 ∨ x = 1) (dg : decode (yB Y) pc = .ok (.bastore, 1)) (kk : Rn X Y d (pc + 1) ls st (Sh, sI D k j x) r) : Rn X Y d pc ls (.int x :: .int i :: .ref k :: st) (Sh, D) r := by
  subst hj
  exact r_zast hk hin hx dg kk
theorem q_last {k n : Nat} {i : Int32} {x : Int64} {j : Nat} (hk : Sh.1[k]? = some (1, n)) (hin : vp_in i n) (hj : i.toNatClampNeg = j) (dg : decode (yB Y) pc = .ok (.lastore, 1)) (kk : Rn X Y d (pc + 1) ls st (Sh, sL D k j x) r) : Rn X Y d pc ls (.long x :: .int i :: .ref k :: st) (Sh, D) r := by
  subst hj
  exact r_last hk hin dg kk
theorem q_acopy {idx k0 k1 n0 n1 : Nat} {sp dp n : Int32} (w : Cond.methodLink (yO Y) idx arraycopyName ∈ z_T) (hk0 : Sh.1[k0]? = some (0, n0)) (hk1 : Sh.1[k1]? = some (0, n1)) (hx : Sh.2.2 ≠ 0) (h : (¬ sp < 0 ∧ ¬ dp < 0 ∧ ¬ n < 0) ∧ sp.toNatClampNeg + n.toNatClampNeg ≤ n0 ∧ dp.toNatClampNeg + n.toNatClampNeg ≤ n1) (hd : 4 ≤ d + 1) (hst : (st.map fun v => v.category).sum ≤ 8) (dg : decode (yB Y) pc = .ok (.invokestatic idx, 3)) (kk : Rn X Y (d + 1) (pc + 3) ls st (Sh, sC D k0 k1 sp.toNatClampNeg dp.toNatClampNeg n.toNatClampNeg) r) : Rn X Y (d + 1) pc ls (.int n :: .int dp :: .ref k1 :: .int sp :: .ref k0 :: st) (Sh, D) r :=
  r_acopy w hk0 hk1 hx h.1.1 h.1.2.1 h.1.2.2 h.2.1 h.2.2 hd hst dg kk
theorem zGr.same0 {o : Option (zOut × zM)} {S1 : zSh} {D1 : zD} (h : ∀ o' M', o = some (o', M') → M'.1.1 = S1.1 ∧ S1.2.2 ≤ M'.1.2.2) : zGr (S1, D1) o := by
  intro o' M' e
  obtain ⟨h1, h2⟩ := h o' M' e
  constructor
  · show S1.1.length + S1.2.2 ≤ M'.1.1.length + M'.1.2.2
    rw [h1]; omega
  · show (S1.1.map (fun q => q.2)).sum + 6 * S1.2.2 ≤ (M'.1.1.map (fun q => q.2)).sum + 6 * M'.1.2.2
    rw [h1]; omega
/-- what the wrappers keep of the shape -/
def zKp (Sh : zSh) (f : Option α → Option (zOut × zM)) : Prop := f none = none ∧ ∀ c o' M', f c = some (o', M') → M'.1.1 = Sh.1 ∧ Sh.2.2 ≤ M'.1.2.2
theorem kp_P : zKp Sh (oP Sh D) := ⟨rfl, fun c o' M' h => by
  cases c with
  | none => cases h
  | some v => cases h; exact ⟨rfl, Nat.le_refl _⟩⟩
theorem kp_I : zKp Sh (oI Sh) := ⟨rfl, fun c o' M' h => by
  cases c with
  | none => cases h
  | some v => cases h; exact ⟨rfl, Nat.le_refl _⟩⟩
theorem kp_V : zKp Sh (oV Sh) := ⟨rfl, fun c o' M' h => by
  cases c with
  | none => cases h
  | some v => cases h; exact ⟨rfl, Nat.le_refl _⟩⟩
theorem kp_A : zKp Sh (oA Sh D) := ⟨rfl, fun c o' M' h => by
  cases c with
  | none => cases h
  | some v => cases h; exact ⟨rfl, Nat.le_refl _⟩⟩
theorem kp_N : zKp Sh (oN Sh D) := ⟨rfl, fun c o' M' h => by
  cases c with
  | none => cases h
  | some v =>
    simp only [oN, Option.map_some] at h
    split at h <;> cases h
    · exact ⟨rfl, Nat.le_refl _⟩
    · exact ⟨rfl, Nat.le_succ _⟩⟩
theorem kp_XP : zKp Sh (oXP Sh D) := ⟨rfl, fun c o' M' h => by
  cases c with
  | none => cases h
  | some v =>
    cases v <;> cases h
    · exact ⟨rfl, Nat.le_succ _⟩
    · exact ⟨rfl, Nat.le_refl _⟩⟩
theorem kp_XI : zKp Sh (oXI Sh) := ⟨rfl, fun c o' M' h => by
  cases c with
  | none => cases h
  | some v =>
    obtain ⟨v, D1⟩ := v
    cases v <;> cases h
    · exact ⟨rfl, Nat.le_succ _⟩
    · exact ⟨rfl, Nat.le_refl _⟩⟩
theorem zSd_none {c : Option β} {g : Option β → Option (zOut × zM)} (h : g none = none) : g c = none → c = none ∨ True := fun _ => Or.inr trivial
theorem q_cP {c : Option Int32} {k : Int32 → Option α} (hR : zRun X Y d pc av st Y2 (Sh, D)) (hS : Sd X Y2 d av (Sh, D) (oP Sh D c)) (hf : zKp Sh f) (hk : ∀ x, c = some x → Rn X Y (d + 1) (pc + 3) ls (.int x :: st) (Sh, D) (f (k x))) : Rn X Y (d + 1) pc ls (av.reverse ++ st) (Sh, D) (f (c.bind k)) := by
  cases c with
  | none => exact Rn_none hf.1
  | some x =>
    refine r_call (d2 := 0) hR hS (fun h => by cases h) (fun v M1 h => ?_) (fun E M1 h => by cases h)
    cases h
    exact ⟨⟨Nat.le_refl _, Nat.le_refl _⟩, zGr.same0 (fun o' M' e => hf.2 _ _ _ e), hk x rfl⟩
theorem q_cI {c : Option (Int32 × zD)} {k : Int32 × zD → Option α} (hR : zRun X Y d pc av st Y2 (Sh, D)) (hS : Sd X Y2 d av (Sh, D) (oI Sh c)) (hf : zKp Sh f) (hk : ∀ q, c = some q → Rn X Y (d + 1) (pc + 3) ls (.int q.1 :: st) (Sh, q.2) (f (k q))) : Rn X Y (d + 1) pc ls (av.reverse ++ st) (Sh, D) (f (c.bind k)) := by
  cases c with
  | none => exact Rn_none hf.1
  | some q =>
    refine r_call (d2 := 0) hR hS (fun h => by cases h) (fun v M1 h => ?_) (fun E M1 h => by cases h)
    cases h
    exact ⟨⟨Nat.le_refl _, Nat.le_refl _⟩, zGr.same0 (fun o' M' e => hf.2 _ _ _ e), hk q rfl⟩
theorem q_cV {c : Option zD} {k : zD → Option α} (hR : zRun X Y d pc av st Y2 (Sh, D)) (hS : Sd X Y2 d av (Sh, D) (oV Sh c)) (hf : zKp Sh f) (hk : ∀ D1, c = some D1 → Rn X Y (d + 1) (pc + 3) ls st (Sh, D1) (f (k D1))) : Rn X Y (d + 1) pc ls (av.reverse ++ st) (Sh, D) (f (c.bind k)) := by
  cases c with
  | none => exact Rn_none hf.1
  | some q =>
    refine r_call (d2 := 0) hR hS (fun h => by cases h) (fun v M1 h => ?_) (fun E M1 h => by cases h)
    cases h
    exact ⟨⟨Nat.le_refl _, Nat.le_refl _⟩, zGr.same0 (fun o' M' e => hf.2 _ _ _ e), hk q rfl⟩
theorem q_cA {c : Option Nat} {k : Nat → Option α} (hR : zRun X Y d pc av st Y2 (Sh, D)) (hS : Sd X Y2 d av (Sh, D) (oA Sh D c)) (hf : zKp Sh f) (hk : ∀ a, c = some a → Rn X Y (d + 1) (pc + 3) ls (.ref a :: st) (Sh, D) (f (k a))) : Rn X Y (d + 1) pc ls (av.reverse ++ st) (Sh, D) (f (c.bind k)) := by
  cases c with
  | none => exact Rn_none hf.1
  | some q =>
    refine r_call (d2 := 0) hR hS (fun h => by cases h) (fun v M1 h => ?_) (fun E M1 h => by cases h)
    cases h
    exact ⟨⟨Nat.le_refl _, Nat.le_refl _⟩, zGr.same0 (fun o' M' e => hf.2 _ _ _ e), hk q rfl⟩
theorem q_cN {c : Option Nat} {b : Option α} (t : Nat → Option α) (hR : zRun X Y d pc av st Y2 (Sh, D)) (hS : Sd X Y2 d av (Sh, D) (oN Sh D c)) (hE : yE Y = []) (hf : zKp Sh f) (ht : ∀ e, ¬ e = 0 → f (t e) = some (.inr (zexn e), zEx (Sh, D))) (hk : Rn X Y (d + 1) (pc + 3) ls st (Sh, D) (f b)) : Rn X Y (d + 1) pc ls (av.reverse ++ st) (Sh, D) (f (c.bind fun e => if e = 0 then b else t e)) := by
  cases c with
  | none => exact Rn_none hf.1
  | some e =>
    show Rn X Y (d + 1) pc ls (av.reverse ++ st) (Sh, D) (f (if e = 0 then b else t e))
    by_cases h0 : e = 0
    · subst h0
      rw [if_pos rfl]
      refine r_call (d2 := 0) hR hS (fun h => by cases h) (fun v M1 h => ?_) (fun E M1 h => by cases h)
      cases h
      exact ⟨⟨Nat.le_refl _, Nat.le_refl _⟩, zGr.same0 (fun o' M' e => hf.2 _ _ _ e), hk⟩
    · rw [if_neg h0, ht e h0]
      have e1 : oN Sh D (some e) = some (.inr (zexn e), zEx (Sh, D)) := by
        simp [oN, h0]
      rw [e1] at hS
      refine r_call (d2 := 0) hR hS (fun h => by cases h) (fun v M1 h => by cases h) (fun E M1 h => ?_)
      cases h
      refine ⟨⟨Nat.le_succ _, ?_⟩, zGr.same, x_out (by rw [hE]; intro x hx; cases hx) rfl⟩
      show (Sh.1.map (fun q => q.2)).sum + 6 * Sh.2.2 ≤ (Sh.1.map (fun q => q.2)).sum + 6 * (Sh.2.2 + 1)
      omega
theorem z_ieq {x : Int32} {i : Nat} (hx : x.toInt = 0 + (i : Int)) : x = Int32.ofInt i := by
  rw [← Int32.ofInt_toInt (x := x), hx, Int.zero_add]
theorem z_ine {x : Int32} {lo hi : Int} (hx : x.toInt < lo ∨ hi < x.toInt) (i : Nat) (h1 : lo ≤ i ∧ i < 1000) (h2 : (i : Int) ≤ hi) : ¬ x = Int32.ofInt i := by
  intro e
  have h3 : x.toInt = i := by
    rw [e]
    have := nI_toInt (n := i) (by omega)
    exact this
  omega
/-- the length of a text; a sign of it -/
theorem q_slen {idx i : Nat} {a : Option α} (hst : (zl X).stackTraces = false) (hd : 2 ≤ d) (hi : i < z_nS) (w : Cond.methodLink (yO Y) idx (yN m_JS_length) ∈ z_T) (dg : decode (yB Y) pc = .ok (.invokevirtual idx, 3)) (hs : (st.map fun v => v.category).sum ≤ 8) (hf : zKp Sh f) (kk : Rn X Y (d + 1) (pc + 3) ls (.int (Int32.ofNat (z_lenS.getD i 0)) :: st) (Sh, D) (f a)) : Rn X Y (d + 1) pc ls (.ref (1000000 + i) :: st) (Sh, D) (f a) := by
  obtain ⟨e, rfl⟩ : ∃ e, d = e + 1 := ⟨d - 1, by omega⟩
  exact r_callP (d2 := 0) (av := [.ref (1000000 + i)]) (z_runVS hi ck_JS_length rfl rfl w ci_JS_length cv_JS_length rfl hs dg) (s_JS_length hst hi) (zGr.same0 (fun o' M' e => hf.2 _ _ _ e)) kk
theorem q_char {idx i : Nat} {j : Int32} {a : Option α} (hst : (zl X).stackTraces = false) (hd : 4 ≤ d) (hi : i < z_nS) (hj : vp_in j (z_lenS.getD i 0)) (w : Cond.methodLink (yO Y) idx (yN m_JS_charAt) ∈ z_T) (dg : decode (yB Y) pc = .ok (.invokevirtual idx, 3)) (hs : (st.map fun v => v.category).sum ≤ 8) (hf : zKp Sh f) (kk : Rn X Y (d + 1) (pc + 3) ls (.int (z_ch i j.toNatClampNeg) :: st) (Sh, D) (f a)) : Rn X Y (d + 1) pc ls (.int j :: .ref (1000000 + i) :: st) (Sh, D) (f a) := by
  obtain ⟨e, rfl⟩ : ∃ e, d = e + 3 := ⟨d - 3, by omega⟩
  have hb := z_bytes i hi
  obtain ⟨n, hn, rfl⟩ := vp_in_of hj (by omega)
  have e1 : (nI n).toNatClampNeg = n := nI_clamp (by omega)
  rw [e1] at kk
  exact r_callP (d2 := 0) (av := [.ref (1000000 + i), .int (nI n)]) (z_runVS hi ck_JS_charAt rfl rfl w ci_JS_charAt cv_JS_charAt rfl hs dg) (s_JS_charAt hst hi hn) (zGr.same0 (fun o' M' e => hf.2 _ _ _ e)) kk
theorem r_throwW {ik is ic sn : Nat} {cls text : String} {names : List String} (w : zTw (yO Y) ik is ic cls text sn names) (d0 : decode (yB Y) pc = .ok (.new ik, 3)) (d3 : decode (yB Y) (pc + 3) = .ok (.dup, 1)) (d4 : decode (yB Y) (pc + 4) = .ok (.ldc_w is, 3)) (d7 : decode (yB Y) (pc + 7) = .ok (.invokespecial ic, 3)) (d10 : decode (yB Y) (pc + 10) = .ok (.athrow, 1))
    (hE : yE Y = []) (hd : 7 ≤ d) (hst : (st.map fun v => v.category).sum ≤ 8) : Rn X Y d pc ls st M (some (.inr cls, zEx M)) := by
  intro o M' hr p e Rm s m args below meth c mc ms E H locs cells slots la S
  cases hr
  obtain ⟨w1, w2, w3, w4, w5⟩ := w
  have hts := E.2.2.2.2.2.1
  have hKK := E.2.2.2.2.2.2.2.2.1
  have b1 : cells + (M.1.1.length + (M.1.2.2 + 1)) ≤ mc + (M.1.1.length + M.1.2.2) := S.2.2.2.2.1
  have b2 : slots + ((M.1.1.map (fun q => q.2)).sum + 6 * (M.1.2.2 + 1)) ≤ ms + ((M.1.1.map (fun q => q.2)).sum + 6 * M.1.2.2) := S.2.2.2.2.2.1
  have f1 := E.2.2.2.2.2.2.2.2.2.2.1
  have f2 := E.2.2.2.2.2.2.2.2.2.2.2.1
  have f3 := E.2.2.2.2.2.2.2.2.2.2.2.2.1
  have f4 := E.2.2.2.2.2.2.2.2.2.2.2.2.2.1
  have f5 := E.2.2.2.2.2.2.2.2.2.2.2.2.2.2.1
  have f6 := E.2.2.2.2.2.2.2.2.2.2.2.2.2.2.2.1
  have f7 := E.2.2.2.2.2.2.2.2.2.2.2.2.2.2.2.2
  have hmv : ∀ a : Nat, a < (zH X).size → ¬ zF X a → s.heap[a]? = (zH X)[a]? := fun a _ h => f7 a (Nat.not_le.mp h)
  have hS : va_S (zF X) s.heap H locs := ⟨S.2.1, fun q _ h2 => by
    have h3 : q < zb X := Nat.not_le.mp h2
    rw [S.1.2.2.2.1 q h3, f7 q h3], S.2.2.1⟩
  refine vx_throwSW (names := names) (cls := cls) (text := text) (A := zF X) E.1 E.2.1 f5 E.2.2.2.2.1 w1 w2 (z_otb hts hKK (w4 _ List.mem_cons_self)) (z_otb hts hKK (w4 _ (List.mem_cons_of_mem _ List.mem_cons_self))) (hKK.2.2.1 _ w5)
    (fun w hw => z_otb hts hKK (w4 w (List.mem_cons_of_mem _ (List.mem_cons_of_mem _ hw)))) (fun w hw => z_ot (w4 w hw)) (hKK.2.1.1.kept hmv) (hKK.2.1.2.kept hmv) hS (by rw [E.2.2.2.1]; exact S.2.2.2.1.1) d0 d3 d4 d7 d10 ?_ (by omega) (by rw [z_cat]; omega) (by omega) (by omega) E.2.2.2.2.2.2.1 ?_ S.2.2.1 (by omega) (by omega)
  · rw [E.2.2.2.2.2.2.2.2.2.1, hE]
    intro x hx
    cases hx
  · intro t _ h1 h2
    exact ⟨rfl, Nat.le_trans S.2.1 h1, S.1.ex h1 h2⟩
end ROWS8
theorem z_tw {l : List Cond} (h : l.all (fun w => decide (w ∈ lw_tbl) && (goodWord w || zNk w)) = true) : ∀ w ∈ l, w ∈ z_T ∨ w ∈ z_N := by
  intro w hw
  have h1 := List.all_eq_true.mp h w hw
  simp only [Bool.and_eq_true, decide_eq_true_eq, Bool.or_eq_true] at h1
  rcases h1.2 with g | g
  · exact Or.inl (z_in0 h1.1 g)
  · exact Or.inr (z_inN0 h1.1 g)


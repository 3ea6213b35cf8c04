theorem li0 : (0 : Int32) = nI 0 := by decide +kernel
theorem li1 : (1 : Int32) = nI 1 := by decide +kernel
theorem li2 : (2 : Int32) = nI 2 := by decide +kernel
theorem li3 : (3 : Int32) = nI 3 := by decide +kernel
theorem li4 : (4 : Int32) = nI 4 := by decide +kernel
theorem li5 : (5 : Int32) = nI 5 := by decide +kernel
theorem li6 : (6 : Int32) = nI 6 := by decide +kernel
theorem li7 : (7 : Int32) = nI 7 := by decide +kernel
theorem li8 : (8 : Int32) = nI 8 := by decide +kernel
theorem li9 : (9 : Int32) = nI 9 := by decide +kernel
theorem li10 : (10 : Int32) = nI 10 := by decide +kernel
theorem li11 : (11 : Int32) = nI 11 := by decide +kernel
theorem li12 : (12 : Int32) = nI 12 := by decide +kernel
theorem li13 : (13 : Int32) = nI 13 := by decide +kernel
theorem li14 : (14 : Int32) = nI 14 := by decide +kernel
theorem li15 : (15 : Int32) = nI 15 := by decide +kernel
theorem li16 : (16 : Int32) = nI 16 := by decide +kernel
theorem li17 : (17 : Int32) = nI 17 := by decide +kernel
theorem li18 : (18 : Int32) = nI 18 := by decide +kernel
theorem li19 : (19 : Int32) = nI 19 := by decide +kernel
theorem li30 : (30 : Int32) = nI 30 := by decide +kernel
theorem li31 : (31 : Int32) = nI 31 := by decide +kernel
theorem li33 : (33 : Int32) = nI 33 := by decide +kernel
theorem li39 : (39 : Int32) = nI 39 := by decide +kernel
theorem li40 : (40 : Int32) = nI 40 := by decide +kernel
theorem li41 : (41 : Int32) = nI 41 := by decide +kernel
theorem li42 : (42 : Int32) = nI 42 := by decide +kernel
theorem li43 : (43 : Int32) = nI 43 := by decide +kernel
theorem li44 : (44 : Int32) = nI 44 := by decide +kernel
theorem li45 : (45 : Int32) = nI 45 := by decide +kernel
theorem li46 : (46 : Int32) = nI 46 := by decide +kernel
theorem li47 : (47 : Int32) = nI 47 := by decide +kernel
theorem li48 : (48 : Int32) = nI 48 := by decide +kernel
theorem li49 : (49 : Int32) = nI 49 := by decide +kernel
theorem li50 : (50 : Int32) = nI 50 := by decide +kernel
theorem li51 : (51 : Int32) = nI 51 := by decide +kernel
theorem li52 : (52 : Int32) = nI 52 := by decide +kernel
theorem li53 : (53 : Int32) = nI 53 := by decide +kernel
theorem li54 : (54 : Int32) = nI 54 := by decide +kernel
theorem li55 : (55 : Int32) = nI 55 := by decide +kernel
theorem li56 : (56 : Int32) = nI 56 := by decide +kernel
theorem li57 : (57 : Int32) = nI 57 := by decide +kernel
theorem li58 : (58 : Int32) = nI 58 := by decide +kernel
theorem li59 : (59 : Int32) = nI 59 := by decide +kernel
theorem li60 : (60 : Int32) = nI 60 := by decide +kernel
theorem li61 : (61 : Int32) = nI 61 := by decide +kernel
theorem li62 : (62 : Int32) = nI 62 := by decide +kernel
theorem li64 : (64 : Int32) = nI 64 := by decide +kernel
theorem li126 : (126 : Int32) = nI 126 := by decide +kernel
theorem li128 : (128 : Int32) = nI 128 := by decide +kernel
theorem li300 : (300 : Int32) = nI 300 := by decide +kernel
theorem li384 : (384 : Int32) = nI 384 := by decide +kernel
theorem li421 : (421 : Int32) = nI 421 := by decide +kernel
theorem li512 : (512 : Int32) = nI 512 := by decide +kernel
theorem li1000 : (1000 : Int32) = nI 1000 := by decide +kernel
theorem li1663 : (1663 : Int32) = nI 1663 := by decide +kernel
theorem li9999 : (9999 : Int32) = nI 9999 := by decide +kernel
theorem li10000 : (10000 : Int32) = nI 10000 := by decide +kernel
theorem li1000000 : (1000000 : Int32) = nI 1000000 := by decide +kernel
theorem li2147483647 : (2147483647 : Int32) = nI 2147483647 := by decide +kernel
def mv_n1 : Int32 := -1
theorem lin1 : -(nI 1) = mv_n1 := by decide +kernel
def mv_n2 : Int32 := -2
theorem lin2 : -(nI 2) = mv_n2 := by decide +kernel
def mv_n3 : Int32 := -3
theorem lin3 : -(nI 3) = mv_n3 := by decide +kernel
def mv_n4 : Int32 := -4
theorem lin4 : -(nI 4) = mv_n4 := by decide +kernel
def mv_K0 : List (Nat × Nat) := [(6, 7), (5, 12), (8, 7), (10, 4), (11, 8), (1, 6), (8, 7), (1, 6), (8, 7), (1, 6), (8, 7), (1, 6), (8, 7), (0, 8), (0, 8), (0, 8), (0, 8), (0, 8), (0, 8), (0, 8), (0, 8), (5, 12), (8, 7), (10, 4), (11, 8), (1, 6), (8, 7), (1, 6), (8, 7), (1, 6), (8, 7), (1, 6), (8, 7), (0, 8), (0, 8), (0, 8), (0, 8), (0, 8), (0, 8), (0, 8), (0, 8), (5, 12), (8, 7), (10, 4), (11, 8), (1, 6), (8, 7), (1, 6), (8, 7), (1, 6), (8, 7), (1, 6), (8, 7), (0, 8), (0, 8), (0, 8), (0, 8), (0, 8), (0, 8), (0, 8), (0, 8), (3, 2), (9, 4), (5, 12), (8, 7), (10, 4), (11, 8), (1, 6), (8, 7), (1, 6), (8, 7), (1, 6), (8, 7), (1, 6), (8, 7), (0, 8), (0, 8), (0, 8), (0, 8), (0, 8), (0, 8), (0, 8), (0, 8), (5, 12), (8, 7), (10, 4), (11, 8), (1, 6), (8, 7), (1, 6), (8, 7), (1, 6), (8, 7), (1, 6), (8, 7), (0, 8), (0, 8), (0, 8), (0, 8), (0, 8), (0, 8), (0, 8), (0, 8), (5, 12), (8, 7), (10, 4), (11, 8), (1, 6), (8, 7), (1, 6), (8, 7), (1, 6), (8, 7), (1, 6), (8, 7), (0, 8), (0, 8), (0, 8), (0, 8), (0, 8), (0, 8), (0, 8), (0, 8), (5, 12), (8, 7), (10, 4), (11, 8), (1, 6), (8, 7), (1, 6), (8, 7), (1, 6), (8, 7), (1, 6), (8, 7), (0, 8), (0, 8), (0, 8), (0, 8), (0, 8), (0, 8), (0, 8), (0, 8), (4, 2), (8, 60), (2, 4), (8, 4)]
def mv_S0 : Nat := 1112
def mv_MS (_ : mv_Hp) : Prop := True

/-! THE HEAP BEHIND THE CONSTRUCTORS: A its arrays, F its ints (100 times the place and the slot), P the states of the history -/
def up {α : Type} (f : Nat → α) (k : Nat) (v : α) : Nat → α := fun j => if j = k then v else f j
def heap (A : Nat → List Int32) (F : Nat → Int32) (P : Nat → Nat) : am_H := [.inl (7, A 0), .inr (9, [.ref 2, .ref 34, .ref 164, .ref 183, .ref 184]), .inr (7, [.ref 3, .ref 8, .ref 17, .int (F 203), .ref 19, .ref 32]), .inr (8, [.ref 4, .ref 6, .int (F 302)]), .inr (5, [.ref 5]), .inl (0, A 5), .inr (5, [.ref 7]), .inl (0, A 7), .inr (3, [.ref 9, .ref 11, .ref 13, .ref 15, .int (F 804)]), .inr (5, [.ref 10]), .inl (0, A 10), .inr (5, [.ref 12]), .inl (0, A 12), .inr (5, [.ref 14]), .inl (0, A 14), .inr (5, [.ref 16]), .inl (0, A 16), .inr (5, [.ref 18]), .inl (0, A 18), .inr (0, [.ref 20, .ref 22, .ref 24, .ref 26, .ref 28, .ref 30, .int (F 1906)]), .inr (5, [.ref 21]), .inl (0, A 21), .inr (5, [.ref 23]), .inl (0, A 23), .inr (5, [.ref 25]), .inl (0, A 25), .inr (5, [.ref 27]), .inl (0, A 27), .inr (5, [.ref 29]), .inl (0, A 29), .inr (5, [.ref 31]), .inl (0, A 31), .inr (5, [.ref 33]), .inl (0, A 33), .inr (1, [.ref 35, .int (F 3401)]), .inr (107, [.ref (P 0), .ref (P 1), .ref (P 2), .ref (P 3)]), .inr (7, [.ref 37, .ref 42, .ref 51, .int (F 3603), .ref 53, .ref 66]), .inr (8, [.ref 38, .ref 40, .int (F 3702)]), .inr (5, [.ref 39]), .inl (0, A 39), .inr (5, [.ref 41]), .inl (0, A 41), .inr (3, [.ref 43, .ref 45, .ref 47, .ref 49, .int (F 4204)]), .inr (5, [.ref 44]), .inl (0, A 44), .inr (5, [.ref 46]), .inl (0, A 46), .inr (5, [.ref 48]), .inl (0, A 48), .inr (5, [.ref 50]), .inl (0, A 50), .inr (5, [.ref 52]), .inl (0, A 52), .inr (0, [.ref 54, .ref 56, .ref 58, .ref 60, .ref 62, .ref 64, .int (F 5306)]), .inr (5, [.ref 55]), .inl (0, A 55), .inr (5, [.ref 57]), .inl (0, A 57), .inr (5, [.ref 59]), .inl (0, A 59), .inr (5, [.ref 61]), .inl (0, A 61), .inr (5, [.ref 63]), .inl (0, A 63), .inr (5, [.ref 65]), .inl (0, A 65), .inr (5, [.ref 67]), .inl (0, A 67), .inr (7, [.ref 69, .ref 74, .ref 83, .int (F 6803), .ref 85, .ref 98]), .inr (8, [.ref 70, .ref 72, .int (F 6902)]), .inr (5, [.ref 71]), .inl (0, A 71), .inr (5, [.ref 73]), .inl (0, A 73), .inr (3, [.ref 75, .ref 77, .ref 79, .ref 81, .int (F 7404)]), .inr (5, [.ref 76]), .inl (0, A 76), .inr (5, [.ref 78]), .inl (0, A 78), .inr (5, [.ref 80]), .inl (0, A 80), .inr (5, [.ref 82]), .inl (0, A 82), .inr (5, [.ref 84]), .inl (0, A 84), .inr (0, [.ref 86, .ref 88, .ref 90, .ref 92, .ref 94, .ref 96, .int (F 8506)]), .inr (5, [.ref 87]), .inl (0, A 87), .inr (5, [.ref 89]), .inl (0, A 89), .inr (5, [.ref 91]), .inl (0, A 91), .inr (5, [.ref 93]), .inl (0, A 93), .inr (5, [.ref 95]), .inl (0, A 95), .inr (5, [.ref 97]), .inl (0, A 97), .inr (5, [.ref 99]), .inl (0, A 99), .inr (7, [.ref 101, .ref 106, .ref 115, .int (F 10003), .ref 117, .ref 130]), .inr (8, [.ref 102, .ref 104, .int (F 10102)]), .inr (5, [.ref 103]), .inl (0, A 103), .inr (5, [.ref 105]), .inl (0, A 105), .inr (3, [.ref 107, .ref 109, .ref 111, .ref 113, .int (F 10604)]), .inr (5, [.ref 108]), .inl (0, A 108), .inr (5, [.ref 110]), .inl (0, A 110), .inr (5, [.ref 112]), .inl (0, A 112), .inr (5, [.ref 114]), .inl (0, A 114), .inr (5, [.ref 116]), .inl (0, A 116), .inr (0, [.ref 118, .ref 120, .ref 122, .ref 124, .ref 126, .ref 128, .int (F 11706)]), .inr (5, [.ref 119]), .inl (0, A 119), .inr (5, [.ref 121]), .inl (0, A 121), .inr (5, [.ref 123]), .inl (0, A 123), .inr (5, [.ref 125]), .inl (0, A 125), .inr (5, [.ref 127]), .inl (0, A 127), .inr (5, [.ref 129]), .inl (0, A 129), .inr (5, [.ref 131]), .inl (0, A 131), .inr (7, [.ref 133, .ref 138, .ref 147, .int (F 13203), .ref 149, .ref 162]), .inr (8, [.ref 134, .ref 136, .int (F 13302)]), .inr (5, [.ref 135]), .inl (0, A 135), .inr (5, [.ref 137]), .inl (0, A 137), .inr (3, [.ref 139, .ref 141, .ref 143, .ref 145, .int (F 13804)]), .inr (5, [.ref 140]), .inl (0, A 140), .inr (5, [.ref 142]), .inl (0, A 142), .inr (5, [.ref 144]), .inl (0, A 144), .inr (5, [.ref 146]), .inl (0, A 146), .inr (5, [.ref 148]), .inl (0, A 148), .inr (0, [.ref 150, .ref 152, .ref 154, .ref 156, .ref 158, .ref 160, .int (F 14906)]), .inr (5, [.ref 151]), .inl (0, A 151), .inr (5, [.ref 153]), .inl (0, A 153), .inr (5, [.ref 155]), .inl (0, A 155), .inr (5, [.ref 157]), .inl (0, A 157), .inr (5, [.ref 159]), .inl (0, A 159), .inr (5, [.ref 161]), .inl (0, A 161), .inr (5, [.ref 163]), .inl (0, A 163), .inr (6, [.ref 2, .ref 165, .ref 167, .ref 169, .ref 171, .ref 173, .ref 175, .ref 177, .ref 179, .ref 181, .int (F 16410)]), .inr (5, [.ref 166]), .inl (0, A 166), .inr (5, [.ref 168]), .inl (0, A 168), .inr (5, [.ref 170]), .inl (0, A 170), .inr (5, [.ref 172]), .inl (0, A 172), .inr (5, [.ref 174]), .inl (0, A 174), .inr (5, [.ref 176]), .inl (0, A 176), .inr (5, [.ref 178]), .inl (0, A 178), .inr (5, [.ref 180]), .inl (0, A 180), .inr (5, [.ref 182]), .inl (0, A 182), .inr (4, [.ref 2, .ref 164]), .inr (2, [.ref 185, .int (F 18401), .ref 186, .ref 188, .ref 190, .int (F 18405), .int (F 18406), .int (F 18407), .int (F 18408), .int (F 18409)]), .inl (1, A 185), .inr (5, [.ref 187]), .inl (0, A 187), .inr (5, [.ref 189]), .inl (0, A 189), .inr (5, [.ref 191]), .inl (0, A 191), .inl (0, A 300), .inl (0, A 301), .inl (0, A 302), .inl (0, A 303), .inl (0, A 304)]
set_option maxRecDepth 100000 in
theorem hpR_1_0 (A : Nat → List Int32) (F : Nat → Int32) (P : Nat → Nat) : am_gr (heap A F P) 1 9 0 = some 2 := rfl
set_option maxRecDepth 100000 in
theorem hpR_1_1 (A : Nat → List Int32) (F : Nat → Int32) (P : Nat → Nat) : am_gr (heap A F P) 1 9 1 = some 34 := rfl
set_option maxRecDepth 100000 in
theorem hpR_1_2 (A : Nat → List Int32) (F : Nat → Int32) (P : Nat → Nat) : am_gr (heap A F P) 1 9 2 = some 164 := rfl
set_option maxRecDepth 100000 in
theorem hpR_1_3 (A : Nat → List Int32) (F : Nat → Int32) (P : Nat → Nat) : am_gr (heap A F P) 1 9 3 = some 183 := rfl
set_option maxRecDepth 100000 in
theorem hpR_1_4 (A : Nat → List Int32) (F : Nat → Int32) (P : Nat → Nat) : am_gr (heap A F P) 1 9 4 = some 184 := rfl
set_option maxRecDepth 100000 in
theorem hpR_2_0 (A : Nat → List Int32) (F : Nat → Int32) (P : Nat → Nat) : am_gr (heap A F P) 2 7 0 = some 3 := rfl
set_option maxRecDepth 100000 in
theorem hpR_2_1 (A : Nat → List Int32) (F : Nat → Int32) (P : Nat → Nat) : am_gr (heap A F P) 2 7 1 = some 8 := rfl
set_option maxRecDepth 100000 in
theorem hpR_2_2 (A : Nat → List Int32) (F : Nat → Int32) (P : Nat → Nat) : am_gr (heap A F P) 2 7 2 = some 17 := rfl
set_option maxRecDepth 100000 in
theorem hpR_2_4 (A : Nat → List Int32) (F : Nat → Int32) (P : Nat → Nat) : am_gr (heap A F P) 2 7 4 = some 19 := rfl
set_option maxRecDepth 100000 in
theorem hpR_2_5 (A : Nat → List Int32) (F : Nat → Int32) (P : Nat → Nat) : am_gr (heap A F P) 2 7 5 = some 32 := rfl
set_option maxRecDepth 100000 in
theorem hpR_3_0 (A : Nat → List Int32) (F : Nat → Int32) (P : Nat → Nat) : am_gr (heap A F P) 3 8 0 = some 4 := rfl
set_option maxRecDepth 100000 in
theorem hpR_3_1 (A : Nat → List Int32) (F : Nat → Int32) (P : Nat → Nat) : am_gr (heap A F P) 3 8 1 = some 6 := rfl
set_option maxRecDepth 100000 in
theorem hpR_4_0 (A : Nat → List Int32) (F : Nat → Int32) (P : Nat → Nat) : am_gr (heap A F P) 4 5 0 = some 5 := rfl
set_option maxRecDepth 100000 in
theorem hpR_6_0 (A : Nat → List Int32) (F : Nat → Int32) (P : Nat → Nat) : am_gr (heap A F P) 6 5 0 = some 7 := rfl
set_option maxRecDepth 100000 in
theorem hpR_8_0 (A : Nat → List Int32) (F : Nat → Int32) (P : Nat → Nat) : am_gr (heap A F P) 8 3 0 = some 9 := rfl
set_option maxRecDepth 100000 in
theorem hpR_8_1 (A : Nat → List Int32) (F : Nat → Int32) (P : Nat → Nat) : am_gr (heap A F P) 8 3 1 = some 11 := rfl
set_option maxRecDepth 100000 in
theorem hpR_8_2 (A : Nat → List Int32) (F : Nat → Int32) (P : Nat → Nat) : am_gr (heap A F P) 8 3 2 = some 13 := rfl
set_option maxRecDepth 100000 in
theorem hpR_8_3 (A : Nat → List Int32) (F : Nat → Int32) (P : Nat → Nat) : am_gr (heap A F P) 8 3 3 = some 15 := rfl
set_option maxRecDepth 100000 in
theorem hpR_9_0 (A : Nat → List Int32) (F : Nat → Int32) (P : Nat → Nat) : am_gr (heap A F P) 9 5 0 = some 10 := rfl
set_option maxRecDepth 100000 in
theorem hpR_11_0 (A : Nat → List Int32) (F : Nat → Int32) (P : Nat → Nat) : am_gr (heap A F P) 11 5 0 = some 12 := rfl
set_option maxRecDepth 100000 in
theorem hpR_13_0 (A : Nat → List Int32) (F : Nat → Int32) (P : Nat → Nat) : am_gr (heap A F P) 13 5 0 = some 14 := rfl
set_option maxRecDepth 100000 in
theorem hpR_15_0 (A : Nat → List Int32) (F : Nat → Int32) (P : Nat → Nat) : am_gr (heap A F P) 15 5 0 = some 16 := rfl
set_option maxRecDepth 100000 in
theorem hpR_17_0 (A : Nat → List Int32) (F : Nat → Int32) (P : Nat → Nat) : am_gr (heap A F P) 17 5 0 = some 18 := rfl
set_option maxRecDepth 100000 in
theorem hpR_19_0 (A : Nat → List Int32) (F : Nat → Int32) (P : Nat → Nat) : am_gr (heap A F P) 19 0 0 = some 20 := rfl
set_option maxRecDepth 100000 in
theorem hpR_19_1 (A : Nat → List Int32) (F : Nat → Int32) (P : Nat → Nat) : am_gr (heap A F P) 19 0 1 = some 22 := rfl
set_option maxRecDepth 100000 in
theorem hpR_19_2 (A : Nat → List Int32) (F : Nat → Int32) (P : Nat → Nat) : am_gr (heap A F P) 19 0 2 = some 24 := rfl
set_option maxRecDepth 100000 in
theorem hpR_19_3 (A : Nat → List Int32) (F : Nat → Int32) (P : Nat → Nat) : am_gr (heap A F P) 19 0 3 = some 26 := rfl
set_option maxRecDepth 100000 in
theorem hpR_19_4 (A : Nat → List Int32) (F : Nat → Int32) (P : Nat → Nat) : am_gr (heap A F P) 19 0 4 = some 28 := rfl
set_option maxRecDepth 100000 in
theorem hpR_19_5 (A : Nat → List Int32) (F : Nat → Int32) (P : Nat → Nat) : am_gr (heap A F P) 19 0 5 = some 30 := rfl
set_option maxRecDepth 100000 in
theorem hpR_20_0 (A : Nat → List Int32) (F : Nat → Int32) (P : Nat → Nat) : am_gr (heap A F P) 20 5 0 = some 21 := rfl
set_option maxRecDepth 100000 in
theorem hpR_22_0 (A : Nat → List Int32) (F : Nat → Int32) (P : Nat → Nat) : am_gr (heap A F P) 22 5 0 = some 23 := rfl
set_option maxRecDepth 100000 in
theorem hpR_24_0 (A : Nat → List Int32) (F : Nat → Int32) (P : Nat → Nat) : am_gr (heap A F P) 24 5 0 = some 25 := rfl
set_option maxRecDepth 100000 in
theorem hpR_26_0 (A : Nat → List Int32) (F : Nat → Int32) (P : Nat → Nat) : am_gr (heap A F P) 26 5 0 = some 27 := rfl
set_option maxRecDepth 100000 in
theorem hpR_28_0 (A : Nat → List Int32) (F : Nat → Int32) (P : Nat → Nat) : am_gr (heap A F P) 28 5 0 = some 29 := rfl
set_option maxRecDepth 100000 in
theorem hpR_30_0 (A : Nat → List Int32) (F : Nat → Int32) (P : Nat → Nat) : am_gr (heap A F P) 30 5 0 = some 31 := rfl
set_option maxRecDepth 100000 in
theorem hpR_32_0 (A : Nat → List Int32) (F : Nat → Int32) (P : Nat → Nat) : am_gr (heap A F P) 32 5 0 = some 33 := rfl
set_option maxRecDepth 100000 in
theorem hpR_34_0 (A : Nat → List Int32) (F : Nat → Int32) (P : Nat → Nat) : am_gr (heap A F P) 34 1 0 = some 35 := rfl
set_option maxRecDepth 100000 in
theorem hpR_36_0 (A : Nat → List Int32) (F : Nat → Int32) (P : Nat → Nat) : am_gr (heap A F P) 36 7 0 = some 37 := rfl
set_option maxRecDepth 100000 in
theorem hpR_36_1 (A : Nat → List Int32) (F : Nat → Int32) (P : Nat → Nat) : am_gr (heap A F P) 36 7 1 = some 42 := rfl
set_option maxRecDepth 100000 in
theorem hpR_36_2 (A : Nat → List Int32) (F : Nat → Int32) (P : Nat → Nat) : am_gr (heap A F P) 36 7 2 = some 51 := rfl
set_option maxRecDepth 100000 in
theorem hpR_36_4 (A : Nat → List Int32) (F : Nat → Int32) (P : Nat → Nat) : am_gr (heap A F P) 36 7 4 = some 53 := rfl
set_option maxRecDepth 100000 in
theorem hpR_36_5 (A : Nat → List Int32) (F : Nat → Int32) (P : Nat → Nat) : am_gr (heap A F P) 36 7 5 = some 66 := rfl
set_option maxRecDepth 100000 in
theorem hpR_37_0 (A : Nat → List Int32) (F : Nat → Int32) (P : Nat → Nat) : am_gr (heap A F P) 37 8 0 = some 38 := rfl
set_option maxRecDepth 100000 in
theorem hpR_37_1 (A : Nat → List Int32) (F : Nat → Int32) (P : Nat → Nat) : am_gr (heap A F P) 37 8 1 = some 40 := rfl
set_option maxRecDepth 100000 in
theorem hpR_38_0 (A : Nat → List Int32) (F : Nat → Int32) (P : Nat → Nat) : am_gr (heap A F P) 38 5 0 = some 39 := rfl
set_option maxRecDepth 100000 in
theorem hpR_40_0 (A : Nat → List Int32) (F : Nat → Int32) (P : Nat → Nat) : am_gr (heap A F P) 40 5 0 = some 41 := rfl
set_option maxRecDepth 100000 in
theorem hpR_42_0 (A : Nat → List Int32) (F : Nat → Int32) (P : Nat → Nat) : am_gr (heap A F P) 42 3 0 = some 43 := rfl
set_option maxRecDepth 100000 in
theorem hpR_42_1 (A : Nat → List Int32) (F : Nat → Int32) (P : Nat → Nat) : am_gr (heap A F P) 42 3 1 = some 45 := rfl
set_option maxRecDepth 100000 in
theorem hpR_42_2 (A : Nat → List Int32) (F : Nat → Int32) (P : Nat → Nat) : am_gr (heap A F P) 42 3 2 = some 47 := rfl
set_option maxRecDepth 100000 in
theorem hpR_42_3 (A : Nat → List Int32) (F : Nat → Int32) (P : Nat → Nat) : am_gr (heap A F P) 42 3 3 = some 49 := rfl
set_option maxRecDepth 100000 in
theorem hpR_43_0 (A : Nat → List Int32) (F : Nat → Int32) (P : Nat → Nat) : am_gr (heap A F P) 43 5 0 = some 44 := rfl
set_option maxRecDepth 100000 in
theorem hpR_45_0 (A : Nat → List Int32) (F : Nat → Int32) (P : Nat → Nat) : am_gr (heap A F P) 45 5 0 = some 46 := rfl
set_option maxRecDepth 100000 in
theorem hpR_47_0 (A : Nat → List Int32) (F : Nat → Int32) (P : Nat → Nat) : am_gr (heap A F P) 47 5 0 = some 48 := rfl
set_option maxRecDepth 100000 in
theorem hpR_49_0 (A : Nat → List Int32) (F : Nat → Int32) (P : Nat → Nat) : am_gr (heap A F P) 49 5 0 = some 50 := rfl
set_option maxRecDepth 100000 in
theorem hpR_51_0 (A : Nat → List Int32) (F : Nat → Int32) (P : Nat → Nat) : am_gr (heap A F P) 51 5 0 = some 52 := rfl
set_option maxRecDepth 100000 in
theorem hpR_53_0 (A : Nat → List Int32) (F : Nat → Int32) (P : Nat → Nat) : am_gr (heap A F P) 53 0 0 = some 54 := rfl
set_option maxRecDepth 100000 in
theorem hpR_53_1 (A : Nat → List Int32) (F : Nat → Int32) (P : Nat → Nat) : am_gr (heap A F P) 53 0 1 = some 56 := rfl
set_option maxRecDepth 100000 in
theorem hpR_53_2 (A : Nat → List Int32) (F : Nat → Int32) (P : Nat → Nat) : am_gr (heap A F P) 53 0 2 = some 58 := rfl
set_option maxRecDepth 100000 in
theorem hpR_53_3 (A : Nat → List Int32) (F : Nat → Int32) (P : Nat → Nat) : am_gr (heap A F P) 53 0 3 = some 60 := rfl
set_option maxRecDepth 100000 in
theorem hpR_53_4 (A : Nat → List Int32) (F : Nat → Int32) (P : Nat → Nat) : am_gr (heap A F P) 53 0 4 = some 62 := rfl
set_option maxRecDepth 100000 in
theorem hpR_53_5 (A : Nat → List Int32) (F : Nat → Int32) (P : Nat → Nat) : am_gr (heap A F P) 53 0 5 = some 64 := rfl
set_option maxRecDepth 100000 in
theorem hpR_54_0 (A : Nat → List Int32) (F : Nat → Int32) (P : Nat → Nat) : am_gr (heap A F P) 54 5 0 = some 55 := rfl
set_option maxRecDepth 100000 in
theorem hpR_56_0 (A : Nat → List Int32) (F : Nat → Int32) (P : Nat → Nat) : am_gr (heap A F P) 56 5 0 = some 57 := rfl
set_option maxRecDepth 100000 in
theorem hpR_58_0 (A : Nat → List Int32) (F : Nat → Int32) (P : Nat → Nat) : am_gr (heap A F P) 58 5 0 = some 59 := rfl
set_option maxRecDepth 100000 in
theorem hpR_60_0 (A : Nat → List Int32) (F : Nat → Int32) (P : Nat → Nat) : am_gr (heap A F P) 60 5 0 = some 61 := rfl
set_option maxRecDepth 100000 in
theorem hpR_62_0 (A : Nat → List Int32) (F : Nat → Int32) (P : Nat → Nat) : am_gr (heap A F P) 62 5 0 = some 63 := rfl
set_option maxRecDepth 100000 in
theorem hpR_64_0 (A : Nat → List Int32) (F : Nat → Int32) (P : Nat → Nat) : am_gr (heap A F P) 64 5 0 = some 65 := rfl
set_option maxRecDepth 100000 in
theorem hpR_66_0 (A : Nat → List Int32) (F : Nat → Int32) (P : Nat → Nat) : am_gr (heap A F P) 66 5 0 = some 67 := rfl
set_option maxRecDepth 100000 in
theorem hpR_68_0 (A : Nat → List Int32) (F : Nat → Int32) (P : Nat → Nat) : am_gr (heap A F P) 68 7 0 = some 69 := rfl
set_option maxRecDepth 100000 in
theorem hpR_68_1 (A : Nat → List Int32) (F : Nat → Int32) (P : Nat → Nat) : am_gr (heap A F P) 68 7 1 = some 74 := rfl
set_option maxRecDepth 100000 in
theorem hpR_68_2 (A : Nat → List Int32) (F : Nat → Int32) (P : Nat → Nat) : am_gr (heap A F P) 68 7 2 = some 83 := rfl
set_option maxRecDepth 100000 in
theorem hpR_68_4 (A : Nat → List Int32) (F : Nat → Int32) (P : Nat → Nat) : am_gr (heap A F P) 68 7 4 = some 85 := rfl
set_option maxRecDepth 100000 in
theorem hpR_68_5 (A : Nat → List Int32) (F : Nat → Int32) (P : Nat → Nat) : am_gr (heap A F P) 68 7 5 = some 98 := rfl
set_option maxRecDepth 100000 in
theorem hpR_69_0 (A : Nat → List Int32) (F : Nat → Int32) (P : Nat → Nat) : am_gr (heap A F P) 69 8 0 = some 70 := rfl
set_option maxRecDepth 100000 in
theorem hpR_69_1 (A : Nat → List Int32) (F : Nat → Int32) (P : Nat → Nat) : am_gr (heap A F P) 69 8 1 = some 72 := rfl
set_option maxRecDepth 100000 in
theorem hpR_70_0 (A : Nat → List Int32) (F : Nat → Int32) (P : Nat → Nat) : am_gr (heap A F P) 70 5 0 = some 71 := rfl
set_option maxRecDepth 100000 in
theorem hpR_72_0 (A : Nat → List Int32) (F : Nat → Int32) (P : Nat → Nat) : am_gr (heap A F P) 72 5 0 = some 73 := rfl
set_option maxRecDepth 100000 in
theorem hpR_74_0 (A : Nat → List Int32) (F : Nat → Int32) (P : Nat → Nat) : am_gr (heap A F P) 74 3 0 = some 75 := rfl
set_option maxRecDepth 100000 in
theorem hpR_74_1 (A : Nat → List Int32) (F : Nat → Int32) (P : Nat → Nat) : am_gr (heap A F P) 74 3 1 = some 77 := rfl
set_option maxRecDepth 100000 in
theorem hpR_74_2 (A : Nat → List Int32) (F : Nat → Int32) (P : Nat → Nat) : am_gr (heap A F P) 74 3 2 = some 79 := rfl
set_option maxRecDepth 100000 in
theorem hpR_74_3 (A : Nat → List Int32) (F : Nat → Int32) (P : Nat → Nat) : am_gr (heap A F P) 74 3 3 = some 81 := rfl
set_option maxRecDepth 100000 in
theorem hpR_75_0 (A : Nat → List Int32) (F : Nat → Int32) (P : Nat → Nat) : am_gr (heap A F P) 75 5 0 = some 76 := rfl
set_option maxRecDepth 100000 in
theorem hpR_77_0 (A : Nat → List Int32) (F : Nat → Int32) (P : Nat → Nat) : am_gr (heap A F P) 77 5 0 = some 78 := rfl
set_option maxRecDepth 100000 in
theorem hpR_79_0 (A : Nat → List Int32) (F : Nat → Int32) (P : Nat → Nat) : am_gr (heap A F P) 79 5 0 = some 80 := rfl
set_option maxRecDepth 100000 in
theorem hpR_81_0 (A : Nat → List Int32) (F : Nat → Int32) (P : Nat → Nat) : am_gr (heap A F P) 81 5 0 = some 82 := rfl
set_option maxRecDepth 100000 in
theorem hpR_83_0 (A : Nat → List Int32) (F : Nat → Int32) (P : Nat → Nat) : am_gr (heap A F P) 83 5 0 = some 84 := rfl
set_option maxRecDepth 100000 in
theorem hpR_85_0 (A : Nat → List Int32) (F : Nat → Int32) (P : Nat → Nat) : am_gr (heap A F P) 85 0 0 = some 86 := rfl
set_option maxRecDepth 100000 in
theorem hpR_85_1 (A : Nat → List Int32) (F : Nat → Int32) (P : Nat → Nat) : am_gr (heap A F P) 85 0 1 = some 88 := rfl
set_option maxRecDepth 100000 in
theorem hpR_85_2 (A : Nat → List Int32) (F : Nat → Int32) (P : Nat → Nat) : am_gr (heap A F P) 85 0 2 = some 90 := rfl
set_option maxRecDepth 100000 in
theorem hpR_85_3 (A : Nat → List Int32) (F : Nat → Int32) (P : Nat → Nat) : am_gr (heap A F P) 85 0 3 = some 92 := rfl
set_option maxRecDepth 100000 in
theorem hpR_85_4 (A : Nat → List Int32) (F : Nat → Int32) (P : Nat → Nat) : am_gr (heap A F P) 85 0 4 = some 94 := rfl
set_option maxRecDepth 100000 in
theorem hpR_85_5 (A : Nat → List Int32) (F : Nat → Int32) (P : Nat → Nat) : am_gr (heap A F P) 85 0 5 = some 96 := rfl
set_option maxRecDepth 100000 in
theorem hpR_86_0 (A : Nat → List Int32) (F : Nat → Int32) (P : Nat → Nat) : am_gr (heap A F P) 86 5 0 = some 87 := rfl
set_option maxRecDepth 100000 in
theorem hpR_88_0 (A : Nat → List Int32) (F : Nat → Int32) (P : Nat → Nat) : am_gr (heap A F P) 88 5 0 = some 89 := rfl
set_option maxRecDepth 100000 in
theorem hpR_90_0 (A : Nat → List Int32) (F : Nat → Int32) (P : Nat → Nat) : am_gr (heap A F P) 90 5 0 = some 91 := rfl
set_option maxRecDepth 100000 in
theorem hpR_92_0 (A : Nat → List Int32) (F : Nat → Int32) (P : Nat → Nat) : am_gr (heap A F P) 92 5 0 = some 93 := rfl
set_option maxRecDepth 100000 in
theorem hpR_94_0 (A : Nat → List Int32) (F : Nat → Int32) (P : Nat → Nat) : am_gr (heap A F P) 94 5 0 = some 95 := rfl
set_option maxRecDepth 100000 in
theorem hpR_96_0 (A : Nat → List Int32) (F : Nat → Int32) (P : Nat → Nat) : am_gr (heap A F P) 96 5 0 = some 97 := rfl
set_option maxRecDepth 100000 in
theorem hpR_98_0 (A : Nat → List Int32) (F : Nat → Int32) (P : Nat → Nat) : am_gr (heap A F P) 98 5 0 = some 99 := rfl
set_option maxRecDepth 100000 in
theorem hpR_100_0 (A : Nat → List Int32) (F : Nat → Int32) (P : Nat → Nat) : am_gr (heap A F P) 100 7 0 = some 101 := rfl
set_option maxRecDepth 100000 in
theorem hpR_100_1 (A : Nat → List Int32) (F : Nat → Int32) (P : Nat → Nat) : am_gr (heap A F P) 100 7 1 = some 106 := rfl
set_option maxRecDepth 100000 in
theorem hpR_100_2 (A : Nat → List Int32) (F : Nat → Int32) (P : Nat → Nat) : am_gr (heap A F P) 100 7 2 = some 115 := rfl
set_option maxRecDepth 100000 in
theorem hpR_100_4 (A : Nat → List Int32) (F : Nat → Int32) (P : Nat → Nat) : am_gr (heap A F P) 100 7 4 = some 117 := rfl
set_option maxRecDepth 100000 in
theorem hpR_100_5 (A : Nat → List Int32) (F : Nat → Int32) (P : Nat → Nat) : am_gr (heap A F P) 100 7 5 = some 130 := rfl
set_option maxRecDepth 100000 in
theorem hpR_101_0 (A : Nat → List Int32) (F : Nat → Int32) (P : Nat → Nat) : am_gr (heap A F P) 101 8 0 = some 102 := rfl
set_option maxRecDepth 100000 in
theorem hpR_101_1 (A : Nat → List Int32) (F : Nat → Int32) (P : Nat → Nat) : am_gr (heap A F P) 101 8 1 = some 104 := rfl
set_option maxRecDepth 100000 in
theorem hpR_102_0 (A : Nat → List Int32) (F : Nat → Int32) (P : Nat → Nat) : am_gr (heap A F P) 102 5 0 = some 103 := rfl
set_option maxRecDepth 100000 in
theorem hpR_104_0 (A : Nat → List Int32) (F : Nat → Int32) (P : Nat → Nat) : am_gr (heap A F P) 104 5 0 = some 105 := rfl
set_option maxRecDepth 100000 in
theorem hpR_106_0 (A : Nat → List Int32) (F : Nat → Int32) (P : Nat → Nat) : am_gr (heap A F P) 106 3 0 = some 107 := rfl
set_option maxRecDepth 100000 in
theorem hpR_106_1 (A : Nat → List Int32) (F : Nat → Int32) (P : Nat → Nat) : am_gr (heap A F P) 106 3 1 = some 109 := rfl
set_option maxRecDepth 100000 in
theorem hpR_106_2 (A : Nat → List Int32) (F : Nat → Int32) (P : Nat → Nat) : am_gr (heap A F P) 106 3 2 = some 111 := rfl
set_option maxRecDepth 100000 in
theorem hpR_106_3 (A : Nat → List Int32) (F : Nat → Int32) (P : Nat → Nat) : am_gr (heap A F P) 106 3 3 = some 113 := rfl
set_option maxRecDepth 100000 in
theorem hpR_107_0 (A : Nat → List Int32) (F : Nat → Int32) (P : Nat → Nat) : am_gr (heap A F P) 107 5 0 = some 108 := rfl
set_option maxRecDepth 100000 in
theorem hpR_109_0 (A : Nat → List Int32) (F : Nat → Int32) (P : Nat → Nat) : am_gr (heap A F P) 109 5 0 = some 110 := rfl
set_option maxRecDepth 100000 in
theorem hpR_111_0 (A : Nat → List Int32) (F : Nat → Int32) (P : Nat → Nat) : am_gr (heap A F P) 111 5 0 = some 112 := rfl
set_option maxRecDepth 100000 in
theorem hpR_113_0 (A : Nat → List Int32) (F : Nat → Int32) (P : Nat → Nat) : am_gr (heap A F P) 113 5 0 = some 114 := rfl
set_option maxRecDepth 100000 in
theorem hpR_115_0 (A : Nat → List Int32) (F : Nat → Int32) (P : Nat → Nat) : am_gr (heap A F P) 115 5 0 = some 116 := rfl
set_option maxRecDepth 100000 in
theorem hpR_117_0 (A : Nat → List Int32) (F : Nat → Int32) (P : Nat → Nat) : am_gr (heap A F P) 117 0 0 = some 118 := rfl
set_option maxRecDepth 100000 in
theorem hpR_117_1 (A : Nat → List Int32) (F : Nat → Int32) (P : Nat → Nat) : am_gr (heap A F P) 117 0 1 = some 120 := rfl
set_option maxRecDepth 100000 in
theorem hpR_117_2 (A : Nat → List Int32) (F : Nat → Int32) (P : Nat → Nat) : am_gr (heap A F P) 117 0 2 = some 122 := rfl
set_option maxRecDepth 100000 in
theorem hpR_117_3 (A : Nat → List Int32) (F : Nat → Int32) (P : Nat → Nat) : am_gr (heap A F P) 117 0 3 = some 124 := rfl
set_option maxRecDepth 100000 in
theorem hpR_117_4 (A : Nat → List Int32) (F : Nat → Int32) (P : Nat → Nat) : am_gr (heap A F P) 117 0 4 = some 126 := rfl
set_option maxRecDepth 100000 in
theorem hpR_117_5 (A : Nat → List Int32) (F : Nat → Int32) (P : Nat → Nat) : am_gr (heap A F P) 117 0 5 = some 128 := rfl
set_option maxRecDepth 100000 in
theorem hpR_118_0 (A : Nat → List Int32) (F : Nat → Int32) (P : Nat → Nat) : am_gr (heap A F P) 118 5 0 = some 119 := rfl
set_option maxRecDepth 100000 in
theorem hpR_120_0 (A : Nat → List Int32) (F : Nat → Int32) (P : Nat → Nat) : am_gr (heap A F P) 120 5 0 = some 121 := rfl
set_option maxRecDepth 100000 in
theorem hpR_122_0 (A : Nat → List Int32) (F : Nat → Int32) (P : Nat → Nat) : am_gr (heap A F P) 122 5 0 = some 123 := rfl
set_option maxRecDepth 100000 in
theorem hpR_124_0 (A : Nat → List Int32) (F : Nat → Int32) (P : Nat → Nat) : am_gr (heap A F P) 124 5 0 = some 125 := rfl
set_option maxRecDepth 100000 in
theorem hpR_126_0 (A : Nat → List Int32) (F : Nat → Int32) (P : Nat → Nat) : am_gr (heap A F P) 126 5 0 = some 127 := rfl
set_option maxRecDepth 100000 in
theorem hpR_128_0 (A : Nat → List Int32) (F : Nat → Int32) (P : Nat → Nat) : am_gr (heap A F P) 128 5 0 = some 129 := rfl
set_option maxRecDepth 100000 in
theorem hpR_130_0 (A : Nat → List Int32) (F : Nat → Int32) (P : Nat → Nat) : am_gr (heap A F P) 130 5 0 = some 131 := rfl
set_option maxRecDepth 100000 in
theorem hpR_132_0 (A : Nat → List Int32) (F : Nat → Int32) (P : Nat → Nat) : am_gr (heap A F P) 132 7 0 = some 133 := rfl
set_option maxRecDepth 100000 in
theorem hpR_132_1 (A : Nat → List Int32) (F : Nat → Int32) (P : Nat → Nat) : am_gr (heap A F P) 132 7 1 = some 138 := rfl
set_option maxRecDepth 100000 in
theorem hpR_132_2 (A : Nat → List Int32) (F : Nat → Int32) (P : Nat → Nat) : am_gr (heap A F P) 132 7 2 = some 147 := rfl
set_option maxRecDepth 100000 in
theorem hpR_132_4 (A : Nat → List Int32) (F : Nat → Int32) (P : Nat → Nat) : am_gr (heap A F P) 132 7 4 = some 149 := rfl
set_option maxRecDepth 100000 in
theorem hpR_132_5 (A : Nat → List Int32) (F : Nat → Int32) (P : Nat → Nat) : am_gr (heap A F P) 132 7 5 = some 162 := rfl
set_option maxRecDepth 100000 in
theorem hpR_133_0 (A : Nat → List Int32) (F : Nat → Int32) (P : Nat → Nat) : am_gr (heap A F P) 133 8 0 = some 134 := rfl
set_option maxRecDepth 100000 in
theorem hpR_133_1 (A : Nat → List Int32) (F : Nat → Int32) (P : Nat → Nat) : am_gr (heap A F P) 133 8 1 = some 136 := rfl
set_option maxRecDepth 100000 in
theorem hpR_134_0 (A : Nat → List Int32) (F : Nat → Int32) (P : Nat → Nat) : am_gr (heap A F P) 134 5 0 = some 135 := rfl
set_option maxRecDepth 100000 in
theorem hpR_136_0 (A : Nat → List Int32) (F : Nat → Int32) (P : Nat → Nat) : am_gr (heap A F P) 136 5 0 = some 137 := rfl
set_option maxRecDepth 100000 in
theorem hpR_138_0 (A : Nat → List Int32) (F : Nat → Int32) (P : Nat → Nat) : am_gr (heap A F P) 138 3 0 = some 139 := rfl
set_option maxRecDepth 100000 in
theorem hpR_138_1 (A : Nat → List Int32) (F : Nat → Int32) (P : Nat → Nat) : am_gr (heap A F P) 138 3 1 = some 141 := rfl
set_option maxRecDepth 100000 in
theorem hpR_138_2 (A : Nat → List Int32) (F : Nat → Int32) (P : Nat → Nat) : am_gr (heap A F P) 138 3 2 = some 143 := rfl
set_option maxRecDepth 100000 in
theorem hpR_138_3 (A : Nat → List Int32) (F : Nat → Int32) (P : Nat → Nat) : am_gr (heap A F P) 138 3 3 = some 145 := rfl
set_option maxRecDepth 100000 in
theorem hpR_139_0 (A : Nat → List Int32) (F : Nat → Int32) (P : Nat → Nat) : am_gr (heap A F P) 139 5 0 = some 140 := rfl
set_option maxRecDepth 100000 in
theorem hpR_141_0 (A : Nat → List Int32) (F : Nat → Int32) (P : Nat → Nat) : am_gr (heap A F P) 141 5 0 = some 142 := rfl
set_option maxRecDepth 100000 in
theorem hpR_143_0 (A : Nat → List Int32) (F : Nat → Int32) (P : Nat → Nat) : am_gr (heap A F P) 143 5 0 = some 144 := rfl
set_option maxRecDepth 100000 in
theorem hpR_145_0 (A : Nat → List Int32) (F : Nat → Int32) (P : Nat → Nat) : am_gr (heap A F P) 145 5 0 = some 146 := rfl
set_option maxRecDepth 100000 in
theorem hpR_147_0 (A : Nat → List Int32) (F : Nat → Int32) (P : Nat → Nat) : am_gr (heap A F P) 147 5 0 = some 148 := rfl
set_option maxRecDepth 100000 in
theorem hpR_149_0 (A : Nat → List Int32) (F : Nat → Int32) (P : Nat → Nat) : am_gr (heap A F P) 149 0 0 = some 150 := rfl
set_option maxRecDepth 100000 in
theorem hpR_149_1 (A : Nat → List Int32) (F : Nat → Int32) (P : Nat → Nat) : am_gr (heap A F P) 149 0 1 = some 152 := rfl
set_option maxRecDepth 100000 in
theorem hpR_149_2 (A : Nat → List Int32) (F : Nat → Int32) (P : Nat → Nat) : am_gr (heap A F P) 149 0 2 = some 154 := rfl
set_option maxRecDepth 100000 in
theorem hpR_149_3 (A : Nat → List Int32) (F : Nat → Int32) (P : Nat → Nat) : am_gr (heap A F P) 149 0 3 = some 156 := rfl
set_option maxRecDepth 100000 in
theorem hpR_149_4 (A : Nat → List Int32) (F : Nat → Int32) (P : Nat → Nat) : am_gr (heap A F P) 149 0 4 = some 158 := rfl
set_option maxRecDepth 100000 in
theorem hpR_149_5 (A : Nat → List Int32) (F : Nat → Int32) (P : Nat → Nat) : am_gr (heap A F P) 149 0 5 = some 160 := rfl
set_option maxRecDepth 100000 in
theorem hpR_150_0 (A : Nat → List Int32) (F : Nat → Int32) (P : Nat → Nat) : am_gr (heap A F P) 150 5 0 = some 151 := rfl
set_option maxRecDepth 100000 in
theorem hpR_152_0 (A : Nat → List Int32) (F : Nat → Int32) (P : Nat → Nat) : am_gr (heap A F P) 152 5 0 = some 153 := rfl
set_option maxRecDepth 100000 in
theorem hpR_154_0 (A : Nat → List Int32) (F : Nat → Int32) (P : Nat → Nat) : am_gr (heap A F P) 154 5 0 = some 155 := rfl
set_option maxRecDepth 100000 in
theorem hpR_156_0 (A : Nat → List Int32) (F : Nat → Int32) (P : Nat → Nat) : am_gr (heap A F P) 156 5 0 = some 157 := rfl
set_option maxRecDepth 100000 in
theorem hpR_158_0 (A : Nat → List Int32) (F : Nat → Int32) (P : Nat → Nat) : am_gr (heap A F P) 158 5 0 = some 159 := rfl
set_option maxRecDepth 100000 in
theorem hpR_160_0 (A : Nat → List Int32) (F : Nat → Int32) (P : Nat → Nat) : am_gr (heap A F P) 160 5 0 = some 161 := rfl
set_option maxRecDepth 100000 in
theorem hpR_162_0 (A : Nat → List Int32) (F : Nat → Int32) (P : Nat → Nat) : am_gr (heap A F P) 162 5 0 = some 163 := rfl
set_option maxRecDepth 100000 in
theorem hpR_164_0 (A : Nat → List Int32) (F : Nat → Int32) (P : Nat → Nat) : am_gr (heap A F P) 164 6 0 = some 2 := rfl
set_option maxRecDepth 100000 in
theorem hpR_164_1 (A : Nat → List Int32) (F : Nat → Int32) (P : Nat → Nat) : am_gr (heap A F P) 164 6 1 = some 165 := rfl
set_option maxRecDepth 100000 in
theorem hpR_164_2 (A : Nat → List Int32) (F : Nat → Int32) (P : Nat → Nat) : am_gr (heap A F P) 164 6 2 = some 167 := rfl
set_option maxRecDepth 100000 in
theorem hpR_164_3 (A : Nat → List Int32) (F : Nat → Int32) (P : Nat → Nat) : am_gr (heap A F P) 164 6 3 = some 169 := rfl
set_option maxRecDepth 100000 in
theorem hpR_164_4 (A : Nat → List Int32) (F : Nat → Int32) (P : Nat → Nat) : am_gr (heap A F P) 164 6 4 = some 171 := rfl
set_option maxRecDepth 100000 in
theorem hpR_164_5 (A : Nat → List Int32) (F : Nat → Int32) (P : Nat → Nat) : am_gr (heap A F P) 164 6 5 = some 173 := rfl
set_option maxRecDepth 100000 in
theorem hpR_164_6 (A : Nat → List Int32) (F : Nat → Int32) (P : Nat → Nat) : am_gr (heap A F P) 164 6 6 = some 175 := rfl
set_option maxRecDepth 100000 in
theorem hpR_164_7 (A : Nat → List Int32) (F : Nat → Int32) (P : Nat → Nat) : am_gr (heap A F P) 164 6 7 = some 177 := rfl
set_option maxRecDepth 100000 in
theorem hpR_164_8 (A : Nat → List Int32) (F : Nat → Int32) (P : Nat → Nat) : am_gr (heap A F P) 164 6 8 = some 179 := rfl
set_option maxRecDepth 100000 in
theorem hpR_164_9 (A : Nat → List Int32) (F : Nat → Int32) (P : Nat → Nat) : am_gr (heap A F P) 164 6 9 = some 181 := rfl
set_option maxRecDepth 100000 in
theorem hpR_165_0 (A : Nat → List Int32) (F : Nat → Int32) (P : Nat → Nat) : am_gr (heap A F P) 165 5 0 = some 166 := rfl
set_option maxRecDepth 100000 in
theorem hpR_167_0 (A : Nat → List Int32) (F : Nat → Int32) (P : Nat → Nat) : am_gr (heap A F P) 167 5 0 = some 168 := rfl
set_option maxRecDepth 100000 in
theorem hpR_169_0 (A : Nat → List Int32) (F : Nat → Int32) (P : Nat → Nat) : am_gr (heap A F P) 169 5 0 = some 170 := rfl
set_option maxRecDepth 100000 in
theorem hpR_171_0 (A : Nat → List Int32) (F : Nat → Int32) (P : Nat → Nat) : am_gr (heap A F P) 171 5 0 = some 172 := rfl
set_option maxRecDepth 100000 in
theorem hpR_173_0 (A : Nat → List Int32) (F : Nat → Int32) (P : Nat → Nat) : am_gr (heap A F P) 173 5 0 = some 174 := rfl
set_option maxRecDepth 100000 in
theorem hpR_175_0 (A : Nat → List Int32) (F : Nat → Int32) (P : Nat → Nat) : am_gr (heap A F P) 175 5 0 = some 176 := rfl
set_option maxRecDepth 100000 in
theorem hpR_177_0 (A : Nat → List Int32) (F : Nat → Int32) (P : Nat → Nat) : am_gr (heap A F P) 177 5 0 = some 178 := rfl
set_option maxRecDepth 100000 in
theorem hpR_179_0 (A : Nat → List Int32) (F : Nat → Int32) (P : Nat → Nat) : am_gr (heap A F P) 179 5 0 = some 180 := rfl
set_option maxRecDepth 100000 in
theorem hpR_181_0 (A : Nat → List Int32) (F : Nat → Int32) (P : Nat → Nat) : am_gr (heap A F P) 181 5 0 = some 182 := rfl
set_option maxRecDepth 100000 in
theorem hpR_183_0 (A : Nat → List Int32) (F : Nat → Int32) (P : Nat → Nat) : am_gr (heap A F P) 183 4 0 = some 2 := rfl
set_option maxRecDepth 100000 in
theorem hpR_183_1 (A : Nat → List Int32) (F : Nat → Int32) (P : Nat → Nat) : am_gr (heap A F P) 183 4 1 = some 164 := rfl
set_option maxRecDepth 100000 in
theorem hpR_184_0 (A : Nat → List Int32) (F : Nat → Int32) (P : Nat → Nat) : am_gr (heap A F P) 184 2 0 = some 185 := rfl
set_option maxRecDepth 100000 in
theorem hpR_184_2 (A : Nat → List Int32) (F : Nat → Int32) (P : Nat → Nat) : am_gr (heap A F P) 184 2 2 = some 186 := rfl
set_option maxRecDepth 100000 in
theorem hpR_184_3 (A : Nat → List Int32) (F : Nat → Int32) (P : Nat → Nat) : am_gr (heap A F P) 184 2 3 = some 188 := rfl
set_option maxRecDepth 100000 in
theorem hpR_184_4 (A : Nat → List Int32) (F : Nat → Int32) (P : Nat → Nat) : am_gr (heap A F P) 184 2 4 = some 190 := rfl
set_option maxRecDepth 100000 in
theorem hpR_186_0 (A : Nat → List Int32) (F : Nat → Int32) (P : Nat → Nat) : am_gr (heap A F P) 186 5 0 = some 187 := rfl
set_option maxRecDepth 100000 in
theorem hpR_188_0 (A : Nat → List Int32) (F : Nat → Int32) (P : Nat → Nat) : am_gr (heap A F P) 188 5 0 = some 189 := rfl
set_option maxRecDepth 100000 in
theorem hpR_190_0 (A : Nat → List Int32) (F : Nat → Int32) (P : Nat → Nat) : am_gr (heap A F P) 190 5 0 = some 191 := rfl
theorem hpRX : (∀ (A : Nat → List Int32) (F : Nat → Int32) (P : Nat → Nat), am_gr (heap A F P) 1 9 0 = some 2) ∧ (∀ (A : Nat → List Int32) (F : Nat → Int32) (P : Nat → Nat), am_gr (heap A F P) 1 9 1 = some 34) ∧ (∀ (A : Nat → List Int32) (F : Nat → Int32) (P : Nat → Nat), am_gr (heap A F P) 1 9 2 = some 164) ∧ (∀ (A : Nat → List Int32) (F : Nat → Int32) (P : Nat → Nat), am_gr (heap A F P) 1 9 3 = some 183) ∧ (∀ (A : Nat → List Int32) (F : Nat → Int32) (P : Nat → Nat), am_gr (heap A F P) 1 9 4 = some 184) ∧ (∀ (A : Nat → List Int32) (F : Nat → Int32) (P : Nat → Nat), am_gr (heap A F P) 2 7 0 = some 3) ∧ (∀ (A : Nat → List Int32) (F : Nat → Int32) (P : Nat → Nat), am_gr (heap A F P) 2 7 1 = some 8) ∧ (∀ (A : Nat → List Int32) (F : Nat → Int32) (P : Nat → Nat), am_gr (heap A F P) 2 7 2 = some 17) ∧ (∀ (A : Nat → List Int32) (F : Nat → Int32) (P : Nat → Nat), am_gr (heap A F P) 2 7 4 = some 19) ∧ (∀ (A : Nat → List Int32) (F : Nat → Int32) (P : Nat → Nat), am_gr (heap A F P) 2 7 5 = some 32) ∧ (∀ (A : Nat → List Int32) (F : Nat → Int32) (P : Nat → Nat), am_gr (heap A F P) 3 8 0 = some 4) ∧ (∀ (A : Nat → List Int32) (F : Nat → Int32) (P : Nat → Nat), am_gr (heap A F P) 3 8 1 = some 6) ∧ (∀ (A : Nat → List Int32) (F : Nat → Int32) (P : Nat → Nat), am_gr (heap A F P) 4 5 0 = some 5) ∧ (∀ (A : Nat → List Int32) (F : Nat → Int32) (P : Nat → Nat), am_gr (heap A F P) 6 5 0 = some 7) ∧ (∀ (A : Nat → List Int32) (F : Nat → Int32) (P : Nat → Nat), am_gr (heap A F P) 8 3 0 = some 9) ∧ (∀ (A : Nat → List Int32) (F : Nat → Int32) (P : Nat → Nat), am_gr (heap A F P) 8 3 1 = some 11) ∧ (∀ (A : Nat → List Int32) (F : Nat → Int32) (P : Nat → Nat), am_gr (heap A F P) 8 3 2 = some 13) ∧ (∀ (A : Nat → List Int32) (F : Nat → Int32) (P : Nat → Nat), am_gr (heap A F P) 8 3 3 = some 15) ∧ (∀ (A : Nat → List Int32) (F : Nat → Int32) (P : Nat → Nat), am_gr (heap A F P) 9 5 0 = some 10) ∧ (∀ (A : Nat → List Int32) (F : Nat → Int32) (P : Nat → Nat), am_gr (heap A F P) 11 5 0 = some 12) ∧ (∀ (A : Nat → List Int32) (F : Nat → Int32) (P : Nat → Nat), am_gr (heap A F P) 13 5 0 = some 14) ∧ (∀ (A : Nat → List Int32) (F : Nat → Int32) (P : Nat → Nat), am_gr (heap A F P) 15 5 0 = some 16) ∧ (∀ (A : Nat → List Int32) (F : Nat → Int32) (P : Nat → Nat), am_gr (heap A F P) 17 5 0 = some 18) ∧ (∀ (A : Nat → List Int32) (F : Nat → Int32) (P : Nat → Nat), am_gr (heap A F P) 19 0 0 = some 20) ∧ (∀ (A : Nat → List Int32) (F : Nat → Int32) (P : Nat → Nat), am_gr (heap A F P) 19 0 1 = some 22) ∧ (∀ (A : Nat → List Int32) (F : Nat → Int32) (P : Nat → Nat), am_gr (heap A F P) 19 0 2 = some 24) ∧ (∀ (A : Nat → List Int32) (F : Nat → Int32) (P : Nat → Nat), am_gr (heap A F P) 19 0 3 = some 26) ∧ (∀ (A : Nat → List Int32) (F : Nat → Int32) (P : Nat → Nat), am_gr (heap A F P) 19 0 4 = some 28) ∧ (∀ (A : Nat → List Int32) (F : Nat → Int32) (P : Nat → Nat), am_gr (heap A F P) 19 0 5 = some 30) ∧ (∀ (A : Nat → List Int32) (F : Nat → Int32) (P : Nat → Nat), am_gr (heap A F P) 20 5 0 = some 21) ∧ (∀ (A : Nat → List Int32) (F : Nat → Int32) (P : Nat → Nat), am_gr (heap A F P) 22 5 0 = some 23) ∧ (∀ (A : Nat → List Int32) (F : Nat → Int32) (P : Nat → Nat), am_gr (heap A F P) 24 5 0 = some 25) ∧ (∀ (A : Nat → List Int32) (F : Nat → Int32) (P : Nat → Nat), am_gr (heap A F P) 26 5 0 = some 27) ∧ (∀ (A : Nat → List Int32) (F : Nat → Int32) (P : Nat → Nat), am_gr (heap A F P) 28 5 0 = some 29) ∧ (∀ (A : Nat → List Int32) (F : Nat → Int32) (P : Nat → Nat), am_gr (heap A F P) 30 5 0 = some 31) ∧ (∀ (A : Nat → List Int32) (F : Nat → Int32) (P : Nat → Nat), am_gr (heap A F P) 32 5 0 = some 33) ∧ (∀ (A : Nat → List Int32) (F : Nat → Int32) (P : Nat → Nat), am_gr (heap A F P) 34 1 0 = some 35) ∧ (∀ (A : Nat → List Int32) (F : Nat → Int32) (P : Nat → Nat), am_gr (heap A F P) 164 6 0 = some 2) ∧ (∀ (A : Nat → List Int32) (F : Nat → Int32) (P : Nat → Nat), am_gr (heap A F P) 164 6 1 = some 165) ∧ (∀ (A : Nat → List Int32) (F : Nat → Int32) (P : Nat → Nat), am_gr (heap A F P) 164 6 2 = some 167) ∧ (∀ (A : Nat → List Int32) (F : Nat → Int32) (P : Nat → Nat), am_gr (heap A F P) 164 6 3 = some 169) ∧ (∀ (A : Nat → List Int32) (F : Nat → Int32) (P : Nat → Nat), am_gr (heap A F P) 164 6 4 = some 171) ∧ (∀ (A : Nat → List Int32) (F : Nat → Int32) (P : Nat → Nat), am_gr (heap A F P) 164 6 5 = some 173) ∧ (∀ (A : Nat → List Int32) (F : Nat → Int32) (P : Nat → Nat), am_gr (heap A F P) 164 6 6 = some 175) ∧ (∀ (A : Nat → List Int32) (F : Nat → Int32) (P : Nat → Nat), am_gr (heap A F P) 164 6 7 = some 177) ∧ (∀ (A : Nat → List Int32) (F : Nat → Int32) (P : Nat → Nat), am_gr (heap A F P) 164 6 8 = some 179) ∧ (∀ (A : Nat → List Int32) (F : Nat → Int32) (P : Nat → Nat), am_gr (heap A F P) 164 6 9 = some 181) ∧ (∀ (A : Nat → List Int32) (F : Nat → Int32) (P : Nat → Nat), am_gr (heap A F P) 165 5 0 = some 166) ∧ (∀ (A : Nat → List Int32) (F : Nat → Int32) (P : Nat → Nat), am_gr (heap A F P) 167 5 0 = some 168) ∧ (∀ (A : Nat → List Int32) (F : Nat → Int32) (P : Nat → Nat), am_gr (heap A F P) 169 5 0 = some 170) ∧ (∀ (A : Nat → List Int32) (F : Nat → Int32) (P : Nat → Nat), am_gr (heap A F P) 171 5 0 = some 172) ∧ (∀ (A : Nat → List Int32) (F : Nat → Int32) (P : Nat → Nat), am_gr (heap A F P) 173 5 0 = some 174) ∧ (∀ (A : Nat → List Int32) (F : Nat → Int32) (P : Nat → Nat), am_gr (heap A F P) 175 5 0 = some 176) ∧ (∀ (A : Nat → List Int32) (F : Nat → Int32) (P : Nat → Nat), am_gr (heap A F P) 177 5 0 = some 178) ∧ (∀ (A : Nat → List Int32) (F : Nat → Int32) (P : Nat → Nat), am_gr (heap A F P) 179 5 0 = some 180) ∧ (∀ (A : Nat → List Int32) (F : Nat → Int32) (P : Nat → Nat), am_gr (heap A F P) 181 5 0 = some 182) ∧ (∀ (A : Nat → List Int32) (F : Nat → Int32) (P : Nat → Nat), am_gr (heap A F P) 183 4 0 = some 2) ∧ (∀ (A : Nat → List Int32) (F : Nat → Int32) (P : Nat → Nat), am_gr (heap A F P) 183 4 1 = some 164) ∧ (∀ (A : Nat → List Int32) (F : Nat → Int32) (P : Nat → Nat), am_gr (heap A F P) 184 2 0 = some 185) ∧ (∀ (A : Nat → List Int32) (F : Nat → Int32) (P : Nat → Nat), am_gr (heap A F P) 184 2 2 = some 186) ∧ (∀ (A : Nat → List Int32) (F : Nat → Int32) (P : Nat → Nat), am_gr (heap A F P) 184 2 3 = some 188) ∧ (∀ (A : Nat → List Int32) (F : Nat → Int32) (P : Nat → Nat), am_gr (heap A F P) 184 2 4 = some 190) ∧ (∀ (A : Nat → List Int32) (F : Nat → Int32) (P : Nat → Nat), am_gr (heap A F P) 186 5 0 = some 187) ∧ (∀ (A : Nat → List Int32) (F : Nat → Int32) (P : Nat → Nat), am_gr (heap A F P) 188 5 0 = some 189) ∧ (∀ (A : Nat → List Int32) (F : Nat → Int32) (P : Nat → Nat), am_gr (heap A F P) 190 5 0 = some 191) := ⟨hpR_1_0, hpR_1_1, hpR_1_2, hpR_1_3, hpR_1_4, hpR_2_0, hpR_2_1, hpR_2_2, hpR_2_4, hpR_2_5, hpR_3_0, hpR_3_1, hpR_4_0, hpR_6_0, hpR_8_0, hpR_8_1, hpR_8_2, hpR_8_3, hpR_9_0, hpR_11_0, hpR_13_0, hpR_15_0, hpR_17_0, hpR_19_0, hpR_19_1, hpR_19_2, hpR_19_3, hpR_19_4, hpR_19_5, hpR_20_0, hpR_22_0, hpR_24_0, hpR_26_0, hpR_28_0, hpR_30_0, hpR_32_0, hpR_34_0, hpR_164_0, hpR_164_1, hpR_164_2, hpR_164_3, hpR_164_4, hpR_164_5, hpR_164_6, hpR_164_7, hpR_164_8, hpR_164_9, hpR_165_0, hpR_167_0, hpR_169_0, hpR_171_0, hpR_173_0, hpR_175_0, hpR_177_0, hpR_179_0, hpR_181_0, hpR_183_0, hpR_183_1, hpR_184_0, hpR_184_2, hpR_184_3, hpR_184_4, hpR_186_0, hpR_188_0, hpR_190_0⟩
theorem hpRY : (∀ (A : Nat → List Int32) (F : Nat → Int32) (P : Nat → Nat), am_gr (heap A F P) 36 7 0 = some 37) ∧ (∀ (A : Nat → List Int32) (F : Nat → Int32) (P : Nat → Nat), am_gr (heap A F P) 36 7 1 = some 42) ∧ (∀ (A : Nat → List Int32) (F : Nat → Int32) (P : Nat → Nat), am_gr (heap A F P) 36 7 2 = some 51) ∧ (∀ (A : Nat → List Int32) (F : Nat → Int32) (P : Nat → Nat), am_gr (heap A F P) 36 7 4 = some 53) ∧ (∀ (A : Nat → List Int32) (F : Nat → Int32) (P : Nat → Nat), am_gr (heap A F P) 36 7 5 = some 66) ∧ (∀ (A : Nat → List Int32) (F : Nat → Int32) (P : Nat → Nat), am_gr (heap A F P) 37 8 0 = some 38) ∧ (∀ (A : Nat → List Int32) (F : Nat → Int32) (P : Nat → Nat), am_gr (heap A F P) 37 8 1 = some 40) ∧ (∀ (A : Nat → List Int32) (F : Nat → Int32) (P : Nat → Nat), am_gr (heap A F P) 38 5 0 = some 39) ∧ (∀ (A : Nat → List Int32) (F : Nat → Int32) (P : Nat → Nat), am_gr (heap A F P) 40 5 0 = some 41) ∧ (∀ (A : Nat → List Int32) (F : Nat → Int32) (P : Nat → Nat), am_gr (heap A F P) 42 3 0 = some 43) ∧ (∀ (A : Nat → List Int32) (F : Nat → Int32) (P : Nat → Nat), am_gr (heap A F P) 42 3 1 = some 45) ∧ (∀ (A : Nat → List Int32) (F : Nat → Int32) (P : Nat → Nat), am_gr (heap A F P) 42 3 2 = some 47) ∧ (∀ (A : Nat → List Int32) (F : Nat → Int32) (P : Nat → Nat), am_gr (heap A F P) 42 3 3 = some 49) ∧ (∀ (A : Nat → List Int32) (F : Nat → Int32) (P : Nat → Nat), am_gr (heap A F P) 43 5 0 = some 44) ∧ (∀ (A : Nat → List Int32) (F : Nat → Int32) (P : Nat → Nat), am_gr (heap A F P) 45 5 0 = some 46) ∧ (∀ (A : Nat → List Int32) (F : Nat → Int32) (P : Nat → Nat), am_gr (heap A F P) 47 5 0 = some 48) ∧ (∀ (A : Nat → List Int32) (F : Nat → Int32) (P : Nat → Nat), am_gr (heap A F P) 49 5 0 = some 50) ∧ (∀ (A : Nat → List Int32) (F : Nat → Int32) (P : Nat → Nat), am_gr (heap A F P) 51 5 0 = some 52) ∧ (∀ (A : Nat → List Int32) (F : Nat → Int32) (P : Nat → Nat), am_gr (heap A F P) 53 0 0 = some 54) ∧ (∀ (A : Nat → List Int32) (F : Nat → Int32) (P : Nat → Nat), am_gr (heap A F P) 53 0 1 = some 56) ∧ (∀ (A : Nat → List Int32) (F : Nat → Int32) (P : Nat → Nat), am_gr (heap A F P) 53 0 2 = some 58) ∧ (∀ (A : Nat → List Int32) (F : Nat → Int32) (P : Nat → Nat), am_gr (heap A F P) 53 0 3 = some 60) ∧ (∀ (A : Nat → List Int32) (F : Nat → Int32) (P : Nat → Nat), am_gr (heap A F P) 53 0 4 = some 62) ∧ (∀ (A : Nat → List Int32) (F : Nat → Int32) (P : Nat → Nat), am_gr (heap A F P) 53 0 5 = some 64) ∧ (∀ (A : Nat → List Int32) (F : Nat → Int32) (P : Nat → Nat), am_gr (heap A F P) 54 5 0 = some 55) ∧ (∀ (A : Nat → List Int32) (F : Nat → Int32) (P : Nat → Nat), am_gr (heap A F P) 56 5 0 = some 57) ∧ (∀ (A : Nat → List Int32) (F : Nat → Int32) (P : Nat → Nat), am_gr (heap A F P) 58 5 0 = some 59) ∧ (∀ (A : Nat → List Int32) (F : Nat → Int32) (P : Nat → Nat), am_gr (heap A F P) 60 5 0 = some 61) ∧ (∀ (A : Nat → List Int32) (F : Nat → Int32) (P : Nat → Nat), am_gr (heap A F P) 62 5 0 = some 63) ∧ (∀ (A : Nat → List Int32) (F : Nat → Int32) (P : Nat → Nat), am_gr (heap A F P) 64 5 0 = some 65) ∧ (∀ (A : Nat → List Int32) (F : Nat → Int32) (P : Nat → Nat), am_gr (heap A F P) 66 5 0 = some 67) ∧ (∀ (A : Nat → List Int32) (F : Nat → Int32) (P : Nat → Nat), am_gr (heap A F P) 68 7 0 = some 69) ∧ (∀ (A : Nat → List Int32) (F : Nat → Int32) (P : Nat → Nat), am_gr (heap A F P) 68 7 1 = some 74) ∧ (∀ (A : Nat → List Int32) (F : Nat → Int32) (P : Nat → Nat), am_gr (heap A F P) 68 7 2 = some 83) ∧ (∀ (A : Nat → List Int32) (F : Nat → Int32) (P : Nat → Nat), am_gr (heap A F P) 68 7 4 = some 85) ∧ (∀ (A : Nat → List Int32) (F : Nat → Int32) (P : Nat → Nat), am_gr (heap A F P) 68 7 5 = some 98) ∧ (∀ (A : Nat → List Int32) (F : Nat → Int32) (P : Nat → Nat), am_gr (heap A F P) 69 8 0 = some 70) ∧ (∀ (A : Nat → List Int32) (F : Nat → Int32) (P : Nat → Nat), am_gr (heap A F P) 69 8 1 = some 72) ∧ (∀ (A : Nat → List Int32) (F : Nat → Int32) (P : Nat → Nat), am_gr (heap A F P) 70 5 0 = some 71) ∧ (∀ (A : Nat → List Int32) (F : Nat → Int32) (P : Nat → Nat), am_gr (heap A F P) 72 5 0 = some 73) ∧ (∀ (A : Nat → List Int32) (F : Nat → Int32) (P : Nat → Nat), am_gr (heap A F P) 74 3 0 = some 75) ∧ (∀ (A : Nat → List Int32) (F : Nat → Int32) (P : Nat → Nat), am_gr (heap A F P) 74 3 1 = some 77) ∧ (∀ (A : Nat → List Int32) (F : Nat → Int32) (P : Nat → Nat), am_gr (heap A F P) 74 3 2 = some 79) ∧ (∀ (A : Nat → List Int32) (F : Nat → Int32) (P : Nat → Nat), am_gr (heap A F P) 74 3 3 = some 81) ∧ (∀ (A : Nat → List Int32) (F : Nat → Int32) (P : Nat → Nat), am_gr (heap A F P) 75 5 0 = some 76) ∧ (∀ (A : Nat → List Int32) (F : Nat → Int32) (P : Nat → Nat), am_gr (heap A F P) 77 5 0 = some 78) ∧ (∀ (A : Nat → List Int32) (F : Nat → Int32) (P : Nat → Nat), am_gr (heap A F P) 79 5 0 = some 80) ∧ (∀ (A : Nat → List Int32) (F : Nat → Int32) (P : Nat → Nat), am_gr (heap A F P) 81 5 0 = some 82) ∧ (∀ (A : Nat → List Int32) (F : Nat → Int32) (P : Nat → Nat), am_gr (heap A F P) 83 5 0 = some 84) ∧ (∀ (A : Nat → List Int32) (F : Nat → Int32) (P : Nat → Nat), am_gr (heap A F P) 85 0 0 = some 86) ∧ (∀ (A : Nat → List Int32) (F : Nat → Int32) (P : Nat → Nat), am_gr (heap A F P) 85 0 1 = some 88) ∧ (∀ (A : Nat → List Int32) (F : Nat → Int32) (P : Nat → Nat), am_gr (heap A F P) 85 0 2 = some 90) ∧ (∀ (A : Nat → List Int32) (F : Nat → Int32) (P : Nat → Nat), am_gr (heap A F P) 85 0 3 = some 92) ∧ (∀ (A : Nat → List Int32) (F : Nat → Int32) (P : Nat → Nat), am_gr (heap A F P) 85 0 4 = some 94) ∧ (∀ (A : Nat → List Int32) (F : Nat → Int32) (P : Nat → Nat), am_gr (heap A F P) 85 0 5 = some 96) ∧ (∀ (A : Nat → List Int32) (F : Nat → Int32) (P : Nat → Nat), am_gr (heap A F P) 86 5 0 = some 87) ∧ (∀ (A : Nat → List Int32) (F : Nat → Int32) (P : Nat → Nat), am_gr (heap A F P) 88 5 0 = some 89) ∧ (∀ (A : Nat → List Int32) (F : Nat → Int32) (P : Nat → Nat), am_gr (heap A F P) 90 5 0 = some 91) ∧ (∀ (A : Nat → List Int32) (F : Nat → Int32) (P : Nat → Nat), am_gr (heap A F P) 92 5 0 = some 93) ∧ (∀ (A : Nat → List Int32) (F : Nat → Int32) (P : Nat → Nat), am_gr (heap A F P) 94 5 0 = some 95) ∧ (∀ (A : Nat → List Int32) (F : Nat → Int32) (P : Nat → Nat), am_gr (heap A F P) 96 5 0 = some 97) ∧ (∀ (A : Nat → List Int32) (F : Nat → Int32) (P : Nat → Nat), am_gr (heap A F P) 98 5 0 = some 99) ∧ (∀ (A : Nat → List Int32) (F : Nat → Int32) (P : Nat → Nat), am_gr (heap A F P) 100 7 0 = some 101) ∧ (∀ (A : Nat → List Int32) (F : Nat → Int32) (P : Nat → Nat), am_gr (heap A F P) 100 7 1 = some 106) ∧ (∀ (A : Nat → List Int32) (F : Nat → Int32) (P : Nat → Nat), am_gr (heap A F P) 100 7 2 = some 115) ∧ (∀ (A : Nat → List Int32) (F : Nat → Int32) (P : Nat → Nat), am_gr (heap A F P) 100 7 4 = some 117) ∧ (∀ (A : Nat → List Int32) (F : Nat → Int32) (P : Nat → Nat), am_gr (heap A F P) 100 7 5 = some 130) ∧ (∀ (A : Nat → List Int32) (F : Nat → Int32) (P : Nat → Nat), am_gr (heap A F P) 101 8 0 = some 102) ∧ (∀ (A : Nat → List Int32) (F : Nat → Int32) (P : Nat → Nat), am_gr (heap A F P) 101 8 1 = some 104) ∧ (∀ (A : Nat → List Int32) (F : Nat → Int32) (P : Nat → Nat), am_gr (heap A F P) 102 5 0 = some 103) ∧ (∀ (A : Nat → List Int32) (F : Nat → Int32) (P : Nat → Nat), am_gr (heap A F P) 104 5 0 = some 105) ∧ (∀ (A : Nat → List Int32) (F : Nat → Int32) (P : Nat → Nat), am_gr (heap A F P) 106 3 0 = some 107) ∧ (∀ (A : Nat → List Int32) (F : Nat → Int32) (P : Nat → Nat), am_gr (heap A F P) 106 3 1 = some 109) ∧ (∀ (A : Nat → List Int32) (F : Nat → Int32) (P : Nat → Nat), am_gr (heap A F P) 106 3 2 = some 111) ∧ (∀ (A : Nat → List Int32) (F : Nat → Int32) (P : Nat → Nat), am_gr (heap A F P) 106 3 3 = some 113) ∧ (∀ (A : Nat → List Int32) (F : Nat → Int32) (P : Nat → Nat), am_gr (heap A F P) 107 5 0 = some 108) ∧ (∀ (A : Nat → List Int32) (F : Nat → Int32) (P : Nat → Nat), am_gr (heap A F P) 109 5 0 = some 110) ∧ (∀ (A : Nat → List Int32) (F : Nat → Int32) (P : Nat → Nat), am_gr (heap A F P) 111 5 0 = some 112) ∧ (∀ (A : Nat → List Int32) (F : Nat → Int32) (P : Nat → Nat), am_gr (heap A F P) 113 5 0 = some 114) ∧ (∀ (A : Nat → List Int32) (F : Nat → Int32) (P : Nat → Nat), am_gr (heap A F P) 115 5 0 = some 116) ∧ (∀ (A : Nat → List Int32) (F : Nat → Int32) (P : Nat → Nat), am_gr (heap A F P) 117 0 0 = some 118) ∧ (∀ (A : Nat → List Int32) (F : Nat → Int32) (P : Nat → Nat), am_gr (heap A F P) 117 0 1 = some 120) ∧ (∀ (A : Nat → List Int32) (F : Nat → Int32) (P : Nat → Nat), am_gr (heap A F P) 117 0 2 = some 122) ∧ (∀ (A : Nat → List Int32) (F : Nat → Int32) (P : Nat → Nat), am_gr (heap A F P) 117 0 3 = some 124) ∧ (∀ (A : Nat → List Int32) (F : Nat → Int32) (P : Nat → Nat), am_gr (heap A F P) 117 0 4 = some 126) ∧ (∀ (A : Nat → List Int32) (F : Nat → Int32) (P : Nat → Nat), am_gr (heap A F P) 117 0 5 = some 128) ∧ (∀ (A : Nat → List Int32) (F : Nat → Int32) (P : Nat → Nat), am_gr (heap A F P) 118 5 0 = some 119) ∧ (∀ (A : Nat → List Int32) (F : Nat → Int32) (P : Nat → Nat), am_gr (heap A F P) 120 5 0 = some 121) ∧ (∀ (A : Nat → List Int32) (F : Nat → Int32) (P : Nat → Nat), am_gr (heap A F P) 122 5 0 = some 123) ∧ (∀ (A : Nat → List Int32) (F : Nat → Int32) (P : Nat → Nat), am_gr (heap A F P) 124 5 0 = some 125) ∧ (∀ (A : Nat → List Int32) (F : Nat → Int32) (P : Nat → Nat), am_gr (heap A F P) 126 5 0 = some 127) ∧ (∀ (A : Nat → List Int32) (F : Nat → Int32) (P : Nat → Nat), am_gr (heap A F P) 128 5 0 = some 129) ∧ (∀ (A : Nat → List Int32) (F : Nat → Int32) (P : Nat → Nat), am_gr (heap A F P) 130 5 0 = some 131) ∧ (∀ (A : Nat → List Int32) (F : Nat → Int32) (P : Nat → Nat), am_gr (heap A F P) 132 7 0 = some 133) ∧ (∀ (A : Nat → List Int32) (F : Nat → Int32) (P : Nat → Nat), am_gr (heap A F P) 132 7 1 = some 138) ∧ (∀ (A : Nat → List Int32) (F : Nat → Int32) (P : Nat → Nat), am_gr (heap A F P) 132 7 2 = some 147) ∧ (∀ (A : Nat → List Int32) (F : Nat → Int32) (P : Nat → Nat), am_gr (heap A F P) 132 7 4 = some 149) ∧ (∀ (A : Nat → List Int32) (F : Nat → Int32) (P : Nat → Nat), am_gr (heap A F P) 132 7 5 = some 162) ∧ (∀ (A : Nat → List Int32) (F : Nat → Int32) (P : Nat → Nat), am_gr (heap A F P) 133 8 0 = some 134) ∧ (∀ (A : Nat → List Int32) (F : Nat → Int32) (P : Nat → Nat), am_gr (heap A F P) 133 8 1 = some 136) ∧ (∀ (A : Nat → List Int32) (F : Nat → Int32) (P : Nat → Nat), am_gr (heap A F P) 134 5 0 = some 135) ∧ (∀ (A : Nat → List Int32) (F : Nat → Int32) (P : Nat → Nat), am_gr (heap A F P) 136 5 0 = some 137) ∧ (∀ (A : Nat → List Int32) (F : Nat → Int32) (P : Nat → Nat), am_gr (heap A F P) 138 3 0 = some 139) ∧ (∀ (A : Nat → List Int32) (F : Nat → Int32) (P : Nat → Nat), am_gr (heap A F P) 138 3 1 = some 141) ∧ (∀ (A : Nat → List Int32) (F : Nat → Int32) (P : Nat → Nat), am_gr (heap A F P) 138 3 2 = some 143) ∧ (∀ (A : Nat → List Int32) (F : Nat → Int32) (P : Nat → Nat), am_gr (heap A F P) 138 3 3 = some 145) ∧ (∀ (A : Nat → List Int32) (F : Nat → Int32) (P : Nat → Nat), am_gr (heap A F P) 139 5 0 = some 140) ∧ (∀ (A : Nat → List Int32) (F : Nat → Int32) (P : Nat → Nat), am_gr (heap A F P) 141 5 0 = some 142) ∧ (∀ (A : Nat → List Int32) (F : Nat → Int32) (P : Nat → Nat), am_gr (heap A F P) 143 5 0 = some 144) ∧ (∀ (A : Nat → List Int32) (F : Nat → Int32) (P : Nat → Nat), am_gr (heap A F P) 145 5 0 = some 146) ∧ (∀ (A : Nat → List Int32) (F : Nat → Int32) (P : Nat → Nat), am_gr (heap A F P) 147 5 0 = some 148) ∧ (∀ (A : Nat → List Int32) (F : Nat → Int32) (P : Nat → Nat), am_gr (heap A F P) 149 0 0 = some 150) ∧ (∀ (A : Nat → List Int32) (F : Nat → Int32) (P : Nat → Nat), am_gr (heap A F P) 149 0 1 = some 152) ∧ (∀ (A : Nat → List Int32) (F : Nat → Int32) (P : Nat → Nat), am_gr (heap A F P) 149 0 2 = some 154) ∧ (∀ (A : Nat → List Int32) (F : Nat → Int32) (P : Nat → Nat), am_gr (heap A F P) 149 0 3 = some 156) ∧ (∀ (A : Nat → List Int32) (F : Nat → Int32) (P : Nat → Nat), am_gr (heap A F P) 149 0 4 = some 158) ∧ (∀ (A : Nat → List Int32) (F : Nat → Int32) (P : Nat → Nat), am_gr (heap A F P) 149 0 5 = some 160) ∧ (∀ (A : Nat → List Int32) (F : Nat → Int32) (P : Nat → Nat), am_gr (heap A F P) 150 5 0 = some 151) ∧ (∀ (A : Nat → List Int32) (F : Nat → Int32) (P : Nat → Nat), am_gr (heap A F P) 152 5 0 = some 153) ∧ (∀ (A : Nat → List Int32) (F : Nat → Int32) (P : Nat → Nat), am_gr (heap A F P) 154 5 0 = some 155) ∧ (∀ (A : Nat → List Int32) (F : Nat → Int32) (P : Nat → Nat), am_gr (heap A F P) 156 5 0 = some 157) ∧ (∀ (A : Nat → List Int32) (F : Nat → Int32) (P : Nat → Nat), am_gr (heap A F P) 158 5 0 = some 159) ∧ (∀ (A : Nat → List Int32) (F : Nat → Int32) (P : Nat → Nat), am_gr (heap A F P) 160 5 0 = some 161) ∧ (∀ (A : Nat → List Int32) (F : Nat → Int32) (P : Nat → Nat), am_gr (heap A F P) 162 5 0 = some 163) := ⟨hpR_36_0, hpR_36_1, hpR_36_2, hpR_36_4, hpR_36_5, hpR_37_0, hpR_37_1, hpR_38_0, hpR_40_0, hpR_42_0, hpR_42_1, hpR_42_2, hpR_42_3, hpR_43_0, hpR_45_0, hpR_47_0, hpR_49_0, hpR_51_0, hpR_53_0, hpR_53_1, hpR_53_2, hpR_53_3, hpR_53_4, hpR_53_5, hpR_54_0, hpR_56_0, hpR_58_0, hpR_60_0, hpR_62_0, hpR_64_0, hpR_66_0, hpR_68_0, hpR_68_1, hpR_68_2, hpR_68_4, hpR_68_5, hpR_69_0, hpR_69_1, hpR_70_0, hpR_72_0, hpR_74_0, hpR_74_1, hpR_74_2, hpR_74_3, hpR_75_0, hpR_77_0, hpR_79_0, hpR_81_0, hpR_83_0, hpR_85_0, hpR_85_1, hpR_85_2, hpR_85_3, hpR_85_4, hpR_85_5, hpR_86_0, hpR_88_0, hpR_90_0, hpR_92_0, hpR_94_0, hpR_96_0, hpR_98_0, hpR_100_0, hpR_100_1, hpR_100_2, hpR_100_4, hpR_100_5, hpR_101_0, hpR_101_1, hpR_102_0, hpR_104_0, hpR_106_0, hpR_106_1, hpR_106_2, hpR_106_3, hpR_107_0, hpR_109_0, hpR_111_0, hpR_113_0, hpR_115_0, hpR_117_0, hpR_117_1, hpR_117_2, hpR_117_3, hpR_117_4, hpR_117_5, hpR_118_0, hpR_120_0, hpR_122_0, hpR_124_0, hpR_126_0, hpR_128_0, hpR_130_0, hpR_132_0, hpR_132_1, hpR_132_2, hpR_132_4, hpR_132_5, hpR_133_0, hpR_133_1, hpR_134_0, hpR_136_0, hpR_138_0, hpR_138_1, hpR_138_2, hpR_138_3, hpR_139_0, hpR_141_0, hpR_143_0, hpR_145_0, hpR_147_0, hpR_149_0, hpR_149_1, hpR_149_2, hpR_149_3, hpR_149_4, hpR_149_5, hpR_150_0, hpR_152_0, hpR_154_0, hpR_156_0, hpR_158_0, hpR_160_0, hpR_162_0⟩
set_option maxRecDepth 100000 in
theorem hpI_2_3 (A : Nat → List Int32) (F : Nat → Int32) (P : Nat → Nat) : am_gi (heap A F P) 2 7 3 = some (F 203) := rfl
set_option maxRecDepth 100000 in
theorem hpI_3_2 (A : Nat → List Int32) (F : Nat → Int32) (P : Nat → Nat) : am_gi (heap A F P) 3 8 2 = some (F 302) := rfl
set_option maxRecDepth 100000 in
theorem hpI_8_4 (A : Nat → List Int32) (F : Nat → Int32) (P : Nat → Nat) : am_gi (heap A F P) 8 3 4 = some (F 804) := rfl
set_option maxRecDepth 100000 in
theorem hpI_19_6 (A : Nat → List Int32) (F : Nat → Int32) (P : Nat → Nat) : am_gi (heap A F P) 19 0 6 = some (F 1906) := rfl
set_option maxRecDepth 100000 in
theorem hpI_34_1 (A : Nat → List Int32) (F : Nat → Int32) (P : Nat → Nat) : am_gi (heap A F P) 34 1 1 = some (F 3401) := rfl
set_option maxRecDepth 100000 in
theorem hpI_36_3 (A : Nat → List Int32) (F : Nat → Int32) (P : Nat → Nat) : am_gi (heap A F P) 36 7 3 = some (F 3603) := rfl
set_option maxRecDepth 100000 in
theorem hpI_37_2 (A : Nat → List Int32) (F : Nat → Int32) (P : Nat → Nat) : am_gi (heap A F P) 37 8 2 = some (F 3702) := rfl
set_option maxRecDepth 100000 in
theorem hpI_42_4 (A : Nat → List Int32) (F : Nat → Int32) (P : Nat → Nat) : am_gi (heap A F P) 42 3 4 = some (F 4204) := rfl
set_option maxRecDepth 100000 in
theorem hpI_53_6 (A : Nat → List Int32) (F : Nat → Int32) (P : Nat → Nat) : am_gi (heap A F P) 53 0 6 = some (F 5306) := rfl
set_option maxRecDepth 100000 in
theorem hpI_68_3 (A : Nat → List Int32) (F : Nat → Int32) (P : Nat → Nat) : am_gi (heap A F P) 68 7 3 = some (F 6803) := rfl
set_option maxRecDepth 100000 in
theorem hpI_69_2 (A : Nat → List Int32) (F : Nat → Int32) (P : Nat → Nat) : am_gi (heap A F P) 69 8 2 = some (F 6902) := rfl
set_option maxRecDepth 100000 in
theorem hpI_74_4 (A : Nat → List Int32) (F : Nat → Int32) (P : Nat → Nat) : am_gi (heap A F P) 74 3 4 = some (F 7404) := rfl
set_option maxRecDepth 100000 in
theorem hpI_85_6 (A : Nat → List Int32) (F : Nat → Int32) (P : Nat → Nat) : am_gi (heap A F P) 85 0 6 = some (F 8506) := rfl
set_option maxRecDepth 100000 in
theorem hpI_100_3 (A : Nat → List Int32) (F : Nat → Int32) (P : Nat → Nat) : am_gi (heap A F P) 100 7 3 = some (F 10003) := rfl
set_option maxRecDepth 100000 in
theorem hpI_101_2 (A : Nat → List Int32) (F : Nat → Int32) (P : Nat → Nat) : am_gi (heap A F P) 101 8 2 = some (F 10102) := rfl
set_option maxRecDepth 100000 in
theorem hpI_106_4 (A : Nat → List Int32) (F : Nat → Int32) (P : Nat → Nat) : am_gi (heap A F P) 106 3 4 = some (F 10604) := rfl
set_option maxRecDepth 100000 in
theorem hpI_117_6 (A : Nat → List Int32) (F : Nat → Int32) (P : Nat → Nat) : am_gi (heap A F P) 117 0 6 = some (F 11706) := rfl
set_option maxRecDepth 100000 in
theorem hpI_132_3 (A : Nat → List Int32) (F : Nat → Int32) (P : Nat → Nat) : am_gi (heap A F P) 132 7 3 = some (F 13203) := rfl
set_option maxRecDepth 100000 in
theorem hpI_133_2 (A : Nat → List Int32) (F : Nat → Int32) (P : Nat → Nat) : am_gi (heap A F P) 133 8 2 = some (F 13302) := rfl
set_option maxRecDepth 100000 in
theorem hpI_138_4 (A : Nat → List Int32) (F : Nat → Int32) (P : Nat → Nat) : am_gi (heap A F P) 138 3 4 = some (F 13804) := rfl
set_option maxRecDepth 100000 in
theorem hpI_149_6 (A : Nat → List Int32) (F : Nat → Int32) (P : Nat → Nat) : am_gi (heap A F P) 149 0 6 = some (F 14906) := rfl
set_option maxRecDepth 100000 in
theorem hpI_164_10 (A : Nat → List Int32) (F : Nat → Int32) (P : Nat → Nat) : am_gi (heap A F P) 164 6 10 = some (F 16410) := rfl
set_option maxRecDepth 100000 in
theorem hpI_184_1 (A : Nat → List Int32) (F : Nat → Int32) (P : Nat → Nat) : am_gi (heap A F P) 184 2 1 = some (F 18401) := rfl
set_option maxRecDepth 100000 in
theorem hpI_184_5 (A : Nat → List Int32) (F : Nat → Int32) (P : Nat → Nat) : am_gi (heap A F P) 184 2 5 = some (F 18405) := rfl
set_option maxRecDepth 100000 in
theorem hpI_184_6 (A : Nat → List Int32) (F : Nat → Int32) (P : Nat → Nat) : am_gi (heap A F P) 184 2 6 = some (F 18406) := rfl
set_option maxRecDepth 100000 in
theorem hpI_184_7 (A : Nat → List Int32) (F : Nat → Int32) (P : Nat → Nat) : am_gi (heap A F P) 184 2 7 = some (F 18407) := rfl
set_option maxRecDepth 100000 in
theorem hpI_184_8 (A : Nat → List Int32) (F : Nat → Int32) (P : Nat → Nat) : am_gi (heap A F P) 184 2 8 = some (F 18408) := rfl
set_option maxRecDepth 100000 in
theorem hpI_184_9 (A : Nat → List Int32) (F : Nat → Int32) (P : Nat → Nat) : am_gi (heap A F P) 184 2 9 = some (F 18409) := rfl
theorem hpIX : (∀ (A : Nat → List Int32) (F : Nat → Int32) (P : Nat → Nat), am_gi (heap A F P) 2 7 3 = some (F 203)) ∧ (∀ (A : Nat → List Int32) (F : Nat → Int32) (P : Nat → Nat), am_gi (heap A F P) 3 8 2 = some (F 302)) ∧ (∀ (A : Nat → List Int32) (F : Nat → Int32) (P : Nat → Nat), am_gi (heap A F P) 8 3 4 = some (F 804)) ∧ (∀ (A : Nat → List Int32) (F : Nat → Int32) (P : Nat → Nat), am_gi (heap A F P) 19 0 6 = some (F 1906)) ∧ (∀ (A : Nat → List Int32) (F : Nat → Int32) (P : Nat → Nat), am_gi (heap A F P) 34 1 1 = some (F 3401)) ∧ (∀ (A : Nat → List Int32) (F : Nat → Int32) (P : Nat → Nat), am_gi (heap A F P) 164 6 10 = some (F 16410)) ∧ (∀ (A : Nat → List Int32) (F : Nat → Int32) (P : Nat → Nat), am_gi (heap A F P) 184 2 1 = some (F 18401)) ∧ (∀ (A : Nat → List Int32) (F : Nat → Int32) (P : Nat → Nat), am_gi (heap A F P) 184 2 5 = some (F 18405)) ∧ (∀ (A : Nat → List Int32) (F : Nat → Int32) (P : Nat → Nat), am_gi (heap A F P) 184 2 6 = some (F 18406)) ∧ (∀ (A : Nat → List Int32) (F : Nat → Int32) (P : Nat → Nat), am_gi (heap A F P) 184 2 7 = some (F 18407)) ∧ (∀ (A : Nat → List Int32) (F : Nat → Int32) (P : Nat → Nat), am_gi (heap A F P) 184 2 8 = some (F 18408)) ∧ (∀ (A : Nat → List Int32) (F : Nat → Int32) (P : Nat → Nat), am_gi (heap A F P) 184 2 9 = some (F 18409)) := ⟨hpI_2_3, hpI_3_2, hpI_8_4, hpI_19_6, hpI_34_1, hpI_164_10, hpI_184_1, hpI_184_5, hpI_184_6, hpI_184_7, hpI_184_8, hpI_184_9⟩
theorem hpIY : (∀ (A : Nat → List Int32) (F : Nat → Int32) (P : Nat → Nat), am_gi (heap A F P) 36 7 3 = some (F 3603)) ∧ (∀ (A : Nat → List Int32) (F : Nat → Int32) (P : Nat → Nat), am_gi (heap A F P) 37 8 2 = some (F 3702)) ∧ (∀ (A : Nat → List Int32) (F : Nat → Int32) (P : Nat → Nat), am_gi (heap A F P) 42 3 4 = some (F 4204)) ∧ (∀ (A : Nat → List Int32) (F : Nat → Int32) (P : Nat → Nat), am_gi (heap A F P) 53 0 6 = some (F 5306)) ∧ (∀ (A : Nat → List Int32) (F : Nat → Int32) (P : Nat → Nat), am_gi (heap A F P) 68 7 3 = some (F 6803)) ∧ (∀ (A : Nat → List Int32) (F : Nat → Int32) (P : Nat → Nat), am_gi (heap A F P) 69 8 2 = some (F 6902)) ∧ (∀ (A : Nat → List Int32) (F : Nat → Int32) (P : Nat → Nat), am_gi (heap A F P) 74 3 4 = some (F 7404)) ∧ (∀ (A : Nat → List Int32) (F : Nat → Int32) (P : Nat → Nat), am_gi (heap A F P) 85 0 6 = some (F 8506)) ∧ (∀ (A : Nat → List Int32) (F : Nat → Int32) (P : Nat → Nat), am_gi (heap A F P) 100 7 3 = some (F 10003)) ∧ (∀ (A : Nat → List Int32) (F : Nat → Int32) (P : Nat → Nat), am_gi (heap A F P) 101 8 2 = some (F 10102)) ∧ (∀ (A : Nat → List Int32) (F : Nat → Int32) (P : Nat → Nat), am_gi (heap A F P) 106 3 4 = some (F 10604)) ∧ (∀ (A : Nat → List Int32) (F : Nat → Int32) (P : Nat → Nat), am_gi (heap A F P) 117 0 6 = some (F 11706)) ∧ (∀ (A : Nat → List Int32) (F : Nat → Int32) (P : Nat → Nat), am_gi (heap A F P) 132 7 3 = some (F 13203)) ∧ (∀ (A : Nat → List Int32) (F : Nat → Int32) (P : Nat → Nat), am_gi (heap A F P) 133 8 2 = some (F 13302)) ∧ (∀ (A : Nat → List Int32) (F : Nat → Int32) (P : Nat → Nat), am_gi (heap A F P) 138 3 4 = some (F 13804)) ∧ (∀ (A : Nat → List Int32) (F : Nat → Int32) (P : Nat → Nat), am_gi (heap A F P) 149 0 6 = some (F 14906)) := ⟨hpI_36_3, hpI_37_2, hpI_42_4, hpI_53_6, hpI_68_3, hpI_69_2, hpI_74_4, hpI_85_6, hpI_100_3, hpI_101_2, hpI_106_4, hpI_117_6, hpI_132_3, hpI_133_2, hpI_138_4, hpI_149_6⟩
set_option maxRecDepth 100000 in
theorem hpN_5 (A : Nat → List Int32) (F : Nat → Int32) (P : Nat → Nat) : am_len (heap A F P) 5 = some (Int32.ofNat (A 5).length) := rfl
set_option maxRecDepth 100000 in
theorem hpN_7 (A : Nat → List Int32) (F : Nat → Int32) (P : Nat → Nat) : am_len (heap A F P) 7 = some (Int32.ofNat (A 7).length) := rfl
set_option maxRecDepth 100000 in
theorem hpN_10 (A : Nat → List Int32) (F : Nat → Int32) (P : Nat → Nat) : am_len (heap A F P) 10 = some (Int32.ofNat (A 10).length) := rfl
set_option maxRecDepth 100000 in
theorem hpN_12 (A : Nat → List Int32) (F : Nat → Int32) (P : Nat → Nat) : am_len (heap A F P) 12 = some (Int32.ofNat (A 12).length) := rfl
set_option maxRecDepth 100000 in
theorem hpN_14 (A : Nat → List Int32) (F : Nat → Int32) (P : Nat → Nat) : am_len (heap A F P) 14 = some (Int32.ofNat (A 14).length) := rfl
set_option maxRecDepth 100000 in
theorem hpN_16 (A : Nat → List Int32) (F : Nat → Int32) (P : Nat → Nat) : am_len (heap A F P) 16 = some (Int32.ofNat (A 16).length) := rfl
set_option maxRecDepth 100000 in
theorem hpN_18 (A : Nat → List Int32) (F : Nat → Int32) (P : Nat → Nat) : am_len (heap A F P) 18 = some (Int32.ofNat (A 18).length) := rfl
set_option maxRecDepth 100000 in
theorem hpN_21 (A : Nat → List Int32) (F : Nat → Int32) (P : Nat → Nat) : am_len (heap A F P) 21 = some (Int32.ofNat (A 21).length) := rfl
set_option maxRecDepth 100000 in
theorem hpN_23 (A : Nat → List Int32) (F : Nat → Int32) (P : Nat → Nat) : am_len (heap A F P) 23 = some (Int32.ofNat (A 23).length) := rfl
set_option maxRecDepth 100000 in
theorem hpN_25 (A : Nat → List Int32) (F : Nat → Int32) (P : Nat → Nat) : am_len (heap A F P) 25 = some (Int32.ofNat (A 25).length) := rfl
set_option maxRecDepth 100000 in
theorem hpN_27 (A : Nat → List Int32) (F : Nat → Int32) (P : Nat → Nat) : am_len (heap A F P) 27 = some (Int32.ofNat (A 27).length) := rfl
set_option maxRecDepth 100000 in
theorem hpN_29 (A : Nat → List Int32) (F : Nat → Int32) (P : Nat → Nat) : am_len (heap A F P) 29 = some (Int32.ofNat (A 29).length) := rfl
set_option maxRecDepth 100000 in
theorem hpN_31 (A : Nat → List Int32) (F : Nat → Int32) (P : Nat → Nat) : am_len (heap A F P) 31 = some (Int32.ofNat (A 31).length) := rfl
set_option maxRecDepth 100000 in
theorem hpN_33 (A : Nat → List Int32) (F : Nat → Int32) (P : Nat → Nat) : am_len (heap A F P) 33 = some (Int32.ofNat (A 33).length) := rfl
set_option maxRecDepth 100000 in
theorem hpN_39 (A : Nat → List Int32) (F : Nat → Int32) (P : Nat → Nat) : am_len (heap A F P) 39 = some (Int32.ofNat (A 39).length) := rfl
set_option maxRecDepth 100000 in
theorem hpN_41 (A : Nat → List Int32) (F : Nat → Int32) (P : Nat → Nat) : am_len (heap A F P) 41 = some (Int32.ofNat (A 41).length) := rfl
set_option maxRecDepth 100000 in
theorem hpN_44 (A : Nat → List Int32) (F : Nat → Int32) (P : Nat → Nat) : am_len (heap A F P) 44 = some (Int32.ofNat (A 44).length) := rfl
set_option maxRecDepth 100000 in
theorem hpN_46 (A : Nat → List Int32) (F : Nat → Int32) (P : Nat → Nat) : am_len (heap A F P) 46 = some (Int32.ofNat (A 46).length) := rfl
set_option maxRecDepth 100000 in
theorem hpN_48 (A : Nat → List Int32) (F : Nat → Int32) (P : Nat → Nat) : am_len (heap A F P) 48 = some (Int32.ofNat (A 48).length) := rfl
set_option maxRecDepth 100000 in
theorem hpN_50 (A : Nat → List Int32) (F : Nat → Int32) (P : Nat → Nat) : am_len (heap A F P) 50 = some (Int32.ofNat (A 50).length) := rfl
set_option maxRecDepth 100000 in
theorem hpN_52 (A : Nat → List Int32) (F : Nat → Int32) (P : Nat → Nat) : am_len (heap A F P) 52 = some (Int32.ofNat (A 52).length) := rfl
set_option maxRecDepth 100000 in
theorem hpN_55 (A : Nat → List Int32) (F : Nat → Int32) (P : Nat → Nat) : am_len (heap A F P) 55 = some (Int32.ofNat (A 55).length) := rfl
set_option maxRecDepth 100000 in
theorem hpN_57 (A : Nat → List Int32) (F : Nat → Int32) (P : Nat → Nat) : am_len (heap A F P) 57 = some (Int32.ofNat (A 57).length) := rfl
set_option maxRecDepth 100000 in
theorem hpN_59 (A : Nat → List Int32) (F : Nat → Int32) (P : Nat → Nat) : am_len (heap A F P) 59 = some (Int32.ofNat (A 59).length) := rfl
set_option maxRecDepth 100000 in
theorem hpN_61 (A : Nat → List Int32) (F : Nat → Int32) (P : Nat → Nat) : am_len (heap A F P) 61 = some (Int32.ofNat (A 61).length) := rfl
set_option maxRecDepth 100000 in
theorem hpN_63 (A : Nat → List Int32) (F : Nat → Int32) (P : Nat → Nat) : am_len (heap A F P) 63 = some (Int32.ofNat (A 63).length) := rfl
set_option maxRecDepth 100000 in
theorem hpN_65 (A : Nat → List Int32) (F : Nat → Int32) (P : Nat → Nat) : am_len (heap A F P) 65 = some (Int32.ofNat (A 65).length) := rfl
set_option maxRecDepth 100000 in
theorem hpN_67 (A : Nat → List Int32) (F : Nat → Int32) (P : Nat → Nat) : am_len (heap A F P) 67 = some (Int32.ofNat (A 67).length) := rfl
set_option maxRecDepth 100000 in
theorem hpN_71 (A : Nat → List Int32) (F : Nat → Int32) (P : Nat → Nat) : am_len (heap A F P) 71 = some (Int32.ofNat (A 71).length) := rfl
set_option maxRecDepth 100000 in
theorem hpN_73 (A : Nat → List Int32) (F : Nat → Int32) (P : Nat → Nat) : am_len (heap A F P) 73 = some (Int32.ofNat (A 73).length) := rfl
set_option maxRecDepth 100000 in
theorem hpN_76 (A : Nat → List Int32) (F : Nat → Int32) (P : Nat → Nat) : am_len (heap A F P) 76 = some (Int32.ofNat (A 76).length) := rfl
set_option maxRecDepth 100000 in
theorem hpN_78 (A : Nat → List Int32) (F : Nat → Int32) (P : Nat → Nat) : am_len (heap A F P) 78 = some (Int32.ofNat (A 78).length) := rfl
set_option maxRecDepth 100000 in
theorem hpN_80 (A : Nat → List Int32) (F : Nat → Int32) (P : Nat → Nat) : am_len (heap A F P) 80 = some (Int32.ofNat (A 80).length) := rfl
set_option maxRecDepth 100000 in
theorem hpN_82 (A : Nat → List Int32) (F : Nat → Int32) (P : Nat → Nat) : am_len (heap A F P) 82 = some (Int32.ofNat (A 82).length) := rfl
set_option maxRecDepth 100000 in
theorem hpN_84 (A : Nat → List Int32) (F : Nat → Int32) (P : Nat → Nat) : am_len (heap A F P) 84 = some (Int32.ofNat (A 84).length) := rfl
set_option maxRecDepth 100000 in
theorem hpN_87 (A : Nat → List Int32) (F : Nat → Int32) (P : Nat → Nat) : am_len (heap A F P) 87 = some (Int32.ofNat (A 87).length) := rfl
set_option maxRecDepth 100000 in
theorem hpN_89 (A : Nat → List Int32) (F : Nat → Int32) (P : Nat → Nat) : am_len (heap A F P) 89 = some (Int32.ofNat (A 89).length) := rfl
set_option maxRecDepth 100000 in
theorem hpN_91 (A : Nat → List Int32) (F : Nat → Int32) (P : Nat → Nat) : am_len (heap A F P) 91 = some (Int32.ofNat (A 91).length) := rfl
set_option maxRecDepth 100000 in
theorem hpN_93 (A : Nat → List Int32) (F : Nat → Int32) (P : Nat → Nat) : am_len (heap A F P) 93 = some (Int32.ofNat (A 93).length) := rfl
set_option maxRecDepth 100000 in
theorem hpN_95 (A : Nat → List Int32) (F : Nat → Int32) (P : Nat → Nat) : am_len (heap A F P) 95 = some (Int32.ofNat (A 95).length) := rfl
set_option maxRecDepth 100000 in
theorem hpN_97 (A : Nat → List Int32) (F : Nat → Int32) (P : Nat → Nat) : am_len (heap A F P) 97 = some (Int32.ofNat (A 97).length) := rfl
set_option maxRecDepth 100000 in
theorem hpN_99 (A : Nat → List Int32) (F : Nat → Int32) (P : Nat → Nat) : am_len (heap A F P) 99 = some (Int32.ofNat (A 99).length) := rfl
set_option maxRecDepth 100000 in
theorem hpN_103 (A : Nat → List Int32) (F : Nat → Int32) (P : Nat → Nat) : am_len (heap A F P) 103 = some (Int32.ofNat (A 103).length) := rfl
set_option maxRecDepth 100000 in
theorem hpN_105 (A : Nat → List Int32) (F : Nat → Int32) (P : Nat → Nat) : am_len (heap A F P) 105 = some (Int32.ofNat (A 105).length) := rfl
set_option maxRecDepth 100000 in
theorem hpN_108 (A : Nat → List Int32) (F : Nat → Int32) (P : Nat → Nat) : am_len (heap A F P) 108 = some (Int32.ofNat (A 108).length) := rfl
set_option maxRecDepth 100000 in
theorem hpN_110 (A : Nat → List Int32) (F : Nat → Int32) (P : Nat → Nat) : am_len (heap A F P) 110 = some (Int32.ofNat (A 110).length) := rfl
set_option maxRecDepth 100000 in
theorem hpN_112 (A : Nat → List Int32) (F : Nat → Int32) (P : Nat → Nat) : am_len (heap A F P) 112 = some (Int32.ofNat (A 112).length) := rfl
set_option maxRecDepth 100000 in
theorem hpN_114 (A : Nat → List Int32) (F : Nat → Int32) (P : Nat → Nat) : am_len (heap A F P) 114 = some (Int32.ofNat (A 114).length) := rfl
set_option maxRecDepth 100000 in
theorem hpN_116 (A : Nat → List Int32) (F : Nat → Int32) (P : Nat → Nat) : am_len (heap A F P) 116 = some (Int32.ofNat (A 116).length) := rfl
set_option maxRecDepth 100000 in
theorem hpN_119 (A : Nat → List Int32) (F : Nat → Int32) (P : Nat → Nat) : am_len (heap A F P) 119 = some (Int32.ofNat (A 119).length) := rfl
set_option maxRecDepth 100000 in
theorem hpN_121 (A : Nat → List Int32) (F : Nat → Int32) (P : Nat → Nat) : am_len (heap A F P) 121 = some (Int32.ofNat (A 121).length) := rfl
set_option maxRecDepth 100000 in
theorem hpN_123 (A : Nat → List Int32) (F : Nat → Int32) (P : Nat → Nat) : am_len (heap A F P) 123 = some (Int32.ofNat (A 123).length) := rfl
set_option maxRecDepth 100000 in
theorem hpN_125 (A : Nat → List Int32) (F : Nat → Int32) (P : Nat → Nat) : am_len (heap A F P) 125 = some (Int32.ofNat (A 125).length) := rfl
set_option maxRecDepth 100000 in
theorem hpN_127 (A : Nat → List Int32) (F : Nat → Int32) (P : Nat → Nat) : am_len (heap A F P) 127 = some (Int32.ofNat (A 127).length) := rfl
set_option maxRecDepth 100000 in
theorem hpN_129 (A : Nat → List Int32) (F : Nat → Int32) (P : Nat → Nat) : am_len (heap A F P) 129 = some (Int32.ofNat (A 129).length) := rfl
set_option maxRecDepth 100000 in
theorem hpN_131 (A : Nat → List Int32) (F : Nat → Int32) (P : Nat → Nat) : am_len (heap A F P) 131 = some (Int32.ofNat (A 131).length) := rfl
set_option maxRecDepth 100000 in
theorem hpN_135 (A : Nat → List Int32) (F : Nat → Int32) (P : Nat → Nat) : am_len (heap A F P) 135 = some (Int32.ofNat (A 135).length) := rfl
set_option maxRecDepth 100000 in
theorem hpN_137 (A : Nat → List Int32) (F : Nat → Int32) (P : Nat → Nat) : am_len (heap A F P) 137 = some (Int32.ofNat (A 137).length) := rfl
set_option maxRecDepth 100000 in
theorem hpN_140 (A : Nat → List Int32) (F : Nat → Int32) (P : Nat → Nat) : am_len (heap A F P) 140 = some (Int32.ofNat (A 140).length) := rfl
set_option maxRecDepth 100000 in
theorem hpN_142 (A : Nat → List Int32) (F : Nat → Int32) (P : Nat → Nat) : am_len (heap A F P) 142 = some (Int32.ofNat (A 142).length) := rfl
set_option maxRecDepth 100000 in
theorem hpN_144 (A : Nat → List Int32) (F : Nat → Int32) (P : Nat → Nat) : am_len (heap A F P) 144 = some (Int32.ofNat (A 144).length) := rfl
set_option maxRecDepth 100000 in
theorem hpN_146 (A : Nat → List Int32) (F : Nat → Int32) (P : Nat → Nat) : am_len (heap A F P) 146 = some (Int32.ofNat (A 146).length) := rfl
set_option maxRecDepth 100000 in
theorem hpN_148 (A : Nat → List Int32) (F : Nat → Int32) (P : Nat → Nat) : am_len (heap A F P) 148 = some (Int32.ofNat (A 148).length) := rfl
set_option maxRecDepth 100000 in
theorem hpN_151 (A : Nat → List Int32) (F : Nat → Int32) (P : Nat → Nat) : am_len (heap A F P) 151 = some (Int32.ofNat (A 151).length) := rfl
set_option maxRecDepth 100000 in
theorem hpN_153 (A : Nat → List Int32) (F : Nat → Int32) (P : Nat → Nat) : am_len (heap A F P) 153 = some (Int32.ofNat (A 153).length) := rfl
set_option maxRecDepth 100000 in
theorem hpN_155 (A : Nat → List Int32) (F : Nat → Int32) (P : Nat → Nat) : am_len (heap A F P) 155 = some (Int32.ofNat (A 155).length) := rfl
set_option maxRecDepth 100000 in
theorem hpN_157 (A : Nat → List Int32) (F : Nat → Int32) (P : Nat → Nat) : am_len (heap A F P) 157 = some (Int32.ofNat (A 157).length) := rfl
set_option maxRecDepth 100000 in
theorem hpN_159 (A : Nat → List Int32) (F : Nat → Int32) (P : Nat → Nat) : am_len (heap A F P) 159 = some (Int32.ofNat (A 159).length) := rfl
set_option maxRecDepth 100000 in
theorem hpN_161 (A : Nat → List Int32) (F : Nat → Int32) (P : Nat → Nat) : am_len (heap A F P) 161 = some (Int32.ofNat (A 161).length) := rfl
set_option maxRecDepth 100000 in
theorem hpN_163 (A : Nat → List Int32) (F : Nat → Int32) (P : Nat → Nat) : am_len (heap A F P) 163 = some (Int32.ofNat (A 163).length) := rfl
set_option maxRecDepth 100000 in
theorem hpN_166 (A : Nat → List Int32) (F : Nat → Int32) (P : Nat → Nat) : am_len (heap A F P) 166 = some (Int32.ofNat (A 166).length) := rfl
set_option maxRecDepth 100000 in
theorem hpN_168 (A : Nat → List Int32) (F : Nat → Int32) (P : Nat → Nat) : am_len (heap A F P) 168 = some (Int32.ofNat (A 168).length) := rfl
set_option maxRecDepth 100000 in
theorem hpN_170 (A : Nat → List Int32) (F : Nat → Int32) (P : Nat → Nat) : am_len (heap A F P) 170 = some (Int32.ofNat (A 170).length) := rfl
set_option maxRecDepth 100000 in
theorem hpN_172 (A : Nat → List Int32) (F : Nat → Int32) (P : Nat → Nat) : am_len (heap A F P) 172 = some (Int32.ofNat (A 172).length) := rfl
set_option maxRecDepth 100000 in
theorem hpN_174 (A : Nat → List Int32) (F : Nat → Int32) (P : Nat → Nat) : am_len (heap A F P) 174 = some (Int32.ofNat (A 174).length) := rfl
set_option maxRecDepth 100000 in
theorem hpN_176 (A : Nat → List Int32) (F : Nat → Int32) (P : Nat → Nat) : am_len (heap A F P) 176 = some (Int32.ofNat (A 176).length) := rfl
set_option maxRecDepth 100000 in
theorem hpN_178 (A : Nat → List Int32) (F : Nat → Int32) (P : Nat → Nat) : am_len (heap A F P) 178 = some (Int32.ofNat (A 178).length) := rfl
set_option maxRecDepth 100000 in
theorem hpN_180 (A : Nat → List Int32) (F : Nat → Int32) (P : Nat → Nat) : am_len (heap A F P) 180 = some (Int32.ofNat (A 180).length) := rfl
set_option maxRecDepth 100000 in
theorem hpN_182 (A : Nat → List Int32) (F : Nat → Int32) (P : Nat → Nat) : am_len (heap A F P) 182 = some (Int32.ofNat (A 182).length) := rfl
set_option maxRecDepth 100000 in
theorem hpN_185 (A : Nat → List Int32) (F : Nat → Int32) (P : Nat → Nat) : am_len (heap A F P) 185 = some (Int32.ofNat (A 185).length) := rfl
set_option maxRecDepth 100000 in
theorem hpN_187 (A : Nat → List Int32) (F : Nat → Int32) (P : Nat → Nat) : am_len (heap A F P) 187 = some (Int32.ofNat (A 187).length) := rfl
set_option maxRecDepth 100000 in
theorem hpN_189 (A : Nat → List Int32) (F : Nat → Int32) (P : Nat → Nat) : am_len (heap A F P) 189 = some (Int32.ofNat (A 189).length) := rfl
set_option maxRecDepth 100000 in
theorem hpN_191 (A : Nat → List Int32) (F : Nat → Int32) (P : Nat → Nat) : am_len (heap A F P) 191 = some (Int32.ofNat (A 191).length) := rfl
set_option maxRecDepth 100000 in
theorem hpN_192 (A : Nat → List Int32) (F : Nat → Int32) (P : Nat → Nat) : am_len (heap A F P) 192 = some (Int32.ofNat (A 300).length) := rfl
set_option maxRecDepth 100000 in
theorem hpN_193 (A : Nat → List Int32) (F : Nat → Int32) (P : Nat → Nat) : am_len (heap A F P) 193 = some (Int32.ofNat (A 301).length) := rfl
set_option maxRecDepth 100000 in
theorem hpN_194 (A : Nat → List Int32) (F : Nat → Int32) (P : Nat → Nat) : am_len (heap A F P) 194 = some (Int32.ofNat (A 302).length) := rfl
set_option maxRecDepth 100000 in
theorem hpN_195 (A : Nat → List Int32) (F : Nat → Int32) (P : Nat → Nat) : am_len (heap A F P) 195 = some (Int32.ofNat (A 303).length) := rfl
set_option maxRecDepth 100000 in
theorem hpN_196 (A : Nat → List Int32) (F : Nat → Int32) (P : Nat → Nat) : am_len (heap A F P) 196 = some (Int32.ofNat (A 304).length) := rfl
theorem hpNX : (∀ (A : Nat → List Int32) (F : Nat → Int32) (P : Nat → Nat), am_len (heap A F P) 5 = some (Int32.ofNat (A 5).length)) ∧ (∀ (A : Nat → List Int32) (F : Nat → Int32) (P : Nat → Nat), am_len (heap A F P) 7 = some (Int32.ofNat (A 7).length)) ∧ (∀ (A : Nat → List Int32) (F : Nat → Int32) (P : Nat → Nat), am_len (heap A F P) 10 = some (Int32.ofNat (A 10).length)) ∧ (∀ (A : Nat → List Int32) (F : Nat → Int32) (P : Nat → Nat), am_len (heap A F P) 12 = some (Int32.ofNat (A 12).length)) ∧ (∀ (A : Nat → List Int32) (F : Nat → Int32) (P : Nat → Nat), am_len (heap A F P) 14 = some (Int32.ofNat (A 14).length)) ∧ (∀ (A : Nat → List Int32) (F : Nat → Int32) (P : Nat → Nat), am_len (heap A F P) 16 = some (Int32.ofNat (A 16).length)) ∧ (∀ (A : Nat → List Int32) (F : Nat → Int32) (P : Nat → Nat), am_len (heap A F P) 18 = some (Int32.ofNat (A 18).length)) ∧ (∀ (A : Nat → List Int32) (F : Nat → Int32) (P : Nat → Nat), am_len (heap A F P) 21 = some (Int32.ofNat (A 21).length)) ∧ (∀ (A : Nat → List Int32) (F : Nat → Int32) (P : Nat → Nat), am_len (heap A F P) 23 = some (Int32.ofNat (A 23).length)) ∧ (∀ (A : Nat → List Int32) (F : Nat → Int32) (P : Nat → Nat), am_len (heap A F P) 25 = some (Int32.ofNat (A 25).length)) ∧ (∀ (A : Nat → List Int32) (F : Nat → Int32) (P : Nat → Nat), am_len (heap A F P) 27 = some (Int32.ofNat (A 27).length)) ∧ (∀ (A : Nat → List Int32) (F : Nat → Int32) (P : Nat → Nat), am_len (heap A F P) 29 = some (Int32.ofNat (A 29).length)) ∧ (∀ (A : Nat → List Int32) (F : Nat → Int32) (P : Nat → Nat), am_len (heap A F P) 31 = some (Int32.ofNat (A 31).length)) ∧ (∀ (A : Nat → List Int32) (F : Nat → Int32) (P : Nat → Nat), am_len (heap A F P) 33 = some (Int32.ofNat (A 33).length)) ∧ (∀ (A : Nat → List Int32) (F : Nat → Int32) (P : Nat → Nat), am_len (heap A F P) 166 = some (Int32.ofNat (A 166).length)) ∧ (∀ (A : Nat → List Int32) (F : Nat → Int32) (P : Nat → Nat), am_len (heap A F P) 168 = some (Int32.ofNat (A 168).length)) ∧ (∀ (A : Nat → List Int32) (F : Nat → Int32) (P : Nat → Nat), am_len (heap A F P) 170 = some (Int32.ofNat (A 170).length)) ∧ (∀ (A : Nat → List Int32) (F : Nat → Int32) (P : Nat → Nat), am_len (heap A F P) 172 = some (Int32.ofNat (A 172).length)) ∧ (∀ (A : Nat → List Int32) (F : Nat → Int32) (P : Nat → Nat), am_len (heap A F P) 174 = some (Int32.ofNat (A 174).length)) ∧ (∀ (A : Nat → List Int32) (F : Nat → Int32) (P : Nat → Nat), am_len (heap A F P) 176 = some (Int32.ofNat (A 176).length)) ∧ (∀ (A : Nat → List Int32) (F : Nat → Int32) (P : Nat → Nat), am_len (heap A F P) 178 = some (Int32.ofNat (A 178).length)) ∧ (∀ (A : Nat → List Int32) (F : Nat → Int32) (P : Nat → Nat), am_len (heap A F P) 180 = some (Int32.ofNat (A 180).length)) ∧ (∀ (A : Nat → List Int32) (F : Nat → Int32) (P : Nat → Nat), am_len (heap A F P) 182 = some (Int32.ofNat (A 182).length)) ∧ (∀ (A : Nat → List Int32) (F : Nat → Int32) (P : Nat → Nat), am_len (heap A F P) 185 = some (Int32.ofNat (A 185).length)) ∧ (∀ (A : Nat → List Int32) (F : Nat → Int32) (P : Nat → Nat), am_len (heap A F P) 187 = some (Int32.ofNat (A 187).length)) ∧ (∀ (A : Nat → List Int32) (F : Nat → Int32) (P : Nat → Nat), am_len (heap A F P) 189 = some (Int32.ofNat (A 189).length)) ∧ (∀ (A : Nat → List Int32) (F : Nat → Int32) (P : Nat → Nat), am_len (heap A F P) 191 = some (Int32.ofNat (A 191).length)) := ⟨hpN_5, hpN_7, hpN_10, hpN_12, hpN_14, hpN_16, hpN_18, hpN_21, hpN_23, hpN_25, hpN_27, hpN_29, hpN_31, hpN_33, hpN_166, hpN_168, hpN_170, hpN_172, hpN_174, hpN_176, hpN_178, hpN_180, hpN_182, hpN_185, hpN_187, hpN_189, hpN_191⟩
theorem hpNM : (∀ (A : Nat → List Int32) (F : Nat → Int32) (P : Nat → Nat), am_len (heap A F P) 192 = some (Int32.ofNat (A 300).length)) ∧ (∀ (A : Nat → List Int32) (F : Nat → Int32) (P : Nat → Nat), am_len (heap A F P) 193 = some (Int32.ofNat (A 301).length)) ∧ (∀ (A : Nat → List Int32) (F : Nat → Int32) (P : Nat → Nat), am_len (heap A F P) 194 = some (Int32.ofNat (A 302).length)) ∧ (∀ (A : Nat → List Int32) (F : Nat → Int32) (P : Nat → Nat), am_len (heap A F P) 195 = some (Int32.ofNat (A 303).length)) ∧ (∀ (A : Nat → List Int32) (F : Nat → Int32) (P : Nat → Nat), am_len (heap A F P) 196 = some (Int32.ofNat (A 304).length)) := ⟨hpN_192, hpN_193, hpN_194, hpN_195, hpN_196⟩
theorem hpNY : (∀ (A : Nat → List Int32) (F : Nat → Int32) (P : Nat → Nat), am_len (heap A F P) 39 = some (Int32.ofNat (A 39).length)) ∧ (∀ (A : Nat → List Int32) (F : Nat → Int32) (P : Nat → Nat), am_len (heap A F P) 41 = some (Int32.ofNat (A 41).length)) ∧ (∀ (A : Nat → List Int32) (F : Nat → Int32) (P : Nat → Nat), am_len (heap A F P) 44 = some (Int32.ofNat (A 44).length)) ∧ (∀ (A : Nat → List Int32) (F : Nat → Int32) (P : Nat → Nat), am_len (heap A F P) 46 = some (Int32.ofNat (A 46).length)) ∧ (∀ (A : Nat → List Int32) (F : Nat → Int32) (P : Nat → Nat), am_len (heap A F P) 48 = some (Int32.ofNat (A 48).length)) ∧ (∀ (A : Nat → List Int32) (F : Nat → Int32) (P : Nat → Nat), am_len (heap A F P) 50 = some (Int32.ofNat (A 50).length)) ∧ (∀ (A : Nat → List Int32) (F : Nat → Int32) (P : Nat → Nat), am_len (heap A F P) 52 = some (Int32.ofNat (A 52).length)) ∧ (∀ (A : Nat → List Int32) (F : Nat → Int32) (P : Nat → Nat), am_len (heap A F P) 55 = some (Int32.ofNat (A 55).length)) ∧ (∀ (A : Nat → List Int32) (F : Nat → Int32) (P : Nat → Nat), am_len (heap A F P) 57 = some (Int32.ofNat (A 57).length)) ∧ (∀ (A : Nat → List Int32) (F : Nat → Int32) (P : Nat → Nat), am_len (heap A F P) 59 = some (Int32.ofNat (A 59).length)) ∧ (∀ (A : Nat → List Int32) (F : Nat → Int32) (P : Nat → Nat), am_len (heap A F P) 61 = some (Int32.ofNat (A 61).length)) ∧ (∀ (A : Nat → List Int32) (F : Nat → Int32) (P : Nat → Nat), am_len (heap A F P) 63 = some (Int32.ofNat (A 63).length)) ∧ (∀ (A : Nat → List Int32) (F : Nat → Int32) (P : Nat → Nat), am_len (heap A F P) 65 = some (Int32.ofNat (A 65).length)) ∧ (∀ (A : Nat → List Int32) (F : Nat → Int32) (P : Nat → Nat), am_len (heap A F P) 67 = some (Int32.ofNat (A 67).length)) ∧ (∀ (A : Nat → List Int32) (F : Nat → Int32) (P : Nat → Nat), am_len (heap A F P) 71 = some (Int32.ofNat (A 71).length)) ∧ (∀ (A : Nat → List Int32) (F : Nat → Int32) (P : Nat → Nat), am_len (heap A F P) 73 = some (Int32.ofNat (A 73).length)) ∧ (∀ (A : Nat → List Int32) (F : Nat → Int32) (P : Nat → Nat), am_len (heap A F P) 76 = some (Int32.ofNat (A 76).length)) ∧ (∀ (A : Nat → List Int32) (F : Nat → Int32) (P : Nat → Nat), am_len (heap A F P) 78 = some (Int32.ofNat (A 78).length)) ∧ (∀ (A : Nat → List Int32) (F : Nat → Int32) (P : Nat → Nat), am_len (heap A F P) 80 = some (Int32.ofNat (A 80).length)) ∧ (∀ (A : Nat → List Int32) (F : Nat → Int32) (P : Nat → Nat), am_len (heap A F P) 82 = some (Int32.ofNat (A 82).length)) ∧ (∀ (A : Nat → List Int32) (F : Nat → Int32) (P : Nat → Nat), am_len (heap A F P) 84 = some (Int32.ofNat (A 84).length)) ∧ (∀ (A : Nat → List Int32) (F : Nat → Int32) (P : Nat → Nat), am_len (heap A F P) 87 = some (Int32.ofNat (A 87).length)) ∧ (∀ (A : Nat → List Int32) (F : Nat → Int32) (P : Nat → Nat), am_len (heap A F P) 89 = some (Int32.ofNat (A 89).length)) ∧ (∀ (A : Nat → List Int32) (F : Nat → Int32) (P : Nat → Nat), am_len (heap A F P) 91 = some (Int32.ofNat (A 91).length)) ∧ (∀ (A : Nat → List Int32) (F : Nat → Int32) (P : Nat → Nat), am_len (heap A F P) 93 = some (Int32.ofNat (A 93).length)) ∧ (∀ (A : Nat → List Int32) (F : Nat → Int32) (P : Nat → Nat), am_len (heap A F P) 95 = some (Int32.ofNat (A 95).length)) ∧ (∀ (A : Nat → List Int32) (F : Nat → Int32) (P : Nat → Nat), am_len (heap A F P) 97 = some (Int32.ofNat (A 97).length)) ∧ (∀ (A : Nat → List Int32) (F : Nat → Int32) (P : Nat → Nat), am_len (heap A F P) 99 = some (Int32.ofNat (A 99).length)) ∧ (∀ (A : Nat → List Int32) (F : Nat → Int32) (P : Nat → Nat), am_len (heap A F P) 103 = some (Int32.ofNat (A 103).length)) ∧ (∀ (A : Nat → List Int32) (F : Nat → Int32) (P : Nat → Nat), am_len (heap A F P) 105 = some (Int32.ofNat (A 105).length)) ∧ (∀ (A : Nat → List Int32) (F : Nat → Int32) (P : Nat → Nat), am_len (heap A F P) 108 = some (Int32.ofNat (A 108).length)) ∧ (∀ (A : Nat → List Int32) (F : Nat → Int32) (P : Nat → Nat), am_len (heap A F P) 110 = some (Int32.ofNat (A 110).length)) ∧ (∀ (A : Nat → List Int32) (F : Nat → Int32) (P : Nat → Nat), am_len (heap A F P) 112 = some (Int32.ofNat (A 112).length)) ∧ (∀ (A : Nat → List Int32) (F : Nat → Int32) (P : Nat → Nat), am_len (heap A F P) 114 = some (Int32.ofNat (A 114).length)) ∧ (∀ (A : Nat → List Int32) (F : Nat → Int32) (P : Nat → Nat), am_len (heap A F P) 116 = some (Int32.ofNat (A 116).length)) ∧ (∀ (A : Nat → List Int32) (F : Nat → Int32) (P : Nat → Nat), am_len (heap A F P) 119 = some (Int32.ofNat (A 119).length)) ∧ (∀ (A : Nat → List Int32) (F : Nat → Int32) (P : Nat → Nat), am_len (heap A F P) 121 = some (Int32.ofNat (A 121).length)) ∧ (∀ (A : Nat → List Int32) (F : Nat → Int32) (P : Nat → Nat), am_len (heap A F P) 123 = some (Int32.ofNat (A 123).length)) ∧ (∀ (A : Nat → List Int32) (F : Nat → Int32) (P : Nat → Nat), am_len (heap A F P) 125 = some (Int32.ofNat (A 125).length)) ∧ (∀ (A : Nat → List Int32) (F : Nat → Int32) (P : Nat → Nat), am_len (heap A F P) 127 = some (Int32.ofNat (A 127).length)) ∧ (∀ (A : Nat → List Int32) (F : Nat → Int32) (P : Nat → Nat), am_len (heap A F P) 129 = some (Int32.ofNat (A 129).length)) ∧ (∀ (A : Nat → List Int32) (F : Nat → Int32) (P : Nat → Nat), am_len (heap A F P) 131 = some (Int32.ofNat (A 131).length)) ∧ (∀ (A : Nat → List Int32) (F : Nat → Int32) (P : Nat → Nat), am_len (heap A F P) 135 = some (Int32.ofNat (A 135).length)) ∧ (∀ (A : Nat → List Int32) (F : Nat → Int32) (P : Nat → Nat), am_len (heap A F P) 137 = some (Int32.ofNat (A 137).length)) ∧ (∀ (A : Nat → List Int32) (F : Nat → Int32) (P : Nat → Nat), am_len (heap A F P) 140 = some (Int32.ofNat (A 140).length)) ∧ (∀ (A : Nat → List Int32) (F : Nat → Int32) (P : Nat → Nat), am_len (heap A F P) 142 = some (Int32.ofNat (A 142).length)) ∧ (∀ (A : Nat → List Int32) (F : Nat → Int32) (P : Nat → Nat), am_len (heap A F P) 144 = some (Int32.ofNat (A 144).length)) ∧ (∀ (A : Nat → List Int32) (F : Nat → Int32) (P : Nat → Nat), am_len (heap A F P) 146 = some (Int32.ofNat (A 146).length)) ∧ (∀ (A : Nat → List Int32) (F : Nat → Int32) (P : Nat → Nat), am_len (heap A F P) 148 = some (Int32.ofNat (A 148).length)) ∧ (∀ (A : Nat → List Int32) (F : Nat → Int32) (P : Nat → Nat), am_len (heap A F P) 151 = some (Int32.ofNat (A 151).length)) ∧ (∀ (A : Nat → List Int32) (F : Nat → Int32) (P : Nat → Nat), am_len (heap A F P) 153 = some (Int32.ofNat (A 153).length)) ∧ (∀ (A : Nat → List Int32) (F : Nat → Int32) (P : Nat → Nat), am_len (heap A F P) 155 = some (Int32.ofNat (A 155).length)) ∧ (∀ (A : Nat → List Int32) (F : Nat → Int32) (P : Nat → Nat), am_len (heap A F P) 157 = some (Int32.ofNat (A 157).length)) ∧ (∀ (A : Nat → List Int32) (F : Nat → Int32) (P : Nat → Nat), am_len (heap A F P) 159 = some (Int32.ofNat (A 159).length)) ∧ (∀ (A : Nat → List Int32) (F : Nat → Int32) (P : Nat → Nat), am_len (heap A F P) 161 = some (Int32.ofNat (A 161).length)) ∧ (∀ (A : Nat → List Int32) (F : Nat → Int32) (P : Nat → Nat), am_len (heap A F P) 163 = some (Int32.ofNat (A 163).length)) := ⟨hpN_39, hpN_41, hpN_44, hpN_46, hpN_48, hpN_50, hpN_52, hpN_55, hpN_57, hpN_59, hpN_61, hpN_63, hpN_65, hpN_67, hpN_71, hpN_73, hpN_76, hpN_78, hpN_80, hpN_82, hpN_84, hpN_87, hpN_89, hpN_91, hpN_93, hpN_95, hpN_97, hpN_99, hpN_103, hpN_105, hpN_108, hpN_110, hpN_112, hpN_114, hpN_116, hpN_119, hpN_121, hpN_123, hpN_125, hpN_127, hpN_129, hpN_131, hpN_135, hpN_137, hpN_140, hpN_142, hpN_144, hpN_146, hpN_148, hpN_151, hpN_153, hpN_155, hpN_157, hpN_159, hpN_161, hpN_163⟩
set_option maxRecDepth 100000 in
theorem hpL_5 (A : Nat → List Int32) (F : Nat → Int32) (P : Nat → Nat) (i : Int32) : am_al (heap A F P) 0 5 i = bif am_in i (A 5).length then (A 5)[i.toNatClampNeg]? else none := rfl
set_option maxRecDepth 100000 in
theorem hpL_7 (A : Nat → List Int32) (F : Nat → Int32) (P : Nat → Nat) (i : Int32) : am_al (heap A F P) 0 7 i = bif am_in i (A 7).length then (A 7)[i.toNatClampNeg]? else none := rfl
set_option maxRecDepth 100000 in
theorem hpL_10 (A : Nat → List Int32) (F : Nat → Int32) (P : Nat → Nat) (i : Int32) : am_al (heap A F P) 0 10 i = bif am_in i (A 10).length then (A 10)[i.toNatClampNeg]? else none := rfl
set_option maxRecDepth 100000 in
theorem hpL_12 (A : Nat → List Int32) (F : Nat → Int32) (P : Nat → Nat) (i : Int32) : am_al (heap A F P) 0 12 i = bif am_in i (A 12).length then (A 12)[i.toNatClampNeg]? else none := rfl
set_option maxRecDepth 100000 in
theorem hpL_14 (A : Nat → List Int32) (F : Nat → Int32) (P : Nat → Nat) (i : Int32) : am_al (heap A F P) 0 14 i = bif am_in i (A 14).length then (A 14)[i.toNatClampNeg]? else none := rfl
set_option maxRecDepth 100000 in
theorem hpL_16 (A : Nat → List Int32) (F : Nat → Int32) (P : Nat → Nat) (i : Int32) : am_al (heap A F P) 0 16 i = bif am_in i (A 16).length then (A 16)[i.toNatClampNeg]? else none := rfl
set_option maxRecDepth 100000 in
theorem hpL_18 (A : Nat → List Int32) (F : Nat → Int32) (P : Nat → Nat) (i : Int32) : am_al (heap A F P) 0 18 i = bif am_in i (A 18).length then (A 18)[i.toNatClampNeg]? else none := rfl
set_option maxRecDepth 100000 in
theorem hpL_21 (A : Nat → List Int32) (F : Nat → Int32) (P : Nat → Nat) (i : Int32) : am_al (heap A F P) 0 21 i = bif am_in i (A 21).length then (A 21)[i.toNatClampNeg]? else none := rfl
set_option maxRecDepth 100000 in
theorem hpL_23 (A : Nat → List Int32) (F : Nat → Int32) (P : Nat → Nat) (i : Int32) : am_al (heap A F P) 0 23 i = bif am_in i (A 23).length then (A 23)[i.toNatClampNeg]? else none := rfl
set_option maxRecDepth 100000 in
theorem hpL_25 (A : Nat → List Int32) (F : Nat → Int32) (P : Nat → Nat) (i : Int32) : am_al (heap A F P) 0 25 i = bif am_in i (A 25).length then (A 25)[i.toNatClampNeg]? else none := rfl
set_option maxRecDepth 100000 in
theorem hpL_27 (A : Nat → List Int32) (F : Nat → Int32) (P : Nat → Nat) (i : Int32) : am_al (heap A F P) 0 27 i = bif am_in i (A 27).length then (A 27)[i.toNatClampNeg]? else none := rfl
set_option maxRecDepth 100000 in
theorem hpL_29 (A : Nat → List Int32) (F : Nat → Int32) (P : Nat → Nat) (i : Int32) : am_al (heap A F P) 0 29 i = bif am_in i (A 29).length then (A 29)[i.toNatClampNeg]? else none := rfl
set_option maxRecDepth 100000 in
theorem hpL_31 (A : Nat → List Int32) (F : Nat → Int32) (P : Nat → Nat) (i : Int32) : am_al (heap A F P) 0 31 i = bif am_in i (A 31).length then (A 31)[i.toNatClampNeg]? else none := rfl
set_option maxRecDepth 100000 in
theorem hpL_33 (A : Nat → List Int32) (F : Nat → Int32) (P : Nat → Nat) (i : Int32) : am_al (heap A F P) 0 33 i = bif am_in i (A 33).length then (A 33)[i.toNatClampNeg]? else none := rfl
set_option maxRecDepth 100000 in
theorem hpL_39 (A : Nat → List Int32) (F : Nat → Int32) (P : Nat → Nat) (i : Int32) : am_al (heap A F P) 0 39 i = bif am_in i (A 39).length then (A 39)[i.toNatClampNeg]? else none := rfl
set_option maxRecDepth 100000 in
theorem hpL_41 (A : Nat → List Int32) (F : Nat → Int32) (P : Nat → Nat) (i : Int32) : am_al (heap A F P) 0 41 i = bif am_in i (A 41).length then (A 41)[i.toNatClampNeg]? else none := rfl
set_option maxRecDepth 100000 in
theorem hpL_44 (A : Nat → List Int32) (F : Nat → Int32) (P : Nat → Nat) (i : Int32) : am_al (heap A F P) 0 44 i = bif am_in i (A 44).length then (A 44)[i.toNatClampNeg]? else none := rfl
set_option maxRecDepth 100000 in
theorem hpL_46 (A : Nat → List Int32) (F : Nat → Int32) (P : Nat → Nat) (i : Int32) : am_al (heap A F P) 0 46 i = bif am_in i (A 46).length then (A 46)[i.toNatClampNeg]? else none := rfl
set_option maxRecDepth 100000 in
theorem hpL_48 (A : Nat → List Int32) (F : Nat → Int32) (P : Nat → Nat) (i : Int32) : am_al (heap A F P) 0 48 i = bif am_in i (A 48).length then (A 48)[i.toNatClampNeg]? else none := rfl
set_option maxRecDepth 100000 in
theorem hpL_50 (A : Nat → List Int32) (F : Nat → Int32) (P : Nat → Nat) (i : Int32) : am_al (heap A F P) 0 50 i = bif am_in i (A 50).length then (A 50)[i.toNatClampNeg]? else none := rfl
set_option maxRecDepth 100000 in
theorem hpL_52 (A : Nat → List Int32) (F : Nat → Int32) (P : Nat → Nat) (i : Int32) : am_al (heap A F P) 0 52 i = bif am_in i (A 52).length then (A 52)[i.toNatClampNeg]? else none := rfl
set_option maxRecDepth 100000 in
theorem hpL_55 (A : Nat → List Int32) (F : Nat → Int32) (P : Nat → Nat) (i : Int32) : am_al (heap A F P) 0 55 i = bif am_in i (A 55).length then (A 55)[i.toNatClampNeg]? else none := rfl
set_option maxRecDepth 100000 in
theorem hpL_57 (A : Nat → List Int32) (F : Nat → Int32) (P : Nat → Nat) (i : Int32) : am_al (heap A F P) 0 57 i = bif am_in i (A 57).length then (A 57)[i.toNatClampNeg]? else none := rfl
set_option maxRecDepth 100000 in
theorem hpL_59 (A : Nat → List Int32) (F : Nat → Int32) (P : Nat → Nat) (i : Int32) : am_al (heap A F P) 0 59 i = bif am_in i (A 59).length then (A 59)[i.toNatClampNeg]? else none := rfl
set_option maxRecDepth 100000 in
theorem hpL_61 (A : Nat → List Int32) (F : Nat → Int32) (P : Nat → Nat) (i : Int32) : am_al (heap A F P) 0 61 i = bif am_in i (A 61).length then (A 61)[i.toNatClampNeg]? else none := rfl
set_option maxRecDepth 100000 in
theorem hpL_63 (A : Nat → List Int32) (F : Nat → Int32) (P : Nat → Nat) (i : Int32) : am_al (heap A F P) 0 63 i = bif am_in i (A 63).length then (A 63)[i.toNatClampNeg]? else none := rfl
set_option maxRecDepth 100000 in
theorem hpL_65 (A : Nat → List Int32) (F : Nat → Int32) (P : Nat → Nat) (i : Int32) : am_al (heap A F P) 0 65 i = bif am_in i (A 65).length then (A 65)[i.toNatClampNeg]? else none := rfl
set_option maxRecDepth 100000 in
theorem hpL_67 (A : Nat → List Int32) (F : Nat → Int32) (P : Nat → Nat) (i : Int32) : am_al (heap A F P) 0 67 i = bif am_in i (A 67).length then (A 67)[i.toNatClampNeg]? else none := rfl
set_option maxRecDepth 100000 in
theorem hpL_71 (A : Nat → List Int32) (F : Nat → Int32) (P : Nat → Nat) (i : Int32) : am_al (heap A F P) 0 71 i = bif am_in i (A 71).length then (A 71)[i.toNatClampNeg]? else none := rfl
set_option maxRecDepth 100000 in
theorem hpL_73 (A : Nat → List Int32) (F : Nat → Int32) (P : Nat → Nat) (i : Int32) : am_al (heap A F P) 0 73 i = bif am_in i (A 73).length then (A 73)[i.toNatClampNeg]? else none := rfl
set_option maxRecDepth 100000 in
theorem hpL_76 (A : Nat → List Int32) (F : Nat → Int32) (P : Nat → Nat) (i : Int32) : am_al (heap A F P) 0 76 i = bif am_in i (A 76).length then (A 76)[i.toNatClampNeg]? else none := rfl
set_option maxRecDepth 100000 in
theorem hpL_78 (A : Nat → List Int32) (F : Nat → Int32) (P : Nat → Nat) (i : Int32) : am_al (heap A F P) 0 78 i = bif am_in i (A 78).length then (A 78)[i.toNatClampNeg]? else none := rfl
set_option maxRecDepth 100000 in
theorem hpL_80 (A : Nat → List Int32) (F : Nat → Int32) (P : Nat → Nat) (i : Int32) : am_al (heap A F P) 0 80 i = bif am_in i (A 80).length then (A 80)[i.toNatClampNeg]? else none := rfl
set_option maxRecDepth 100000 in
theorem hpL_82 (A : Nat → List Int32) (F : Nat → Int32) (P : Nat → Nat) (i : Int32) : am_al (heap A F P) 0 82 i = bif am_in i (A 82).length then (A 82)[i.toNatClampNeg]? else none := rfl
set_option maxRecDepth 100000 in
theorem hpL_84 (A : Nat → List Int32) (F : Nat → Int32) (P : Nat → Nat) (i : Int32) : am_al (heap A F P) 0 84 i = bif am_in i (A 84).length then (A 84)[i.toNatClampNeg]? else none := rfl
set_option maxRecDepth 100000 in
theorem hpL_87 (A : Nat → List Int32) (F : Nat → Int32) (P : Nat → Nat) (i : Int32) : am_al (heap A F P) 0 87 i = bif am_in i (A 87).length then (A 87)[i.toNatClampNeg]? else none := rfl
set_option maxRecDepth 100000 in
theorem hpL_89 (A : Nat → List Int32) (F : Nat → Int32) (P : Nat → Nat) (i : Int32) : am_al (heap A F P) 0 89 i = bif am_in i (A 89).length then (A 89)[i.toNatClampNeg]? else none := rfl
set_option maxRecDepth 100000 in
theorem hpL_91 (A : Nat → List Int32) (F : Nat → Int32) (P : Nat → Nat) (i : Int32) : am_al (heap A F P) 0 91 i = bif am_in i (A 91).length then (A 91)[i.toNatClampNeg]? else none := rfl
set_option maxRecDepth 100000 in
theorem hpL_93 (A : Nat → List Int32) (F : Nat → Int32) (P : Nat → Nat) (i : Int32) : am_al (heap A F P) 0 93 i = bif am_in i (A 93).length then (A 93)[i.toNatClampNeg]? else none := rfl
set_option maxRecDepth 100000 in
theorem hpL_95 (A : Nat → List Int32) (F : Nat → Int32) (P : Nat → Nat) (i : Int32) : am_al (heap A F P) 0 95 i = bif am_in i (A 95).length then (A 95)[i.toNatClampNeg]? else none := rfl
set_option maxRecDepth 100000 in
theorem hpL_97 (A : Nat → List Int32) (F : Nat → Int32) (P : Nat → Nat) (i : Int32) : am_al (heap A F P) 0 97 i = bif am_in i (A 97).length then (A 97)[i.toNatClampNeg]? else none := rfl
set_option maxRecDepth 100000 in
theorem hpL_99 (A : Nat → List Int32) (F : Nat → Int32) (P : Nat → Nat) (i : Int32) : am_al (heap A F P) 0 99 i = bif am_in i (A 99).length then (A 99)[i.toNatClampNeg]? else none := rfl
set_option maxRecDepth 100000 in
theorem hpL_103 (A : Nat → List Int32) (F : Nat → Int32) (P : Nat → Nat) (i : Int32) : am_al (heap A F P) 0 103 i = bif am_in i (A 103).length then (A 103)[i.toNatClampNeg]? else none := rfl
set_option maxRecDepth 100000 in
theorem hpL_105 (A : Nat → List Int32) (F : Nat → Int32) (P : Nat → Nat) (i : Int32) : am_al (heap A F P) 0 105 i = bif am_in i (A 105).length then (A 105)[i.toNatClampNeg]? else none := rfl
set_option maxRecDepth 100000 in
theorem hpL_108 (A : Nat → List Int32) (F : Nat → Int32) (P : Nat → Nat) (i : Int32) : am_al (heap A F P) 0 108 i = bif am_in i (A 108).length then (A 108)[i.toNatClampNeg]? else none := rfl
set_option maxRecDepth 100000 in
theorem hpL_110 (A : Nat → List Int32) (F : Nat → Int32) (P : Nat → Nat) (i : Int32) : am_al (heap A F P) 0 110 i = bif am_in i (A 110).length then (A 110)[i.toNatClampNeg]? else none := rfl
set_option maxRecDepth 100000 in
theorem hpL_112 (A : Nat → List Int32) (F : Nat → Int32) (P : Nat → Nat) (i : Int32) : am_al (heap A F P) 0 112 i = bif am_in i (A 112).length then (A 112)[i.toNatClampNeg]? else none := rfl
set_option maxRecDepth 100000 in
theorem hpL_114 (A : Nat → List Int32) (F : Nat → Int32) (P : Nat → Nat) (i : Int32) : am_al (heap A F P) 0 114 i = bif am_in i (A 114).length then (A 114)[i.toNatClampNeg]? else none := rfl
set_option maxRecDepth 100000 in
theorem hpL_116 (A : Nat → List Int32) (F : Nat → Int32) (P : Nat → Nat) (i : Int32) : am_al (heap A F P) 0 116 i = bif am_in i (A 116).length then (A 116)[i.toNatClampNeg]? else none := rfl
set_option maxRecDepth 100000 in
theorem hpL_119 (A : Nat → List Int32) (F : Nat → Int32) (P : Nat → Nat) (i : Int32) : am_al (heap A F P) 0 119 i = bif am_in i (A 119).length then (A 119)[i.toNatClampNeg]? else none := rfl
set_option maxRecDepth 100000 in
theorem hpL_121 (A : Nat → List Int32) (F : Nat → Int32) (P : Nat → Nat) (i : Int32) : am_al (heap A F P) 0 121 i = bif am_in i (A 121).length then (A 121)[i.toNatClampNeg]? else none := rfl
set_option maxRecDepth 100000 in
theorem hpL_123 (A : Nat → List Int32) (F : Nat → Int32) (P : Nat → Nat) (i : Int32) : am_al (heap A F P) 0 123 i = bif am_in i (A 123).length then (A 123)[i.toNatClampNeg]? else none := rfl
set_option maxRecDepth 100000 in
theorem hpL_125 (A : Nat → List Int32) (F : Nat → Int32) (P : Nat → Nat) (i : Int32) : am_al (heap A F P) 0 125 i = bif am_in i (A 125).length then (A 125)[i.toNatClampNeg]? else none := rfl
set_option maxRecDepth 100000 in
theorem hpL_127 (A : Nat → List Int32) (F : Nat → Int32) (P : Nat → Nat) (i : Int32) : am_al (heap A F P) 0 127 i = bif am_in i (A 127).length then (A 127)[i.toNatClampNeg]? else none := rfl
set_option maxRecDepth 100000 in
theorem hpL_129 (A : Nat → List Int32) (F : Nat → Int32) (P : Nat → Nat) (i : Int32) : am_al (heap A F P) 0 129 i = bif am_in i (A 129).length then (A 129)[i.toNatClampNeg]? else none := rfl
set_option maxRecDepth 100000 in
theorem hpL_131 (A : Nat → List Int32) (F : Nat → Int32) (P : Nat → Nat) (i : Int32) : am_al (heap A F P) 0 131 i = bif am_in i (A 131).length then (A 131)[i.toNatClampNeg]? else none := rfl
set_option maxRecDepth 100000 in
theorem hpL_135 (A : Nat → List Int32) (F : Nat → Int32) (P : Nat → Nat) (i : Int32) : am_al (heap A F P) 0 135 i = bif am_in i (A 135).length then (A 135)[i.toNatClampNeg]? else none := rfl
set_option maxRecDepth 100000 in
theorem hpL_137 (A : Nat → List Int32) (F : Nat → Int32) (P : Nat → Nat) (i : Int32) : am_al (heap A F P) 0 137 i = bif am_in i (A 137).length then (A 137)[i.toNatClampNeg]? else none := rfl
set_option maxRecDepth 100000 in
theorem hpL_140 (A : Nat → List Int32) (F : Nat → Int32) (P : Nat → Nat) (i : Int32) : am_al (heap A F P) 0 140 i = bif am_in i (A 140).length then (A 140)[i.toNatClampNeg]? else none := rfl
set_option maxRecDepth 100000 in
theorem hpL_142 (A : Nat → List Int32) (F : Nat → Int32) (P : Nat → Nat) (i : Int32) : am_al (heap A F P) 0 142 i = bif am_in i (A 142).length then (A 142)[i.toNatClampNeg]? else none := rfl
set_option maxRecDepth 100000 in
theorem hpL_144 (A : Nat → List Int32) (F : Nat → Int32) (P : Nat → Nat) (i : Int32) : am_al (heap A F P) 0 144 i = bif am_in i (A 144).length then (A 144)[i.toNatClampNeg]? else none := rfl
set_option maxRecDepth 100000 in
theorem hpL_146 (A : Nat → List Int32) (F : Nat → Int32) (P : Nat → Nat) (i : Int32) : am_al (heap A F P) 0 146 i = bif am_in i (A 146).length then (A 146)[i.toNatClampNeg]? else none := rfl
set_option maxRecDepth 100000 in
theorem hpL_148 (A : Nat → List Int32) (F : Nat → Int32) (P : Nat → Nat) (i : Int32) : am_al (heap A F P) 0 148 i = bif am_in i (A 148).length then (A 148)[i.toNatClampNeg]? else none := rfl
set_option maxRecDepth 100000 in
theorem hpL_151 (A : Nat → List Int32) (F : Nat → Int32) (P : Nat → Nat) (i : Int32) : am_al (heap A F P) 0 151 i = bif am_in i (A 151).length then (A 151)[i.toNatClampNeg]? else none := rfl
set_option maxRecDepth 100000 in
theorem hpL_153 (A : Nat → List Int32) (F : Nat → Int32) (P : Nat → Nat) (i : Int32) : am_al (heap A F P) 0 153 i = bif am_in i (A 153).length then (A 153)[i.toNatClampNeg]? else none := rfl
set_option maxRecDepth 100000 in
theorem hpL_155 (A : Nat → List Int32) (F : Nat → Int32) (P : Nat → Nat) (i : Int32) : am_al (heap A F P) 0 155 i = bif am_in i (A 155).length then (A 155)[i.toNatClampNeg]? else none := rfl
set_option maxRecDepth 100000 in
theorem hpL_157 (A : Nat → List Int32) (F : Nat → Int32) (P : Nat → Nat) (i : Int32) : am_al (heap A F P) 0 157 i = bif am_in i (A 157).length then (A 157)[i.toNatClampNeg]? else none := rfl
set_option maxRecDepth 100000 in
theorem hpL_159 (A : Nat → List Int32) (F : Nat → Int32) (P : Nat → Nat) (i : Int32) : am_al (heap A F P) 0 159 i = bif am_in i (A 159).length then (A 159)[i.toNatClampNeg]? else none := rfl
set_option maxRecDepth 100000 in
theorem hpL_161 (A : Nat → List Int32) (F : Nat → Int32) (P : Nat → Nat) (i : Int32) : am_al (heap A F P) 0 161 i = bif am_in i (A 161).length then (A 161)[i.toNatClampNeg]? else none := rfl
set_option maxRecDepth 100000 in
theorem hpL_163 (A : Nat → List Int32) (F : Nat → Int32) (P : Nat → Nat) (i : Int32) : am_al (heap A F P) 0 163 i = bif am_in i (A 163).length then (A 163)[i.toNatClampNeg]? else none := rfl
set_option maxRecDepth 100000 in
theorem hpL_166 (A : Nat → List Int32) (F : Nat → Int32) (P : Nat → Nat) (i : Int32) : am_al (heap A F P) 0 166 i = bif am_in i (A 166).length then (A 166)[i.toNatClampNeg]? else none := rfl
set_option maxRecDepth 100000 in
theorem hpL_168 (A : Nat → List Int32) (F : Nat → Int32) (P : Nat → Nat) (i : Int32) : am_al (heap A F P) 0 168 i = bif am_in i (A 168).length then (A 168)[i.toNatClampNeg]? else none := rfl
set_option maxRecDepth 100000 in
theorem hpL_170 (A : Nat → List Int32) (F : Nat → Int32) (P : Nat → Nat) (i : Int32) : am_al (heap A F P) 0 170 i = bif am_in i (A 170).length then (A 170)[i.toNatClampNeg]? else none := rfl
set_option maxRecDepth 100000 in
theorem hpL_172 (A : Nat → List Int32) (F : Nat → Int32) (P : Nat → Nat) (i : Int32) : am_al (heap A F P) 0 172 i = bif am_in i (A 172).length then (A 172)[i.toNatClampNeg]? else none := rfl
set_option maxRecDepth 100000 in
theorem hpL_174 (A : Nat → List Int32) (F : Nat → Int32) (P : Nat → Nat) (i : Int32) : am_al (heap A F P) 0 174 i = bif am_in i (A 174).length then (A 174)[i.toNatClampNeg]? else none := rfl
set_option maxRecDepth 100000 in
theorem hpL_176 (A : Nat → List Int32) (F : Nat → Int32) (P : Nat → Nat) (i : Int32) : am_al (heap A F P) 0 176 i = bif am_in i (A 176).length then (A 176)[i.toNatClampNeg]? else none := rfl
set_option maxRecDepth 100000 in
theorem hpL_178 (A : Nat → List Int32) (F : Nat → Int32) (P : Nat → Nat) (i : Int32) : am_al (heap A F P) 0 178 i = bif am_in i (A 178).length then (A 178)[i.toNatClampNeg]? else none := rfl
set_option maxRecDepth 100000 in
theorem hpL_180 (A : Nat → List Int32) (F : Nat → Int32) (P : Nat → Nat) (i : Int32) : am_al (heap A F P) 0 180 i = bif am_in i (A 180).length then (A 180)[i.toNatClampNeg]? else none := rfl
set_option maxRecDepth 100000 in
theorem hpL_182 (A : Nat → List Int32) (F : Nat → Int32) (P : Nat → Nat) (i : Int32) : am_al (heap A F P) 0 182 i = bif am_in i (A 182).length then (A 182)[i.toNatClampNeg]? else none := rfl
set_option maxRecDepth 100000 in
theorem hpL_185 (A : Nat → List Int32) (F : Nat → Int32) (P : Nat → Nat) (i : Int32) : am_al (heap A F P) 1 185 i = bif am_in i (A 185).length then (A 185)[i.toNatClampNeg]? else none := rfl
set_option maxRecDepth 100000 in
theorem hpL_187 (A : Nat → List Int32) (F : Nat → Int32) (P : Nat → Nat) (i : Int32) : am_al (heap A F P) 0 187 i = bif am_in i (A 187).length then (A 187)[i.toNatClampNeg]? else none := rfl
set_option maxRecDepth 100000 in
theorem hpL_189 (A : Nat → List Int32) (F : Nat → Int32) (P : Nat → Nat) (i : Int32) : am_al (heap A F P) 0 189 i = bif am_in i (A 189).length then (A 189)[i.toNatClampNeg]? else none := rfl
set_option maxRecDepth 100000 in
theorem hpL_191 (A : Nat → List Int32) (F : Nat → Int32) (P : Nat → Nat) (i : Int32) : am_al (heap A F P) 0 191 i = bif am_in i (A 191).length then (A 191)[i.toNatClampNeg]? else none := rfl
set_option maxRecDepth 100000 in
theorem hpL_192 (A : Nat → List Int32) (F : Nat → Int32) (P : Nat → Nat) (i : Int32) : am_al (heap A F P) 0 192 i = bif am_in i (A 300).length then (A 300)[i.toNatClampNeg]? else none := rfl
set_option maxRecDepth 100000 in
theorem hpL_193 (A : Nat → List Int32) (F : Nat → Int32) (P : Nat → Nat) (i : Int32) : am_al (heap A F P) 0 193 i = bif am_in i (A 301).length then (A 301)[i.toNatClampNeg]? else none := rfl
set_option maxRecDepth 100000 in
theorem hpL_194 (A : Nat → List Int32) (F : Nat → Int32) (P : Nat → Nat) (i : Int32) : am_al (heap A F P) 0 194 i = bif am_in i (A 302).length then (A 302)[i.toNatClampNeg]? else none := rfl
set_option maxRecDepth 100000 in
theorem hpL_195 (A : Nat → List Int32) (F : Nat → Int32) (P : Nat → Nat) (i : Int32) : am_al (heap A F P) 0 195 i = bif am_in i (A 303).length then (A 303)[i.toNatClampNeg]? else none := rfl
set_option maxRecDepth 100000 in
theorem hpL_196 (A : Nat → List Int32) (F : Nat → Int32) (P : Nat → Nat) (i : Int32) : am_al (heap A F P) 0 196 i = bif am_in i (A 304).length then (A 304)[i.toNatClampNeg]? else none := rfl
theorem hpLX : (∀ (A : Nat → List Int32) (F : Nat → Int32) (P : Nat → Nat) (i : Int32), am_al (heap A F P) 0 5 i = bif am_in i (A 5).length then (A 5)[i.toNatClampNeg]? else none) ∧ (∀ (A : Nat → List Int32) (F : Nat → Int32) (P : Nat → Nat) (i : Int32), am_al (heap A F P) 0 7 i = bif am_in i (A 7).length then (A 7)[i.toNatClampNeg]? else none) ∧ (∀ (A : Nat → List Int32) (F : Nat → Int32) (P : Nat → Nat) (i : Int32), am_al (heap A F P) 0 10 i = bif am_in i (A 10).length then (A 10)[i.toNatClampNeg]? else none) ∧ (∀ (A : Nat → List Int32) (F : Nat → Int32) (P : Nat → Nat) (i : Int32), am_al (heap A F P) 0 12 i = bif am_in i (A 12).length then (A 12)[i.toNatClampNeg]? else none) ∧ (∀ (A : Nat → List Int32) (F : Nat → Int32) (P : Nat → Nat) (i : Int32), am_al (heap A F P) 0 14 i = bif am_in i (A 14).length then (A 14)[i.toNatClampNeg]? else none) ∧ (∀ (A : Nat → List Int32) (F : Nat → Int32) (P : Nat → Nat) (i : Int32), am_al (heap A F P) 0 16 i = bif am_in i (A 16).length then (A 16)[i.toNatClampNeg]? else none) ∧ (∀ (A : Nat → List Int32) (F : Nat → Int32) (P : Nat → Nat) (i : Int32), am_al (heap A F P) 0 18 i = bif am_in i (A 18).length then (A 18)[i.toNatClampNeg]? else none) ∧ (∀ (A : Nat → List Int32) (F : Nat → Int32) (P : Nat → Nat) (i : Int32), am_al (heap A F P) 0 21 i = bif am_in i (A 21).length then (A 21)[i.toNatClampNeg]? else none) ∧ (∀ (A : Nat → List Int32) (F : Nat → Int32) (P : Nat → Nat) (i : Int32), am_al (heap A F P) 0 23 i = bif am_in i (A 23).length then (A 23)[i.toNatClampNeg]? else none) ∧ (∀ (A : Nat → List Int32) (F : Nat → Int32) (P : Nat → Nat) (i : Int32), am_al (heap A F P) 0 25 i = bif am_in i (A 25).length then (A 25)[i.toNatClampNeg]? else none) ∧ (∀ (A : Nat → List Int32) (F : Nat → Int32) (P : Nat → Nat) (i : Int32), am_al (heap A F P) 0 27 i = bif am_in i (A 27).length then (A 27)[i.toNatClampNeg]? else none) ∧ (∀ (A : Nat → List Int32) (F : Nat → Int32) (P : Nat → Nat) (i : Int32), am_al (heap A F P) 0 29 i = bif am_in i (A 29).length then (A 29)[i.toNatClampNeg]? else none) ∧ (∀ (A : Nat → List Int32) (F : Nat → Int32) (P : Nat → Nat) (i : Int32), am_al (heap A F P) 0 31 i = bif am_in i (A 31).length then (A 31)[i.toNatClampNeg]? else none) ∧ (∀ (A : Nat → List Int32) (F : Nat → Int32) (P : Nat → Nat) (i : Int32), am_al (heap A F P) 0 33 i = bif am_in i (A 33).length then (A 33)[i.toNatClampNeg]? else none) ∧ (∀ (A : Nat → List Int32) (F : Nat → Int32) (P : Nat → Nat) (i : Int32), am_al (heap A F P) 0 166 i = bif am_in i (A 166).length then (A 166)[i.toNatClampNeg]? else none) ∧ (∀ (A : Nat → List Int32) (F : Nat → Int32) (P : Nat → Nat) (i : Int32), am_al (heap A F P) 0 168 i = bif am_in i (A 168).length then (A 168)[i.toNatClampNeg]? else none) ∧ (∀ (A : Nat → List Int32) (F : Nat → Int32) (P : Nat → Nat) (i : Int32), am_al (heap A F P) 0 170 i = bif am_in i (A 170).length then (A 170)[i.toNatClampNeg]? else none) ∧ (∀ (A : Nat → List Int32) (F : Nat → Int32) (P : Nat → Nat) (i : Int32), am_al (heap A F P) 0 172 i = bif am_in i (A 172).length then (A 172)[i.toNatClampNeg]? else none) ∧ (∀ (A : Nat → List Int32) (F : Nat → Int32) (P : Nat → Nat) (i : Int32), am_al (heap A F P) 0 174 i = bif am_in i (A 174).length then (A 174)[i.toNatClampNeg]? else none) ∧ (∀ (A : Nat → List Int32) (F : Nat → Int32) (P : Nat → Nat) (i : Int32), am_al (heap A F P) 0 176 i = bif am_in i (A 176).length then (A 176)[i.toNatClampNeg]? else none) ∧ (∀ (A : Nat → List Int32) (F : Nat → Int32) (P : Nat → Nat) (i : Int32), am_al (heap A F P) 0 178 i = bif am_in i (A 178).length then (A 178)[i.toNatClampNeg]? else none) ∧ (∀ (A : Nat → List Int32) (F : Nat → Int32) (P : Nat → Nat) (i : Int32), am_al (heap A F P) 0 180 i = bif am_in i (A 180).length then (A 180)[i.toNatClampNeg]? else none) ∧ (∀ (A : Nat → List Int32) (F : Nat → Int32) (P : Nat → Nat) (i : Int32), am_al (heap A F P) 0 182 i = bif am_in i (A 182).length then (A 182)[i.toNatClampNeg]? else none) ∧ (∀ (A : Nat → List Int32) (F : Nat → Int32) (P : Nat → Nat) (i : Int32), am_al (heap A F P) 1 185 i = bif am_in i (A 185).length then (A 185)[i.toNatClampNeg]? else none) ∧ (∀ (A : Nat → List Int32) (F : Nat → Int32) (P : Nat → Nat) (i : Int32), am_al (heap A F P) 0 187 i = bif am_in i (A 187).length then (A 187)[i.toNatClampNeg]? else none) ∧ (∀ (A : Nat → List Int32) (F : Nat → Int32) (P : Nat → Nat) (i : Int32), am_al (heap A F P) 0 189 i = bif am_in i (A 189).length then (A 189)[i.toNatClampNeg]? else none) ∧ (∀ (A : Nat → List Int32) (F : Nat → Int32) (P : Nat → Nat) (i : Int32), am_al (heap A F P) 0 191 i = bif am_in i (A 191).length then (A 191)[i.toNatClampNeg]? else none) := ⟨hpL_5, hpL_7, hpL_10, hpL_12, hpL_14, hpL_16, hpL_18, hpL_21, hpL_23, hpL_25, hpL_27, hpL_29, hpL_31, hpL_33, hpL_166, hpL_168, hpL_170, hpL_172, hpL_174, hpL_176, hpL_178, hpL_180, hpL_182, hpL_185, hpL_187, hpL_189, hpL_191⟩
theorem hpLM : (∀ (A : Nat → List Int32) (F : Nat → Int32) (P : Nat → Nat) (i : Int32), am_al (heap A F P) 0 192 i = bif am_in i (A 300).length then (A 300)[i.toNatClampNeg]? else none) ∧ (∀ (A : Nat → List Int32) (F : Nat → Int32) (P : Nat → Nat) (i : Int32), am_al (heap A F P) 0 193 i = bif am_in i (A 301).length then (A 301)[i.toNatClampNeg]? else none) ∧ (∀ (A : Nat → List Int32) (F : Nat → Int32) (P : Nat → Nat) (i : Int32), am_al (heap A F P) 0 194 i = bif am_in i (A 302).length then (A 302)[i.toNatClampNeg]? else none) ∧ (∀ (A : Nat → List Int32) (F : Nat → Int32) (P : Nat → Nat) (i : Int32), am_al (heap A F P) 0 195 i = bif am_in i (A 303).length then (A 303)[i.toNatClampNeg]? else none) ∧ (∀ (A : Nat → List Int32) (F : Nat → Int32) (P : Nat → Nat) (i : Int32), am_al (heap A F P) 0 196 i = bif am_in i (A 304).length then (A 304)[i.toNatClampNeg]? else none) := ⟨hpL_192, hpL_193, hpL_194, hpL_195, hpL_196⟩
theorem hpLY : (∀ (A : Nat → List Int32) (F : Nat → Int32) (P : Nat → Nat) (i : Int32), am_al (heap A F P) 0 39 i = bif am_in i (A 39).length then (A 39)[i.toNatClampNeg]? else none) ∧ (∀ (A : Nat → List Int32) (F : Nat → Int32) (P : Nat → Nat) (i : Int32), am_al (heap A F P) 0 41 i = bif am_in i (A 41).length then (A 41)[i.toNatClampNeg]? else none) ∧ (∀ (A : Nat → List Int32) (F : Nat → Int32) (P : Nat → Nat) (i : Int32), am_al (heap A F P) 0 44 i = bif am_in i (A 44).length then (A 44)[i.toNatClampNeg]? else none) ∧ (∀ (A : Nat → List Int32) (F : Nat → Int32) (P : Nat → Nat) (i : Int32), am_al (heap A F P) 0 46 i = bif am_in i (A 46).length then (A 46)[i.toNatClampNeg]? else none) ∧ (∀ (A : Nat → List Int32) (F : Nat → Int32) (P : Nat → Nat) (i : Int32), am_al (heap A F P) 0 48 i = bif am_in i (A 48).length then (A 48)[i.toNatClampNeg]? else none) ∧ (∀ (A : Nat → List Int32) (F : Nat → Int32) (P : Nat → Nat) (i : Int32), am_al (heap A F P) 0 50 i = bif am_in i (A 50).length then (A 50)[i.toNatClampNeg]? else none) ∧ (∀ (A : Nat → List Int32) (F : Nat → Int32) (P : Nat → Nat) (i : Int32), am_al (heap A F P) 0 52 i = bif am_in i (A 52).length then (A 52)[i.toNatClampNeg]? else none) ∧ (∀ (A : Nat → List Int32) (F : Nat → Int32) (P : Nat → Nat) (i : Int32), am_al (heap A F P) 0 55 i = bif am_in i (A 55).length then (A 55)[i.toNatClampNeg]? else none) ∧ (∀ (A : Nat → List Int32) (F : Nat → Int32) (P : Nat → Nat) (i : Int32), am_al (heap A F P) 0 57 i = bif am_in i (A 57).length then (A 57)[i.toNatClampNeg]? else none) ∧ (∀ (A : Nat → List Int32) (F : Nat → Int32) (P : Nat → Nat) (i : Int32), am_al (heap A F P) 0 59 i = bif am_in i (A 59).length then (A 59)[i.toNatClampNeg]? else none) ∧ (∀ (A : Nat → List Int32) (F : Nat → Int32) (P : Nat → Nat) (i : Int32), am_al (heap A F P) 0 61 i = bif am_in i (A 61).length then (A 61)[i.toNatClampNeg]? else none) ∧ (∀ (A : Nat → List Int32) (F : Nat → Int32) (P : Nat → Nat) (i : Int32), am_al (heap A F P) 0 63 i = bif am_in i (A 63).length then (A 63)[i.toNatClampNeg]? else none) ∧ (∀ (A : Nat → List Int32) (F : Nat → Int32) (P : Nat → Nat) (i : Int32), am_al (heap A F P) 0 65 i = bif am_in i (A 65).length then (A 65)[i.toNatClampNeg]? else none) ∧ (∀ (A : Nat → List Int32) (F : Nat → Int32) (P : Nat → Nat) (i : Int32), am_al (heap A F P) 0 67 i = bif am_in i (A 67).length then (A 67)[i.toNatClampNeg]? else none) ∧ (∀ (A : Nat → List Int32) (F : Nat → Int32) (P : Nat → Nat) (i : Int32), am_al (heap A F P) 0 71 i = bif am_in i (A 71).length then (A 71)[i.toNatClampNeg]? else none) ∧ (∀ (A : Nat → List Int32) (F : Nat → Int32) (P : Nat → Nat) (i : Int32), am_al (heap A F P) 0 73 i = bif am_in i (A 73).length then (A 73)[i.toNatClampNeg]? else none) ∧ (∀ (A : Nat → List Int32) (F : Nat → Int32) (P : Nat → Nat) (i : Int32), am_al (heap A F P) 0 76 i = bif am_in i (A 76).length then (A 76)[i.toNatClampNeg]? else none) ∧ (∀ (A : Nat → List Int32) (F : Nat → Int32) (P : Nat → Nat) (i : Int32), am_al (heap A F P) 0 78 i = bif am_in i (A 78).length then (A 78)[i.toNatClampNeg]? else none) ∧ (∀ (A : Nat → List Int32) (F : Nat → Int32) (P : Nat → Nat) (i : Int32), am_al (heap A F P) 0 80 i = bif am_in i (A 80).length then (A 80)[i.toNatClampNeg]? else none) ∧ (∀ (A : Nat → List Int32) (F : Nat → Int32) (P : Nat → Nat) (i : Int32), am_al (heap A F P) 0 82 i = bif am_in i (A 82).length then (A 82)[i.toNatClampNeg]? else none) ∧ (∀ (A : Nat → List Int32) (F : Nat → Int32) (P : Nat → Nat) (i : Int32), am_al (heap A F P) 0 84 i = bif am_in i (A 84).length then (A 84)[i.toNatClampNeg]? else none) ∧ (∀ (A : Nat → List Int32) (F : Nat → Int32) (P : Nat → Nat) (i : Int32), am_al (heap A F P) 0 87 i = bif am_in i (A 87).length then (A 87)[i.toNatClampNeg]? else none) ∧ (∀ (A : Nat → List Int32) (F : Nat → Int32) (P : Nat → Nat) (i : Int32), am_al (heap A F P) 0 89 i = bif am_in i (A 89).length then (A 89)[i.toNatClampNeg]? else none) ∧ (∀ (A : Nat → List Int32) (F : Nat → Int32) (P : Nat → Nat) (i : Int32), am_al (heap A F P) 0 91 i = bif am_in i (A 91).length then (A 91)[i.toNatClampNeg]? else none) ∧ (∀ (A : Nat → List Int32) (F : Nat → Int32) (P : Nat → Nat) (i : Int32), am_al (heap A F P) 0 93 i = bif am_in i (A 93).length then (A 93)[i.toNatClampNeg]? else none) ∧ (∀ (A : Nat → List Int32) (F : Nat → Int32) (P : Nat → Nat) (i : Int32), am_al (heap A F P) 0 95 i = bif am_in i (A 95).length then (A 95)[i.toNatClampNeg]? else none) ∧ (∀ (A : Nat → List Int32) (F : Nat → Int32) (P : Nat → Nat) (i : Int32), am_al (heap A F P) 0 97 i = bif am_in i (A 97).length then (A 97)[i.toNatClampNeg]? else none) ∧ (∀ (A : Nat → List Int32) (F : Nat → Int32) (P : Nat → Nat) (i : Int32), am_al (heap A F P) 0 99 i = bif am_in i (A 99).length then (A 99)[i.toNatClampNeg]? else none) ∧ (∀ (A : Nat → List Int32) (F : Nat → Int32) (P : Nat → Nat) (i : Int32), am_al (heap A F P) 0 103 i = bif am_in i (A 103).length then (A 103)[i.toNatClampNeg]? else none) ∧ (∀ (A : Nat → List Int32) (F : Nat → Int32) (P : Nat → Nat) (i : Int32), am_al (heap A F P) 0 105 i = bif am_in i (A 105).length then (A 105)[i.toNatClampNeg]? else none) ∧ (∀ (A : Nat → List Int32) (F : Nat → Int32) (P : Nat → Nat) (i : Int32), am_al (heap A F P) 0 108 i = bif am_in i (A 108).length then (A 108)[i.toNatClampNeg]? else none) ∧ (∀ (A : Nat → List Int32) (F : Nat → Int32) (P : Nat → Nat) (i : Int32), am_al (heap A F P) 0 110 i = bif am_in i (A 110).length then (A 110)[i.toNatClampNeg]? else none) ∧ (∀ (A : Nat → List Int32) (F : Nat → Int32) (P : Nat → Nat) (i : Int32), am_al (heap A F P) 0 112 i = bif am_in i (A 112).length then (A 112)[i.toNatClampNeg]? else none) ∧ (∀ (A : Nat → List Int32) (F : Nat → Int32) (P : Nat → Nat) (i : Int32), am_al (heap A F P) 0 114 i = bif am_in i (A 114).length then (A 114)[i.toNatClampNeg]? else none) ∧ (∀ (A : Nat → List Int32) (F : Nat → Int32) (P : Nat → Nat) (i : Int32), am_al (heap A F P) 0 116 i = bif am_in i (A 116).length then (A 116)[i.toNatClampNeg]? else none) ∧ (∀ (A : Nat → List Int32) (F : Nat → Int32) (P : Nat → Nat) (i : Int32), am_al (heap A F P) 0 119 i = bif am_in i (A 119).length then (A 119)[i.toNatClampNeg]? else none) ∧ (∀ (A : Nat → List Int32) (F : Nat → Int32) (P : Nat → Nat) (i : Int32), am_al (heap A F P) 0 121 i = bif am_in i (A 121).length then (A 121)[i.toNatClampNeg]? else none) ∧ (∀ (A : Nat → List Int32) (F : Nat → Int32) (P : Nat → Nat) (i : Int32), am_al (heap A F P) 0 123 i = bif am_in i (A 123).length then (A 123)[i.toNatClampNeg]? else none) ∧ (∀ (A : Nat → List Int32) (F : Nat → Int32) (P : Nat → Nat) (i : Int32), am_al (heap A F P) 0 125 i = bif am_in i (A 125).length then (A 125)[i.toNatClampNeg]? else none) ∧ (∀ (A : Nat → List Int32) (F : Nat → Int32) (P : Nat → Nat) (i : Int32), am_al (heap A F P) 0 127 i = bif am_in i (A 127).length then (A 127)[i.toNatClampNeg]? else none) ∧ (∀ (A : Nat → List Int32) (F : Nat → Int32) (P : Nat → Nat) (i : Int32), am_al (heap A F P) 0 129 i = bif am_in i (A 129).length then (A 129)[i.toNatClampNeg]? else none) ∧ (∀ (A : Nat → List Int32) (F : Nat → Int32) (P : Nat → Nat) (i : Int32), am_al (heap A F P) 0 131 i = bif am_in i (A 131).length then (A 131)[i.toNatClampNeg]? else none) ∧ (∀ (A : Nat → List Int32) (F : Nat → Int32) (P : Nat → Nat) (i : Int32), am_al (heap A F P) 0 135 i = bif am_in i (A 135).length then (A 135)[i.toNatClampNeg]? else none) ∧ (∀ (A : Nat → List Int32) (F : Nat → Int32) (P : Nat → Nat) (i : Int32), am_al (heap A F P) 0 137 i = bif am_in i (A 137).length then (A 137)[i.toNatClampNeg]? else none) ∧ (∀ (A : Nat → List Int32) (F : Nat → Int32) (P : Nat → Nat) (i : Int32), am_al (heap A F P) 0 140 i = bif am_in i (A 140).length then (A 140)[i.toNatClampNeg]? else none) ∧ (∀ (A : Nat → List Int32) (F : Nat → Int32) (P : Nat → Nat) (i : Int32), am_al (heap A F P) 0 142 i = bif am_in i (A 142).length then (A 142)[i.toNatClampNeg]? else none) ∧ (∀ (A : Nat → List Int32) (F : Nat → Int32) (P : Nat → Nat) (i : Int32), am_al (heap A F P) 0 144 i = bif am_in i (A 144).length then (A 144)[i.toNatClampNeg]? else none) ∧ (∀ (A : Nat → List Int32) (F : Nat → Int32) (P : Nat → Nat) (i : Int32), am_al (heap A F P) 0 146 i = bif am_in i (A 146).length then (A 146)[i.toNatClampNeg]? else none) ∧ (∀ (A : Nat → List Int32) (F : Nat → Int32) (P : Nat → Nat) (i : Int32), am_al (heap A F P) 0 148 i = bif am_in i (A 148).length then (A 148)[i.toNatClampNeg]? else none) ∧ (∀ (A : Nat → List Int32) (F : Nat → Int32) (P : Nat → Nat) (i : Int32), am_al (heap A F P) 0 151 i = bif am_in i (A 151).length then (A 151)[i.toNatClampNeg]? else none) ∧ (∀ (A : Nat → List Int32) (F : Nat → Int32) (P : Nat → Nat) (i : Int32), am_al (heap A F P) 0 153 i = bif am_in i (A 153).length then (A 153)[i.toNatClampNeg]? else none) ∧ (∀ (A : Nat → List Int32) (F : Nat → Int32) (P : Nat → Nat) (i : Int32), am_al (heap A F P) 0 155 i = bif am_in i (A 155).length then (A 155)[i.toNatClampNeg]? else none) ∧ (∀ (A : Nat → List Int32) (F : Nat → Int32) (P : Nat → Nat) (i : Int32), am_al (heap A F P) 0 157 i = bif am_in i (A 157).length then (A 157)[i.toNatClampNeg]? else none) ∧ (∀ (A : Nat → List Int32) (F : Nat → Int32) (P : Nat → Nat) (i : Int32), am_al (heap A F P) 0 159 i = bif am_in i (A 159).length then (A 159)[i.toNatClampNeg]? else none) ∧ (∀ (A : Nat → List Int32) (F : Nat → Int32) (P : Nat → Nat) (i : Int32), am_al (heap A F P) 0 161 i = bif am_in i (A 161).length then (A 161)[i.toNatClampNeg]? else none) ∧ (∀ (A : Nat → List Int32) (F : Nat → Int32) (P : Nat → Nat) (i : Int32), am_al (heap A F P) 0 163 i = bif am_in i (A 163).length then (A 163)[i.toNatClampNeg]? else none) := ⟨hpL_39, hpL_41, hpL_44, hpL_46, hpL_48, hpL_50, hpL_52, hpL_55, hpL_57, hpL_59, hpL_61, hpL_63, hpL_65, hpL_67, hpL_71, hpL_73, hpL_76, hpL_78, hpL_80, hpL_82, hpL_84, hpL_87, hpL_89, hpL_91, hpL_93, hpL_95, hpL_97, hpL_99, hpL_103, hpL_105, hpL_108, hpL_110, hpL_112, hpL_114, hpL_116, hpL_119, hpL_121, hpL_123, hpL_125, hpL_127, hpL_129, hpL_131, hpL_135, hpL_137, hpL_140, hpL_142, hpL_144, hpL_146, hpL_148, hpL_151, hpL_153, hpL_155, hpL_157, hpL_159, hpL_161, hpL_163⟩
set_option maxRecDepth 100000 in
theorem hpF_2_3 (A : Nat → List Int32) (F : Nat → Int32) (P : Nat → Nat) (v : Int32) : am_pf (heap A F P) 2 7 3 (.int v) = some (heap A (up F 203 v) P) := rfl
set_option maxRecDepth 100000 in
theorem hpF_3_2 (A : Nat → List Int32) (F : Nat → Int32) (P : Nat → Nat) (v : Int32) : am_pf (heap A F P) 3 8 2 (.int v) = some (heap A (up F 302 v) P) := rfl
set_option maxRecDepth 100000 in
theorem hpF_8_4 (A : Nat → List Int32) (F : Nat → Int32) (P : Nat → Nat) (v : Int32) : am_pf (heap A F P) 8 3 4 (.int v) = some (heap A (up F 804 v) P) := rfl
set_option maxRecDepth 100000 in
theorem hpF_19_6 (A : Nat → List Int32) (F : Nat → Int32) (P : Nat → Nat) (v : Int32) : am_pf (heap A F P) 19 0 6 (.int v) = some (heap A (up F 1906 v) P) := rfl
set_option maxRecDepth 100000 in
theorem hpF_34_1 (A : Nat → List Int32) (F : Nat → Int32) (P : Nat → Nat) (v : Int32) : am_pf (heap A F P) 34 1 1 (.int v) = some (heap A (up F 3401 v) P) := rfl
set_option maxRecDepth 100000 in
theorem hpF_36_3 (A : Nat → List Int32) (F : Nat → Int32) (P : Nat → Nat) (v : Int32) : am_pf (heap A F P) 36 7 3 (.int v) = some (heap A (up F 3603 v) P) := rfl
set_option maxRecDepth 100000 in
theorem hpF_37_2 (A : Nat → List Int32) (F : Nat → Int32) (P : Nat → Nat) (v : Int32) : am_pf (heap A F P) 37 8 2 (.int v) = some (heap A (up F 3702 v) P) := rfl
set_option maxRecDepth 100000 in
theorem hpF_42_4 (A : Nat → List Int32) (F : Nat → Int32) (P : Nat → Nat) (v : Int32) : am_pf (heap A F P) 42 3 4 (.int v) = some (heap A (up F 4204 v) P) := rfl
set_option maxRecDepth 100000 in
theorem hpF_53_6 (A : Nat → List Int32) (F : Nat → Int32) (P : Nat → Nat) (v : Int32) : am_pf (heap A F P) 53 0 6 (.int v) = some (heap A (up F 5306 v) P) := rfl
set_option maxRecDepth 100000 in
theorem hpF_68_3 (A : Nat → List Int32) (F : Nat → Int32) (P : Nat → Nat) (v : Int32) : am_pf (heap A F P) 68 7 3 (.int v) = some (heap A (up F 6803 v) P) := rfl
set_option maxRecDepth 100000 in
theorem hpF_69_2 (A : Nat → List Int32) (F : Nat → Int32) (P : Nat → Nat) (v : Int32) : am_pf (heap A F P) 69 8 2 (.int v) = some (heap A (up F 6902 v) P) := rfl
set_option maxRecDepth 100000 in
theorem hpF_74_4 (A : Nat → List Int32) (F : Nat → Int32) (P : Nat → Nat) (v : Int32) : am_pf (heap A F P) 74 3 4 (.int v) = some (heap A (up F 7404 v) P) := rfl
set_option maxRecDepth 100000 in
theorem hpF_85_6 (A : Nat → List Int32) (F : Nat → Int32) (P : Nat → Nat) (v : Int32) : am_pf (heap A F P) 85 0 6 (.int v) = some (heap A (up F 8506 v) P) := rfl
set_option maxRecDepth 100000 in
theorem hpF_100_3 (A : Nat → List Int32) (F : Nat → Int32) (P : Nat → Nat) (v : Int32) : am_pf (heap A F P) 100 7 3 (.int v) = some (heap A (up F 10003 v) P) := rfl
set_option maxRecDepth 100000 in
theorem hpF_101_2 (A : Nat → List Int32) (F : Nat → Int32) (P : Nat → Nat) (v : Int32) : am_pf (heap A F P) 101 8 2 (.int v) = some (heap A (up F 10102 v) P) := rfl
set_option maxRecDepth 100000 in
theorem hpF_106_4 (A : Nat → List Int32) (F : Nat → Int32) (P : Nat → Nat) (v : Int32) : am_pf (heap A F P) 106 3 4 (.int v) = some (heap A (up F 10604 v) P) := rfl
set_option maxRecDepth 100000 in
theorem hpF_117_6 (A : Nat → List Int32) (F : Nat → Int32) (P : Nat → Nat) (v : Int32) : am_pf (heap A F P) 117 0 6 (.int v) = some (heap A (up F 11706 v) P) := rfl
set_option maxRecDepth 100000 in
theorem hpF_132_3 (A : Nat → List Int32) (F : Nat → Int32) (P : Nat → Nat) (v : Int32) : am_pf (heap A F P) 132 7 3 (.int v) = some (heap A (up F 13203 v) P) := rfl
set_option maxRecDepth 100000 in
theorem hpF_133_2 (A : Nat → List Int32) (F : Nat → Int32) (P : Nat → Nat) (v : Int32) : am_pf (heap A F P) 133 8 2 (.int v) = some (heap A (up F 13302 v) P) := rfl
set_option maxRecDepth 100000 in
theorem hpF_138_4 (A : Nat → List Int32) (F : Nat → Int32) (P : Nat → Nat) (v : Int32) : am_pf (heap A F P) 138 3 4 (.int v) = some (heap A (up F 13804 v) P) := rfl
set_option maxRecDepth 100000 in
theorem hpF_149_6 (A : Nat → List Int32) (F : Nat → Int32) (P : Nat → Nat) (v : Int32) : am_pf (heap A F P) 149 0 6 (.int v) = some (heap A (up F 14906 v) P) := rfl
set_option maxRecDepth 100000 in
theorem hpF_164_10 (A : Nat → List Int32) (F : Nat → Int32) (P : Nat → Nat) (v : Int32) : am_pf (heap A F P) 164 6 10 (.int v) = some (heap A (up F 16410 v) P) := rfl
set_option maxRecDepth 100000 in
theorem hpF_184_1 (A : Nat → List Int32) (F : Nat → Int32) (P : Nat → Nat) (v : Int32) : am_pf (heap A F P) 184 2 1 (.int v) = some (heap A (up F 18401 v) P) := rfl
set_option maxRecDepth 100000 in
theorem hpF_184_5 (A : Nat → List Int32) (F : Nat → Int32) (P : Nat → Nat) (v : Int32) : am_pf (heap A F P) 184 2 5 (.int v) = some (heap A (up F 18405 v) P) := rfl
set_option maxRecDepth 100000 in
theorem hpF_184_6 (A : Nat → List Int32) (F : Nat → Int32) (P : Nat → Nat) (v : Int32) : am_pf (heap A F P) 184 2 6 (.int v) = some (heap A (up F 18406 v) P) := rfl
set_option maxRecDepth 100000 in
theorem hpF_184_7 (A : Nat → List Int32) (F : Nat → Int32) (P : Nat → Nat) (v : Int32) : am_pf (heap A F P) 184 2 7 (.int v) = some (heap A (up F 18407 v) P) := rfl
set_option maxRecDepth 100000 in
theorem hpF_184_8 (A : Nat → List Int32) (F : Nat → Int32) (P : Nat → Nat) (v : Int32) : am_pf (heap A F P) 184 2 8 (.int v) = some (heap A (up F 18408 v) P) := rfl
set_option maxRecDepth 100000 in
theorem hpF_184_9 (A : Nat → List Int32) (F : Nat → Int32) (P : Nat → Nat) (v : Int32) : am_pf (heap A F P) 184 2 9 (.int v) = some (heap A (up F 18409 v) P) := rfl
theorem hpFX : (∀ (A : Nat → List Int32) (F : Nat → Int32) (P : Nat → Nat) (v : Int32), am_pf (heap A F P) 2 7 3 (.int v) = some (heap A (up F 203 v) P)) ∧ (∀ (A : Nat → List Int32) (F : Nat → Int32) (P : Nat → Nat) (v : Int32), am_pf (heap A F P) 3 8 2 (.int v) = some (heap A (up F 302 v) P)) ∧ (∀ (A : Nat → List Int32) (F : Nat → Int32) (P : Nat → Nat) (v : Int32), am_pf (heap A F P) 8 3 4 (.int v) = some (heap A (up F 804 v) P)) ∧ (∀ (A : Nat → List Int32) (F : Nat → Int32) (P : Nat → Nat) (v : Int32), am_pf (heap A F P) 19 0 6 (.int v) = some (heap A (up F 1906 v) P)) ∧ (∀ (A : Nat → List Int32) (F : Nat → Int32) (P : Nat → Nat) (v : Int32), am_pf (heap A F P) 34 1 1 (.int v) = some (heap A (up F 3401 v) P)) ∧ (∀ (A : Nat → List Int32) (F : Nat → Int32) (P : Nat → Nat) (v : Int32), am_pf (heap A F P) 164 6 10 (.int v) = some (heap A (up F 16410 v) P)) ∧ (∀ (A : Nat → List Int32) (F : Nat → Int32) (P : Nat → Nat) (v : Int32), am_pf (heap A F P) 184 2 1 (.int v) = some (heap A (up F 18401 v) P)) ∧ (∀ (A : Nat → List Int32) (F : Nat → Int32) (P : Nat → Nat) (v : Int32), am_pf (heap A F P) 184 2 5 (.int v) = some (heap A (up F 18405 v) P)) ∧ (∀ (A : Nat → List Int32) (F : Nat → Int32) (P : Nat → Nat) (v : Int32), am_pf (heap A F P) 184 2 6 (.int v) = some (heap A (up F 18406 v) P)) ∧ (∀ (A : Nat → List Int32) (F : Nat → Int32) (P : Nat → Nat) (v : Int32), am_pf (heap A F P) 184 2 7 (.int v) = some (heap A (up F 18407 v) P)) ∧ (∀ (A : Nat → List Int32) (F : Nat → Int32) (P : Nat → Nat) (v : Int32), am_pf (heap A F P) 184 2 8 (.int v) = some (heap A (up F 18408 v) P)) ∧ (∀ (A : Nat → List Int32) (F : Nat → Int32) (P : Nat → Nat) (v : Int32), am_pf (heap A F P) 184 2 9 (.int v) = some (heap A (up F 18409 v) P)) := ⟨hpF_2_3, hpF_3_2, hpF_8_4, hpF_19_6, hpF_34_1, hpF_164_10, hpF_184_1, hpF_184_5, hpF_184_6, hpF_184_7, hpF_184_8, hpF_184_9⟩
theorem hpFY : (∀ (A : Nat → List Int32) (F : Nat → Int32) (P : Nat → Nat) (v : Int32), am_pf (heap A F P) 36 7 3 (.int v) = some (heap A (up F 3603 v) P)) ∧ (∀ (A : Nat → List Int32) (F : Nat → Int32) (P : Nat → Nat) (v : Int32), am_pf (heap A F P) 37 8 2 (.int v) = some (heap A (up F 3702 v) P)) ∧ (∀ (A : Nat → List Int32) (F : Nat → Int32) (P : Nat → Nat) (v : Int32), am_pf (heap A F P) 42 3 4 (.int v) = some (heap A (up F 4204 v) P)) ∧ (∀ (A : Nat → List Int32) (F : Nat → Int32) (P : Nat → Nat) (v : Int32), am_pf (heap A F P) 53 0 6 (.int v) = some (heap A (up F 5306 v) P)) ∧ (∀ (A : Nat → List Int32) (F : Nat → Int32) (P : Nat → Nat) (v : Int32), am_pf (heap A F P) 68 7 3 (.int v) = some (heap A (up F 6803 v) P)) ∧ (∀ (A : Nat → List Int32) (F : Nat → Int32) (P : Nat → Nat) (v : Int32), am_pf (heap A F P) 69 8 2 (.int v) = some (heap A (up F 6902 v) P)) ∧ (∀ (A : Nat → List Int32) (F : Nat → Int32) (P : Nat → Nat) (v : Int32), am_pf (heap A F P) 74 3 4 (.int v) = some (heap A (up F 7404 v) P)) ∧ (∀ (A : Nat → List Int32) (F : Nat → Int32) (P : Nat → Nat) (v : Int32), am_pf (heap A F P) 85 0 6 (.int v) = some (heap A (up F 8506 v) P)) ∧ (∀ (A : Nat → List Int32) (F : Nat → Int32) (P : Nat → Nat) (v : Int32), am_pf (heap A F P) 100 7 3 (.int v) = some (heap A (up F 10003 v) P)) ∧ (∀ (A : Nat → List Int32) (F : Nat → Int32) (P : Nat → Nat) (v : Int32), am_pf (heap A F P) 101 8 2 (.int v) = some (heap A (up F 10102 v) P)) ∧ (∀ (A : Nat → List Int32) (F : Nat → Int32) (P : Nat → Nat) (v : Int32), am_pf (heap A F P) 106 3 4 (.int v) = some (heap A (up F 10604 v) P)) ∧ (∀ (A : Nat → List Int32) (F : Nat → Int32) (P : Nat → Nat) (v : Int32), am_pf (heap A F P) 117 0 6 (.int v) = some (heap A (up F 11706 v) P)) ∧ (∀ (A : Nat → List Int32) (F : Nat → Int32) (P : Nat → Nat) (v : Int32), am_pf (heap A F P) 132 7 3 (.int v) = some (heap A (up F 13203 v) P)) ∧ (∀ (A : Nat → List Int32) (F : Nat → Int32) (P : Nat → Nat) (v : Int32), am_pf (heap A F P) 133 8 2 (.int v) = some (heap A (up F 13302 v) P)) ∧ (∀ (A : Nat → List Int32) (F : Nat → Int32) (P : Nat → Nat) (v : Int32), am_pf (heap A F P) 138 3 4 (.int v) = some (heap A (up F 13804 v) P)) ∧ (∀ (A : Nat → List Int32) (F : Nat → Int32) (P : Nat → Nat) (v : Int32), am_pf (heap A F P) 149 0 6 (.int v) = some (heap A (up F 14906 v) P)) := ⟨hpF_36_3, hpF_37_2, hpF_42_4, hpF_53_6, hpF_68_3, hpF_69_2, hpF_74_4, hpF_85_6, hpF_100_3, hpF_101_2, hpF_106_4, hpF_117_6, hpF_132_3, hpF_133_2, hpF_138_4, hpF_149_6⟩
set_option maxRecDepth 100000 in
theorem hpS_5 (A : Nat → List Int32) (F : Nat → Int32) (P : Nat → Nat) (i v : Int32) : am_as (heap A F P) 0 5 i v = bif am_in i (A 5).length then some (heap (up A 5 ((A 5).set i.toNatClampNeg v)) F P) else none := rfl
set_option maxRecDepth 100000 in
theorem hpS_7 (A : Nat → List Int32) (F : Nat → Int32) (P : Nat → Nat) (i v : Int32) : am_as (heap A F P) 0 7 i v = bif am_in i (A 7).length then some (heap (up A 7 ((A 7).set i.toNatClampNeg v)) F P) else none := rfl
set_option maxRecDepth 100000 in
theorem hpS_10 (A : Nat → List Int32) (F : Nat → Int32) (P : Nat → Nat) (i v : Int32) : am_as (heap A F P) 0 10 i v = bif am_in i (A 10).length then some (heap (up A 10 ((A 10).set i.toNatClampNeg v)) F P) else none := rfl
set_option maxRecDepth 100000 in
theorem hpS_12 (A : Nat → List Int32) (F : Nat → Int32) (P : Nat → Nat) (i v : Int32) : am_as (heap A F P) 0 12 i v = bif am_in i (A 12).length then some (heap (up A 12 ((A 12).set i.toNatClampNeg v)) F P) else none := rfl
set_option maxRecDepth 100000 in
theorem hpS_14 (A : Nat → List Int32) (F : Nat → Int32) (P : Nat → Nat) (i v : Int32) : am_as (heap A F P) 0 14 i v = bif am_in i (A 14).length then some (heap (up A 14 ((A 14).set i.toNatClampNeg v)) F P) else none := rfl
set_option maxRecDepth 100000 in
theorem hpS_16 (A : Nat → List Int32) (F : Nat → Int32) (P : Nat → Nat) (i v : Int32) : am_as (heap A F P) 0 16 i v = bif am_in i (A 16).length then some (heap (up A 16 ((A 16).set i.toNatClampNeg v)) F P) else none := rfl
set_option maxRecDepth 100000 in
theorem hpS_18 (A : Nat → List Int32) (F : Nat → Int32) (P : Nat → Nat) (i v : Int32) : am_as (heap A F P) 0 18 i v = bif am_in i (A 18).length then some (heap (up A 18 ((A 18).set i.toNatClampNeg v)) F P) else none := rfl
set_option maxRecDepth 100000 in
theorem hpS_21 (A : Nat → List Int32) (F : Nat → Int32) (P : Nat → Nat) (i v : Int32) : am_as (heap A F P) 0 21 i v = bif am_in i (A 21).length then some (heap (up A 21 ((A 21).set i.toNatClampNeg v)) F P) else none := rfl
set_option maxRecDepth 100000 in
theorem hpS_23 (A : Nat → List Int32) (F : Nat → Int32) (P : Nat → Nat) (i v : Int32) : am_as (heap A F P) 0 23 i v = bif am_in i (A 23).length then some (heap (up A 23 ((A 23).set i.toNatClampNeg v)) F P) else none := rfl
set_option maxRecDepth 100000 in
theorem hpS_25 (A : Nat → List Int32) (F : Nat → Int32) (P : Nat → Nat) (i v : Int32) : am_as (heap A F P) 0 25 i v = bif am_in i (A 25).length then some (heap (up A 25 ((A 25).set i.toNatClampNeg v)) F P) else none := rfl
set_option maxRecDepth 100000 in
theorem hpS_27 (A : Nat → List Int32) (F : Nat → Int32) (P : Nat → Nat) (i v : Int32) : am_as (heap A F P) 0 27 i v = bif am_in i (A 27).length then some (heap (up A 27 ((A 27).set i.toNatClampNeg v)) F P) else none := rfl
set_option maxRecDepth 100000 in
theorem hpS_29 (A : Nat → List Int32) (F : Nat → Int32) (P : Nat → Nat) (i v : Int32) : am_as (heap A F P) 0 29 i v = bif am_in i (A 29).length then some (heap (up A 29 ((A 29).set i.toNatClampNeg v)) F P) else none := rfl
set_option maxRecDepth 100000 in
theorem hpS_31 (A : Nat → List Int32) (F : Nat → Int32) (P : Nat → Nat) (i v : Int32) : am_as (heap A F P) 0 31 i v = bif am_in i (A 31).length then some (heap (up A 31 ((A 31).set i.toNatClampNeg v)) F P) else none := rfl
set_option maxRecDepth 100000 in
theorem hpS_33 (A : Nat → List Int32) (F : Nat → Int32) (P : Nat → Nat) (i v : Int32) : am_as (heap A F P) 0 33 i v = bif am_in i (A 33).length then some (heap (up A 33 ((A 33).set i.toNatClampNeg v)) F P) else none := rfl
set_option maxRecDepth 100000 in
theorem hpS_39 (A : Nat → List Int32) (F : Nat → Int32) (P : Nat → Nat) (i v : Int32) : am_as (heap A F P) 0 39 i v = bif am_in i (A 39).length then some (heap (up A 39 ((A 39).set i.toNatClampNeg v)) F P) else none := rfl
set_option maxRecDepth 100000 in
theorem hpS_41 (A : Nat → List Int32) (F : Nat → Int32) (P : Nat → Nat) (i v : Int32) : am_as (heap A F P) 0 41 i v = bif am_in i (A 41).length then some (heap (up A 41 ((A 41).set i.toNatClampNeg v)) F P) else none := rfl
set_option maxRecDepth 100000 in
theorem hpS_44 (A : Nat → List Int32) (F : Nat → Int32) (P : Nat → Nat) (i v : Int32) : am_as (heap A F P) 0 44 i v = bif am_in i (A 44).length then some (heap (up A 44 ((A 44).set i.toNatClampNeg v)) F P) else none := rfl
set_option maxRecDepth 100000 in
theorem hpS_46 (A : Nat → List Int32) (F : Nat → Int32) (P : Nat → Nat) (i v : Int32) : am_as (heap A F P) 0 46 i v = bif am_in i (A 46).length then some (heap (up A 46 ((A 46).set i.toNatClampNeg v)) F P) else none := rfl
set_option maxRecDepth 100000 in
theorem hpS_48 (A : Nat → List Int32) (F : Nat → Int32) (P : Nat → Nat) (i v : Int32) : am_as (heap A F P) 0 48 i v = bif am_in i (A 48).length then some (heap (up A 48 ((A 48).set i.toNatClampNeg v)) F P) else none := rfl
set_option maxRecDepth 100000 in
theorem hpS_50 (A : Nat → List Int32) (F : Nat → Int32) (P : Nat → Nat) (i v : Int32) : am_as (heap A F P) 0 50 i v = bif am_in i (A 50).length then some (heap (up A 50 ((A 50).set i.toNatClampNeg v)) F P) else none := rfl
set_option maxRecDepth 100000 in
theorem hpS_52 (A : Nat → List Int32) (F : Nat → Int32) (P : Nat → Nat) (i v : Int32) : am_as (heap A F P) 0 52 i v = bif am_in i (A 52).length then some (heap (up A 52 ((A 52).set i.toNatClampNeg v)) F P) else none := rfl
set_option maxRecDepth 100000 in
theorem hpS_55 (A : Nat → List Int32) (F : Nat → Int32) (P : Nat → Nat) (i v : Int32) : am_as (heap A F P) 0 55 i v = bif am_in i (A 55).length then some (heap (up A 55 ((A 55).set i.toNatClampNeg v)) F P) else none := rfl
set_option maxRecDepth 100000 in
theorem hpS_57 (A : Nat → List Int32) (F : Nat → Int32) (P : Nat → Nat) (i v : Int32) : am_as (heap A F P) 0 57 i v = bif am_in i (A 57).length then some (heap (up A 57 ((A 57).set i.toNatClampNeg v)) F P) else none := rfl
set_option maxRecDepth 100000 in
theorem hpS_59 (A : Nat → List Int32) (F : Nat → Int32) (P : Nat → Nat) (i v : Int32) : am_as (heap A F P) 0 59 i v = bif am_in i (A 59).length then some (heap (up A 59 ((A 59).set i.toNatClampNeg v)) F P) else none := rfl
set_option maxRecDepth 100000 in
theorem hpS_61 (A : Nat → List Int32) (F : Nat → Int32) (P : Nat → Nat) (i v : Int32) : am_as (heap A F P) 0 61 i v = bif am_in i (A 61).length then some (heap (up A 61 ((A 61).set i.toNatClampNeg v)) F P) else none := rfl
set_option maxRecDepth 100000 in
theorem hpS_63 (A : Nat → List Int32) (F : Nat → Int32) (P : Nat → Nat) (i v : Int32) : am_as (heap A F P) 0 63 i v = bif am_in i (A 63).length then some (heap (up A 63 ((A 63).set i.toNatClampNeg v)) F P) else none := rfl
set_option maxRecDepth 100000 in
theorem hpS_65 (A : Nat → List Int32) (F : Nat → Int32) (P : Nat → Nat) (i v : Int32) : am_as (heap A F P) 0 65 i v = bif am_in i (A 65).length then some (heap (up A 65 ((A 65).set i.toNatClampNeg v)) F P) else none := rfl
set_option maxRecDepth 100000 in
theorem hpS_67 (A : Nat → List Int32) (F : Nat → Int32) (P : Nat → Nat) (i v : Int32) : am_as (heap A F P) 0 67 i v = bif am_in i (A 67).length then some (heap (up A 67 ((A 67).set i.toNatClampNeg v)) F P) else none := rfl
set_option maxRecDepth 100000 in
theorem hpS_71 (A : Nat → List Int32) (F : Nat → Int32) (P : Nat → Nat) (i v : Int32) : am_as (heap A F P) 0 71 i v = bif am_in i (A 71).length then some (heap (up A 71 ((A 71).set i.toNatClampNeg v)) F P) else none := rfl
set_option maxRecDepth 100000 in
theorem hpS_73 (A : Nat → List Int32) (F : Nat → Int32) (P : Nat → Nat) (i v : Int32) : am_as (heap A F P) 0 73 i v = bif am_in i (A 73).length then some (heap (up A 73 ((A 73).set i.toNatClampNeg v)) F P) else none := rfl
set_option maxRecDepth 100000 in
theorem hpS_76 (A : Nat → List Int32) (F : Nat → Int32) (P : Nat → Nat) (i v : Int32) : am_as (heap A F P) 0 76 i v = bif am_in i (A 76).length then some (heap (up A 76 ((A 76).set i.toNatClampNeg v)) F P) else none := rfl
set_option maxRecDepth 100000 in
theorem hpS_78 (A : Nat → List Int32) (F : Nat → Int32) (P : Nat → Nat) (i v : Int32) : am_as (heap A F P) 0 78 i v = bif am_in i (A 78).length then some (heap (up A 78 ((A 78).set i.toNatClampNeg v)) F P) else none := rfl
set_option maxRecDepth 100000 in
theorem hpS_80 (A : Nat → List Int32) (F : Nat → Int32) (P : Nat → Nat) (i v : Int32) : am_as (heap A F P) 0 80 i v = bif am_in i (A 80).length then some (heap (up A 80 ((A 80).set i.toNatClampNeg v)) F P) else none := rfl
set_option maxRecDepth 100000 in
theorem hpS_82 (A : Nat → List Int32) (F : Nat → Int32) (P : Nat → Nat) (i v : Int32) : am_as (heap A F P) 0 82 i v = bif am_in i (A 82).length then some (heap (up A 82 ((A 82).set i.toNatClampNeg v)) F P) else none := rfl
set_option maxRecDepth 100000 in
theorem hpS_84 (A : Nat → List Int32) (F : Nat → Int32) (P : Nat → Nat) (i v : Int32) : am_as (heap A F P) 0 84 i v = bif am_in i (A 84).length then some (heap (up A 84 ((A 84).set i.toNatClampNeg v)) F P) else none := rfl
set_option maxRecDepth 100000 in
theorem hpS_87 (A : Nat → List Int32) (F : Nat → Int32) (P : Nat → Nat) (i v : Int32) : am_as (heap A F P) 0 87 i v = bif am_in i (A 87).length then some (heap (up A 87 ((A 87).set i.toNatClampNeg v)) F P) else none := rfl
set_option maxRecDepth 100000 in
theorem hpS_89 (A : Nat → List Int32) (F : Nat → Int32) (P : Nat → Nat) (i v : Int32) : am_as (heap A F P) 0 89 i v = bif am_in i (A 89).length then some (heap (up A 89 ((A 89).set i.toNatClampNeg v)) F P) else none := rfl
set_option maxRecDepth 100000 in
theorem hpS_91 (A : Nat → List Int32) (F : Nat → Int32) (P : Nat → Nat) (i v : Int32) : am_as (heap A F P) 0 91 i v = bif am_in i (A 91).length then some (heap (up A 91 ((A 91).set i.toNatClampNeg v)) F P) else none := rfl
set_option maxRecDepth 100000 in
theorem hpS_93 (A : Nat → List Int32) (F : Nat → Int32) (P : Nat → Nat) (i v : Int32) : am_as (heap A F P) 0 93 i v = bif am_in i (A 93).length then some (heap (up A 93 ((A 93).set i.toNatClampNeg v)) F P) else none := rfl
set_option maxRecDepth 100000 in
theorem hpS_95 (A : Nat → List Int32) (F : Nat → Int32) (P : Nat → Nat) (i v : Int32) : am_as (heap A F P) 0 95 i v = bif am_in i (A 95).length then some (heap (up A 95 ((A 95).set i.toNatClampNeg v)) F P) else none := rfl
set_option maxRecDepth 100000 in
theorem hpS_97 (A : Nat → List Int32) (F : Nat → Int32) (P : Nat → Nat) (i v : Int32) : am_as (heap A F P) 0 97 i v = bif am_in i (A 97).length then some (heap (up A 97 ((A 97).set i.toNatClampNeg v)) F P) else none := rfl
set_option maxRecDepth 100000 in
theorem hpS_99 (A : Nat → List Int32) (F : Nat → Int32) (P : Nat → Nat) (i v : Int32) : am_as (heap A F P) 0 99 i v = bif am_in i (A 99).length then some (heap (up A 99 ((A 99).set i.toNatClampNeg v)) F P) else none := rfl
set_option maxRecDepth 100000 in
theorem hpS_103 (A : Nat → List Int32) (F : Nat → Int32) (P : Nat → Nat) (i v : Int32) : am_as (heap A F P) 0 103 i v = bif am_in i (A 103).length then some (heap (up A 103 ((A 103).set i.toNatClampNeg v)) F P) else none := rfl
set_option maxRecDepth 100000 in
theorem hpS_105 (A : Nat → List Int32) (F : Nat → Int32) (P : Nat → Nat) (i v : Int32) : am_as (heap A F P) 0 105 i v = bif am_in i (A 105).length then some (heap (up A 105 ((A 105).set i.toNatClampNeg v)) F P) else none := rfl
set_option maxRecDepth 100000 in
theorem hpS_108 (A : Nat → List Int32) (F : Nat → Int32) (P : Nat → Nat) (i v : Int32) : am_as (heap A F P) 0 108 i v = bif am_in i (A 108).length then some (heap (up A 108 ((A 108).set i.toNatClampNeg v)) F P) else none := rfl
set_option maxRecDepth 100000 in
theorem hpS_110 (A : Nat → List Int32) (F : Nat → Int32) (P : Nat → Nat) (i v : Int32) : am_as (heap A F P) 0 110 i v = bif am_in i (A 110).length then some (heap (up A 110 ((A 110).set i.toNatClampNeg v)) F P) else none := rfl
set_option maxRecDepth 100000 in
theorem hpS_112 (A : Nat → List Int32) (F : Nat → Int32) (P : Nat → Nat) (i v : Int32) : am_as (heap A F P) 0 112 i v = bif am_in i (A 112).length then some (heap (up A 112 ((A 112).set i.toNatClampNeg v)) F P) else none := rfl
set_option maxRecDepth 100000 in
theorem hpS_114 (A : Nat → List Int32) (F : Nat → Int32) (P : Nat → Nat) (i v : Int32) : am_as (heap A F P) 0 114 i v = bif am_in i (A 114).length then some (heap (up A 114 ((A 114).set i.toNatClampNeg v)) F P) else none := rfl
set_option maxRecDepth 100000 in
theorem hpS_116 (A : Nat → List Int32) (F : Nat → Int32) (P : Nat → Nat) (i v : Int32) : am_as (heap A F P) 0 116 i v = bif am_in i (A 116).length then some (heap (up A 116 ((A 116).set i.toNatClampNeg v)) F P) else none := rfl
set_option maxRecDepth 100000 in
theorem hpS_119 (A : Nat → List Int32) (F : Nat → Int32) (P : Nat → Nat) (i v : Int32) : am_as (heap A F P) 0 119 i v = bif am_in i (A 119).length then some (heap (up A 119 ((A 119).set i.toNatClampNeg v)) F P) else none := rfl
set_option maxRecDepth 100000 in
theorem hpS_121 (A : Nat → List Int32) (F : Nat → Int32) (P : Nat → Nat) (i v : Int32) : am_as (heap A F P) 0 121 i v = bif am_in i (A 121).length then some (heap (up A 121 ((A 121).set i.toNatClampNeg v)) F P) else none := rfl
set_option maxRecDepth 100000 in
theorem hpS_123 (A : Nat → List Int32) (F : Nat → Int32) (P : Nat → Nat) (i v : Int32) : am_as (heap A F P) 0 123 i v = bif am_in i (A 123).length then some (heap (up A 123 ((A 123).set i.toNatClampNeg v)) F P) else none := rfl
set_option maxRecDepth 100000 in
theorem hpS_125 (A : Nat → List Int32) (F : Nat → Int32) (P : Nat → Nat) (i v : Int32) : am_as (heap A F P) 0 125 i v = bif am_in i (A 125).length then some (heap (up A 125 ((A 125).set i.toNatClampNeg v)) F P) else none := rfl
set_option maxRecDepth 100000 in
theorem hpS_127 (A : Nat → List Int32) (F : Nat → Int32) (P : Nat → Nat) (i v : Int32) : am_as (heap A F P) 0 127 i v = bif am_in i (A 127).length then some (heap (up A 127 ((A 127).set i.toNatClampNeg v)) F P) else none := rfl
set_option maxRecDepth 100000 in
theorem hpS_129 (A : Nat → List Int32) (F : Nat → Int32) (P : Nat → Nat) (i v : Int32) : am_as (heap A F P) 0 129 i v = bif am_in i (A 129).length then some (heap (up A 129 ((A 129).set i.toNatClampNeg v)) F P) else none := rfl
set_option maxRecDepth 100000 in
theorem hpS_131 (A : Nat → List Int32) (F : Nat → Int32) (P : Nat → Nat) (i v : Int32) : am_as (heap A F P) 0 131 i v = bif am_in i (A 131).length then some (heap (up A 131 ((A 131).set i.toNatClampNeg v)) F P) else none := rfl
set_option maxRecDepth 100000 in
theorem hpS_135 (A : Nat → List Int32) (F : Nat → Int32) (P : Nat → Nat) (i v : Int32) : am_as (heap A F P) 0 135 i v = bif am_in i (A 135).length then some (heap (up A 135 ((A 135).set i.toNatClampNeg v)) F P) else none := rfl
set_option maxRecDepth 100000 in
theorem hpS_137 (A : Nat → List Int32) (F : Nat → Int32) (P : Nat → Nat) (i v : Int32) : am_as (heap A F P) 0 137 i v = bif am_in i (A 137).length then some (heap (up A 137 ((A 137).set i.toNatClampNeg v)) F P) else none := rfl
set_option maxRecDepth 100000 in
theorem hpS_140 (A : Nat → List Int32) (F : Nat → Int32) (P : Nat → Nat) (i v : Int32) : am_as (heap A F P) 0 140 i v = bif am_in i (A 140).length then some (heap (up A 140 ((A 140).set i.toNatClampNeg v)) F P) else none := rfl
set_option maxRecDepth 100000 in
theorem hpS_142 (A : Nat → List Int32) (F : Nat → Int32) (P : Nat → Nat) (i v : Int32) : am_as (heap A F P) 0 142 i v = bif am_in i (A 142).length then some (heap (up A 142 ((A 142).set i.toNatClampNeg v)) F P) else none := rfl
set_option maxRecDepth 100000 in
theorem hpS_144 (A : Nat → List Int32) (F : Nat → Int32) (P : Nat → Nat) (i v : Int32) : am_as (heap A F P) 0 144 i v = bif am_in i (A 144).length then some (heap (up A 144 ((A 144).set i.toNatClampNeg v)) F P) else none := rfl
set_option maxRecDepth 100000 in
theorem hpS_146 (A : Nat → List Int32) (F : Nat → Int32) (P : Nat → Nat) (i v : Int32) : am_as (heap A F P) 0 146 i v = bif am_in i (A 146).length then some (heap (up A 146 ((A 146).set i.toNatClampNeg v)) F P) else none := rfl
set_option maxRecDepth 100000 in
theorem hpS_148 (A : Nat → List Int32) (F : Nat → Int32) (P : Nat → Nat) (i v : Int32) : am_as (heap A F P) 0 148 i v = bif am_in i (A 148).length then some (heap (up A 148 ((A 148).set i.toNatClampNeg v)) F P) else none := rfl
set_option maxRecDepth 100000 in
theorem hpS_151 (A : Nat → List Int32) (F : Nat → Int32) (P : Nat → Nat) (i v : Int32) : am_as (heap A F P) 0 151 i v = bif am_in i (A 151).length then some (heap (up A 151 ((A 151).set i.toNatClampNeg v)) F P) else none := rfl
set_option maxRecDepth 100000 in
theorem hpS_153 (A : Nat → List Int32) (F : Nat → Int32) (P : Nat → Nat) (i v : Int32) : am_as (heap A F P) 0 153 i v = bif am_in i (A 153).length then some (heap (up A 153 ((A 153).set i.toNatClampNeg v)) F P) else none := rfl
set_option maxRecDepth 100000 in
theorem hpS_155 (A : Nat → List Int32) (F : Nat → Int32) (P : Nat → Nat) (i v : Int32) : am_as (heap A F P) 0 155 i v = bif am_in i (A 155).length then some (heap (up A 155 ((A 155).set i.toNatClampNeg v)) F P) else none := rfl
set_option maxRecDepth 100000 in
theorem hpS_157 (A : Nat → List Int32) (F : Nat → Int32) (P : Nat → Nat) (i v : Int32) : am_as (heap A F P) 0 157 i v = bif am_in i (A 157).length then some (heap (up A 157 ((A 157).set i.toNatClampNeg v)) F P) else none := rfl
set_option maxRecDepth 100000 in
theorem hpS_159 (A : Nat → List Int32) (F : Nat → Int32) (P : Nat → Nat) (i v : Int32) : am_as (heap A F P) 0 159 i v = bif am_in i (A 159).length then some (heap (up A 159 ((A 159).set i.toNatClampNeg v)) F P) else none := rfl
set_option maxRecDepth 100000 in
theorem hpS_161 (A : Nat → List Int32) (F : Nat → Int32) (P : Nat → Nat) (i v : Int32) : am_as (heap A F P) 0 161 i v = bif am_in i (A 161).length then some (heap (up A 161 ((A 161).set i.toNatClampNeg v)) F P) else none := rfl
set_option maxRecDepth 100000 in
theorem hpS_163 (A : Nat → List Int32) (F : Nat → Int32) (P : Nat → Nat) (i v : Int32) : am_as (heap A F P) 0 163 i v = bif am_in i (A 163).length then some (heap (up A 163 ((A 163).set i.toNatClampNeg v)) F P) else none := rfl
set_option maxRecDepth 100000 in
theorem hpS_166 (A : Nat → List Int32) (F : Nat → Int32) (P : Nat → Nat) (i v : Int32) : am_as (heap A F P) 0 166 i v = bif am_in i (A 166).length then some (heap (up A 166 ((A 166).set i.toNatClampNeg v)) F P) else none := rfl
set_option maxRecDepth 100000 in
theorem hpS_168 (A : Nat → List Int32) (F : Nat → Int32) (P : Nat → Nat) (i v : Int32) : am_as (heap A F P) 0 168 i v = bif am_in i (A 168).length then some (heap (up A 168 ((A 168).set i.toNatClampNeg v)) F P) else none := rfl
set_option maxRecDepth 100000 in
theorem hpS_170 (A : Nat → List Int32) (F : Nat → Int32) (P : Nat → Nat) (i v : Int32) : am_as (heap A F P) 0 170 i v = bif am_in i (A 170).length then some (heap (up A 170 ((A 170).set i.toNatClampNeg v)) F P) else none := rfl
set_option maxRecDepth 100000 in
theorem hpS_172 (A : Nat → List Int32) (F : Nat → Int32) (P : Nat → Nat) (i v : Int32) : am_as (heap A F P) 0 172 i v = bif am_in i (A 172).length then some (heap (up A 172 ((A 172).set i.toNatClampNeg v)) F P) else none := rfl
set_option maxRecDepth 100000 in
theorem hpS_174 (A : Nat → List Int32) (F : Nat → Int32) (P : Nat → Nat) (i v : Int32) : am_as (heap A F P) 0 174 i v = bif am_in i (A 174).length then some (heap (up A 174 ((A 174).set i.toNatClampNeg v)) F P) else none := rfl
set_option maxRecDepth 100000 in
theorem hpS_176 (A : Nat → List Int32) (F : Nat → Int32) (P : Nat → Nat) (i v : Int32) : am_as (heap A F P) 0 176 i v = bif am_in i (A 176).length then some (heap (up A 176 ((A 176).set i.toNatClampNeg v)) F P) else none := rfl
set_option maxRecDepth 100000 in
theorem hpS_178 (A : Nat → List Int32) (F : Nat → Int32) (P : Nat → Nat) (i v : Int32) : am_as (heap A F P) 0 178 i v = bif am_in i (A 178).length then some (heap (up A 178 ((A 178).set i.toNatClampNeg v)) F P) else none := rfl
set_option maxRecDepth 100000 in
theorem hpS_180 (A : Nat → List Int32) (F : Nat → Int32) (P : Nat → Nat) (i v : Int32) : am_as (heap A F P) 0 180 i v = bif am_in i (A 180).length then some (heap (up A 180 ((A 180).set i.toNatClampNeg v)) F P) else none := rfl
set_option maxRecDepth 100000 in
theorem hpS_182 (A : Nat → List Int32) (F : Nat → Int32) (P : Nat → Nat) (i v : Int32) : am_as (heap A F P) 0 182 i v = bif am_in i (A 182).length then some (heap (up A 182 ((A 182).set i.toNatClampNeg v)) F P) else none := rfl
set_option maxRecDepth 100000 in
theorem hpS_185 (A : Nat → List Int32) (F : Nat → Int32) (P : Nat → Nat) (i v : Int32) : am_as (heap A F P) 1 185 i v = bif am_in i (A 185).length then some (heap (up A 185 ((A 185).set i.toNatClampNeg v)) F P) else none := rfl
set_option maxRecDepth 100000 in
theorem hpS_187 (A : Nat → List Int32) (F : Nat → Int32) (P : Nat → Nat) (i v : Int32) : am_as (heap A F P) 0 187 i v = bif am_in i (A 187).length then some (heap (up A 187 ((A 187).set i.toNatClampNeg v)) F P) else none := rfl
set_option maxRecDepth 100000 in
theorem hpS_189 (A : Nat → List Int32) (F : Nat → Int32) (P : Nat → Nat) (i v : Int32) : am_as (heap A F P) 0 189 i v = bif am_in i (A 189).length then some (heap (up A 189 ((A 189).set i.toNatClampNeg v)) F P) else none := rfl
set_option maxRecDepth 100000 in
theorem hpS_191 (A : Nat → List Int32) (F : Nat → Int32) (P : Nat → Nat) (i v : Int32) : am_as (heap A F P) 0 191 i v = bif am_in i (A 191).length then some (heap (up A 191 ((A 191).set i.toNatClampNeg v)) F P) else none := rfl
set_option maxRecDepth 100000 in
theorem hpS_192 (A : Nat → List Int32) (F : Nat → Int32) (P : Nat → Nat) (i v : Int32) : am_as (heap A F P) 0 192 i v = bif am_in i (A 300).length then some (heap (up A 300 ((A 300).set i.toNatClampNeg v)) F P) else none := rfl
set_option maxRecDepth 100000 in
theorem hpS_193 (A : Nat → List Int32) (F : Nat → Int32) (P : Nat → Nat) (i v : Int32) : am_as (heap A F P) 0 193 i v = bif am_in i (A 301).length then some (heap (up A 301 ((A 301).set i.toNatClampNeg v)) F P) else none := rfl
set_option maxRecDepth 100000 in
theorem hpS_194 (A : Nat → List Int32) (F : Nat → Int32) (P : Nat → Nat) (i v : Int32) : am_as (heap A F P) 0 194 i v = bif am_in i (A 302).length then some (heap (up A 302 ((A 302).set i.toNatClampNeg v)) F P) else none := rfl
set_option maxRecDepth 100000 in
theorem hpS_195 (A : Nat → List Int32) (F : Nat → Int32) (P : Nat → Nat) (i v : Int32) : am_as (heap A F P) 0 195 i v = bif am_in i (A 303).length then some (heap (up A 303 ((A 303).set i.toNatClampNeg v)) F P) else none := rfl
set_option maxRecDepth 100000 in
theorem hpS_196 (A : Nat → List Int32) (F : Nat → Int32) (P : Nat → Nat) (i v : Int32) : am_as (heap A F P) 0 196 i v = bif am_in i (A 304).length then some (heap (up A 304 ((A 304).set i.toNatClampNeg v)) F P) else none := rfl
theorem hpSX : (∀ (A : Nat → List Int32) (F : Nat → Int32) (P : Nat → Nat) (i v : Int32), am_as (heap A F P) 0 5 i v = bif am_in i (A 5).length then some (heap (up A 5 ((A 5).set i.toNatClampNeg v)) F P) else none) ∧ (∀ (A : Nat → List Int32) (F : Nat → Int32) (P : Nat → Nat) (i v : Int32), am_as (heap A F P) 0 7 i v = bif am_in i (A 7).length then some (heap (up A 7 ((A 7).set i.toNatClampNeg v)) F P) else none) ∧ (∀ (A : Nat → List Int32) (F : Nat → Int32) (P : Nat → Nat) (i v : Int32), am_as (heap A F P) 0 10 i v = bif am_in i (A 10).length then some (heap (up A 10 ((A 10).set i.toNatClampNeg v)) F P) else none) ∧ (∀ (A : Nat → List Int32) (F : Nat → Int32) (P : Nat → Nat) (i v : Int32), am_as (heap A F P) 0 12 i v = bif am_in i (A 12).length then some (heap (up A 12 ((A 12).set i.toNatClampNeg v)) F P) else none) ∧ (∀ (A : Nat → List Int32) (F : Nat → Int32) (P : Nat → Nat) (i v : Int32), am_as (heap A F P) 0 14 i v = bif am_in i (A 14).length then some (heap (up A 14 ((A 14).set i.toNatClampNeg v)) F P) else none) ∧ (∀ (A : Nat → List Int32) (F : Nat → Int32) (P : Nat → Nat) (i v : Int32), am_as (heap A F P) 0 16 i v = bif am_in i (A 16).length then some (heap (up A 16 ((A 16).set i.toNatClampNeg v)) F P) else none) ∧ (∀ (A : Nat → List Int32) (F : Nat → Int32) (P : Nat → Nat) (i v : Int32), am_as (heap A F P) 0 18 i v = bif am_in i (A 18).length then some (heap (up A 18 ((A 18).set i.toNatClampNeg v)) F P) else none) ∧ (∀ (A : Nat → List Int32) (F : Nat → Int32) (P : Nat → Nat) (i v : Int32), am_as (heap A F P) 0 21 i v = bif am_in i (A 21).length then some (heap (up A 21 ((A 21).set i.toNatClampNeg v)) F P) else none) ∧ (∀ (A : Nat → List Int32) (F : Nat → Int32) (P : Nat → Nat) (i v : Int32), am_as (heap A F P) 0 23 i v = bif am_in i (A 23).length then some (heap (up A 23 ((A 23).set i.toNatClampNeg v)) F P) else none) ∧ (∀ (A : Nat → List Int32) (F : Nat → Int32) (P : Nat → Nat) (i v : Int32), am_as (heap A F P) 0 25 i v = bif am_in i (A 25).length then some (heap (up A 25 ((A 25).set i.toNatClampNeg v)) F P) else none) ∧ (∀ (A : Nat → List Int32) (F : Nat → Int32) (P : Nat → Nat) (i v : Int32), am_as (heap A F P) 0 27 i v = bif am_in i (A 27).length then some (heap (up A 27 ((A 27).set i.toNatClampNeg v)) F P) else none) ∧ (∀ (A : Nat → List Int32) (F : Nat → Int32) (P : Nat → Nat) (i v : Int32), am_as (heap A F P) 0 29 i v = bif am_in i (A 29).length then some (heap (up A 29 ((A 29).set i.toNatClampNeg v)) F P) else none) ∧ (∀ (A : Nat → List Int32) (F : Nat → Int32) (P : Nat → Nat) (i v : Int32), am_as (heap A F P) 0 31 i v = bif am_in i (A 31).length then some (heap (up A 31 ((A 31).set i.toNatClampNeg v)) F P) else none) ∧ (∀ (A : Nat → List Int32) (F : Nat → Int32) (P : Nat → Nat) (i v : Int32), am_as (heap A F P) 0 33 i v = bif am_in i (A 33).length then some (heap (up A 33 ((A 33).set i.toNatClampNeg v)) F P) else none) ∧ (∀ (A : Nat → List Int32) (F : Nat → Int32) (P : Nat → Nat) (i v : Int32), am_as (heap A F P) 0 166 i v = bif am_in i (A 166).length then some (heap (up A 166 ((A 166).set i.toNatClampNeg v)) F P) else none) ∧ (∀ (A : Nat → List Int32) (F : Nat → Int32) (P : Nat → Nat) (i v : Int32), am_as (heap A F P) 0 168 i v = bif am_in i (A 168).length then some (heap (up A 168 ((A 168).set i.toNatClampNeg v)) F P) else none) ∧ (∀ (A : Nat → List Int32) (F : Nat → Int32) (P : Nat → Nat) (i v : Int32), am_as (heap A F P) 0 170 i v = bif am_in i (A 170).length then some (heap (up A 170 ((A 170).set i.toNatClampNeg v)) F P) else none) ∧ (∀ (A : Nat → List Int32) (F : Nat → Int32) (P : Nat → Nat) (i v : Int32), am_as (heap A F P) 0 172 i v = bif am_in i (A 172).length then some (heap (up A 172 ((A 172).set i.toNatClampNeg v)) F P) else none) ∧ (∀ (A : Nat → List Int32) (F : Nat → Int32) (P : Nat → Nat) (i v : Int32), am_as (heap A F P) 0 174 i v = bif am_in i (A 174).length then some (heap (up A 174 ((A 174).set i.toNatClampNeg v)) F P) else none) ∧ (∀ (A : Nat → List Int32) (F : Nat → Int32) (P : Nat → Nat) (i v : Int32), am_as (heap A F P) 0 176 i v = bif am_in i (A 176).length then some (heap (up A 176 ((A 176).set i.toNatClampNeg v)) F P) else none) ∧ (∀ (A : Nat → List Int32) (F : Nat → Int32) (P : Nat → Nat) (i v : Int32), am_as (heap A F P) 0 178 i v = bif am_in i (A 178).length then some (heap (up A 178 ((A 178).set i.toNatClampNeg v)) F P) else none) ∧ (∀ (A : Nat → List Int32) (F : Nat → Int32) (P : Nat → Nat) (i v : Int32), am_as (heap A F P) 0 180 i v = bif am_in i (A 180).length then some (heap (up A 180 ((A 180).set i.toNatClampNeg v)) F P) else none) ∧ (∀ (A : Nat → List Int32) (F : Nat → Int32) (P : Nat → Nat) (i v : Int32), am_as (heap A F P) 0 182 i v = bif am_in i (A 182).length then some (heap (up A 182 ((A 182).set i.toNatClampNeg v)) F P) else none) ∧ (∀ (A : Nat → List Int32) (F : Nat → Int32) (P : Nat → Nat) (i v : Int32), am_as (heap A F P) 1 185 i v = bif am_in i (A 185).length then some (heap (up A 185 ((A 185).set i.toNatClampNeg v)) F P) else none) ∧ (∀ (A : Nat → List Int32) (F : Nat → Int32) (P : Nat → Nat) (i v : Int32), am_as (heap A F P) 0 187 i v = bif am_in i (A 187).length then some (heap (up A 187 ((A 187).set i.toNatClampNeg v)) F P) else none) ∧ (∀ (A : Nat → List Int32) (F : Nat → Int32) (P : Nat → Nat) (i v : Int32), am_as (heap A F P) 0 189 i v = bif am_in i (A 189).length then some (heap (up A 189 ((A 189).set i.toNatClampNeg v)) F P) else none) ∧ (∀ (A : Nat → List Int32) (F : Nat → Int32) (P : Nat → Nat) (i v : Int32), am_as (heap A F P) 0 191 i v = bif am_in i (A 191).length then some (heap (up A 191 ((A 191).set i.toNatClampNeg v)) F P) else none) := ⟨hpS_5, hpS_7, hpS_10, hpS_12, hpS_14, hpS_16, hpS_18, hpS_21, hpS_23, hpS_25, hpS_27, hpS_29, hpS_31, hpS_33, hpS_166, hpS_168, hpS_170, hpS_172, hpS_174, hpS_176, hpS_178, hpS_180, hpS_182, hpS_185, hpS_187, hpS_189, hpS_191⟩
theorem hpSM : (∀ (A : Nat → List Int32) (F : Nat → Int32) (P : Nat → Nat) (i v : Int32), am_as (heap A F P) 0 192 i v = bif am_in i (A 300).length then some (heap (up A 300 ((A 300).set i.toNatClampNeg v)) F P) else none) ∧ (∀ (A : Nat → List Int32) (F : Nat → Int32) (P : Nat → Nat) (i v : Int32), am_as (heap A F P) 0 193 i v = bif am_in i (A 301).length then some (heap (up A 301 ((A 301).set i.toNatClampNeg v)) F P) else none) ∧ (∀ (A : Nat → List Int32) (F : Nat → Int32) (P : Nat → Nat) (i v : Int32), am_as (heap A F P) 0 194 i v = bif am_in i (A 302).length then some (heap (up A 302 ((A 302).set i.toNatClampNeg v)) F P) else none) ∧ (∀ (A : Nat → List Int32) (F : Nat → Int32) (P : Nat → Nat) (i v : Int32), am_as (heap A F P) 0 195 i v = bif am_in i (A 303).length then some (heap (up A 303 ((A 303).set i.toNatClampNeg v)) F P) else none) ∧ (∀ (A : Nat → List Int32) (F : Nat → Int32) (P : Nat → Nat) (i v : Int32), am_as (heap A F P) 0 196 i v = bif am_in i (A 304).length then some (heap (up A 304 ((A 304).set i.toNatClampNeg v)) F P) else none) := ⟨hpS_192, hpS_193, hpS_194, hpS_195, hpS_196⟩
theorem hpSY : (∀ (A : Nat → List Int32) (F : Nat → Int32) (P : Nat → Nat) (i v : Int32), am_as (heap A F P) 0 39 i v = bif am_in i (A 39).length then some (heap (up A 39 ((A 39).set i.toNatClampNeg v)) F P) else none) ∧ (∀ (A : Nat → List Int32) (F : Nat → Int32) (P : Nat → Nat) (i v : Int32), am_as (heap A F P) 0 41 i v = bif am_in i (A 41).length then some (heap (up A 41 ((A 41).set i.toNatClampNeg v)) F P) else none) ∧ (∀ (A : Nat → List Int32) (F : Nat → Int32) (P : Nat → Nat) (i v : Int32), am_as (heap A F P) 0 44 i v = bif am_in i (A 44).length then some (heap (up A 44 ((A 44).set i.toNatClampNeg v)) F P) else none) ∧ (∀ (A : Nat → List Int32) (F : Nat → Int32) (P : Nat → Nat) (i v : Int32), am_as (heap A F P) 0 46 i v = bif am_in i (A 46).length then some (heap (up A 46 ((A 46).set i.toNatClampNeg v)) F P) else none) ∧ (∀ (A : Nat → List Int32) (F : Nat → Int32) (P : Nat → Nat) (i v : Int32), am_as (heap A F P) 0 48 i v = bif am_in i (A 48).length then some (heap (up A 48 ((A 48).set i.toNatClampNeg v)) F P) else none) ∧ (∀ (A : Nat → List Int32) (F : Nat → Int32) (P : Nat → Nat) (i v : Int32), am_as (heap A F P) 0 50 i v = bif am_in i (A 50).length then some (heap (up A 50 ((A 50).set i.toNatClampNeg v)) F P) else none) ∧ (∀ (A : Nat → List Int32) (F : Nat → Int32) (P : Nat → Nat) (i v : Int32), am_as (heap A F P) 0 52 i v = bif am_in i (A 52).length then some (heap (up A 52 ((A 52).set i.toNatClampNeg v)) F P) else none) ∧ (∀ (A : Nat → List Int32) (F : Nat → Int32) (P : Nat → Nat) (i v : Int32), am_as (heap A F P) 0 55 i v = bif am_in i (A 55).length then some (heap (up A 55 ((A 55).set i.toNatClampNeg v)) F P) else none) ∧ (∀ (A : Nat → List Int32) (F : Nat → Int32) (P : Nat → Nat) (i v : Int32), am_as (heap A F P) 0 57 i v = bif am_in i (A 57).length then some (heap (up A 57 ((A 57).set i.toNatClampNeg v)) F P) else none) ∧ (∀ (A : Nat → List Int32) (F : Nat → Int32) (P : Nat → Nat) (i v : Int32), am_as (heap A F P) 0 59 i v = bif am_in i (A 59).length then some (heap (up A 59 ((A 59).set i.toNatClampNeg v)) F P) else none) ∧ (∀ (A : Nat → List Int32) (F : Nat → Int32) (P : Nat → Nat) (i v : Int32), am_as (heap A F P) 0 61 i v = bif am_in i (A 61).length then some (heap (up A 61 ((A 61).set i.toNatClampNeg v)) F P) else none) ∧ (∀ (A : Nat → List Int32) (F : Nat → Int32) (P : Nat → Nat) (i v : Int32), am_as (heap A F P) 0 63 i v = bif am_in i (A 63).length then some (heap (up A 63 ((A 63).set i.toNatClampNeg v)) F P) else none) ∧ (∀ (A : Nat → List Int32) (F : Nat → Int32) (P : Nat → Nat) (i v : Int32), am_as (heap A F P) 0 65 i v = bif am_in i (A 65).length then some (heap (up A 65 ((A 65).set i.toNatClampNeg v)) F P) else none) ∧ (∀ (A : Nat → List Int32) (F : Nat → Int32) (P : Nat → Nat) (i v : Int32), am_as (heap A F P) 0 67 i v = bif am_in i (A 67).length then some (heap (up A 67 ((A 67).set i.toNatClampNeg v)) F P) else none) ∧ (∀ (A : Nat → List Int32) (F : Nat → Int32) (P : Nat → Nat) (i v : Int32), am_as (heap A F P) 0 71 i v = bif am_in i (A 71).length then some (heap (up A 71 ((A 71).set i.toNatClampNeg v)) F P) else none) ∧ (∀ (A : Nat → List Int32) (F : Nat → Int32) (P : Nat → Nat) (i v : Int32), am_as (heap A F P) 0 73 i v = bif am_in i (A 73).length then some (heap (up A 73 ((A 73).set i.toNatClampNeg v)) F P) else none) ∧ (∀ (A : Nat → List Int32) (F : Nat → Int32) (P : Nat → Nat) (i v : Int32), am_as (heap A F P) 0 76 i v = bif am_in i (A 76).length then some (heap (up A 76 ((A 76).set i.toNatClampNeg v)) F P) else none) ∧ (∀ (A : Nat → List Int32) (F : Nat → Int32) (P : Nat → Nat) (i v : Int32), am_as (heap A F P) 0 78 i v = bif am_in i (A 78).length then some (heap (up A 78 ((A 78).set i.toNatClampNeg v)) F P) else none) ∧ (∀ (A : Nat → List Int32) (F : Nat → Int32) (P : Nat → Nat) (i v : Int32), am_as (heap A F P) 0 80 i v = bif am_in i (A 80).length then some (heap (up A 80 ((A 80).set i.toNatClampNeg v)) F P) else none) ∧ (∀ (A : Nat → List Int32) (F : Nat → Int32) (P : Nat → Nat) (i v : Int32), am_as (heap A F P) 0 82 i v = bif am_in i (A 82).length then some (heap (up A 82 ((A 82).set i.toNatClampNeg v)) F P) else none) ∧ (∀ (A : Nat → List Int32) (F : Nat → Int32) (P : Nat → Nat) (i v : Int32), am_as (heap A F P) 0 84 i v = bif am_in i (A 84).length then some (heap (up A 84 ((A 84).set i.toNatClampNeg v)) F P) else none) ∧ (∀ (A : Nat → List Int32) (F : Nat → Int32) (P : Nat → Nat) (i v : Int32), am_as (heap A F P) 0 87 i v = bif am_in i (A 87).length then some (heap (up A 87 ((A 87).set i.toNatClampNeg v)) F P) else none) ∧ (∀ (A : Nat → List Int32) (F : Nat → Int32) (P : Nat → Nat) (i v : Int32), am_as (heap A F P) 0 89 i v = bif am_in i (A 89).length then some (heap (up A 89 ((A 89).set i.toNatClampNeg v)) F P) else none) ∧ (∀ (A : Nat → List Int32) (F : Nat → Int32) (P : Nat → Nat) (i v : Int32), am_as (heap A F P) 0 91 i v = bif am_in i (A 91).length then some (heap (up A 91 ((A 91).set i.toNatClampNeg v)) F P) else none) ∧ (∀ (A : Nat → List Int32) (F : Nat → Int32) (P : Nat → Nat) (i v : Int32), am_as (heap A F P) 0 93 i v = bif am_in i (A 93).length then some (heap (up A 93 ((A 93).set i.toNatClampNeg v)) F P) else none) ∧ (∀ (A : Nat → List Int32) (F : Nat → Int32) (P : Nat → Nat) (i v : Int32), am_as (heap A F P) 0 95 i v = bif am_in i (A 95).length then some (heap (up A 95 ((A 95).set i.toNatClampNeg v)) F P) else none) ∧ (∀ (A : Nat → List Int32) (F : Nat → Int32) (P : Nat → Nat) (i v : Int32), am_as (heap A F P) 0 97 i v = bif am_in i (A 97).length then some (heap (up A 97 ((A 97).set i.toNatClampNeg v)) F P) else none) ∧ (∀ (A : Nat → List Int32) (F : Nat → Int32) (P : Nat → Nat) (i v : Int32), am_as (heap A F P) 0 99 i v = bif am_in i (A 99).length then some (heap (up A 99 ((A 99).set i.toNatClampNeg v)) F P) else none) ∧ (∀ (A : Nat → List Int32) (F : Nat → Int32) (P : Nat → Nat) (i v : Int32), am_as (heap A F P) 0 103 i v = bif am_in i (A 103).length then some (heap (up A 103 ((A 103).set i.toNatClampNeg v)) F P) else none) ∧ (∀ (A : Nat → List Int32) (F : Nat → Int32) (P : Nat → Nat) (i v : Int32), am_as (heap A F P) 0 105 i v = bif am_in i (A 105).length then some (heap (up A 105 ((A 105).set i.toNatClampNeg v)) F P) else none) ∧ (∀ (A : Nat → List Int32) (F : Nat → Int32) (P : Nat → Nat) (i v : Int32), am_as (heap A F P) 0 108 i v = bif am_in i (A 108).length then some (heap (up A 108 ((A 108).set i.toNatClampNeg v)) F P) else none) ∧ (∀ (A : Nat → List Int32) (F : Nat → Int32) (P : Nat → Nat) (i v : Int32), am_as (heap A F P) 0 110 i v = bif am_in i (A 110).length then some (heap (up A 110 ((A 110).set i.toNatClampNeg v)) F P) else none) ∧ (∀ (A : Nat → List Int32) (F : Nat → Int32) (P : Nat → Nat) (i v : Int32), am_as (heap A F P) 0 112 i v = bif am_in i (A 112).length then some (heap (up A 112 ((A 112).set i.toNatClampNeg v)) F P) else none) ∧ (∀ (A : Nat → List Int32) (F : Nat → Int32) (P : Nat → Nat) (i v : Int32), am_as (heap A F P) 0 114 i v = bif am_in i (A 114).length then some (heap (up A 114 ((A 114).set i.toNatClampNeg v)) F P) else none) ∧ (∀ (A : Nat → List Int32) (F : Nat → Int32) (P : Nat → Nat) (i v : Int32), am_as (heap A F P) 0 116 i v = bif am_in i (A 116).length then some (heap (up A 116 ((A 116).set i.toNatClampNeg v)) F P) else none) ∧ (∀ (A : Nat → List Int32) (F : Nat → Int32) (P : Nat → Nat) (i v : Int32), am_as (heap A F P) 0 119 i v = bif am_in i (A 119).length then some (heap (up A 119 ((A 119).set i.toNatClampNeg v)) F P) else none) ∧ (∀ (A : Nat → List Int32) (F : Nat → Int32) (P : Nat → Nat) (i v : Int32), am_as (heap A F P) 0 121 i v = bif am_in i (A 121).length then some (heap (up A 121 ((A 121).set i.toNatClampNeg v)) F P) else none) ∧ (∀ (A : Nat → List Int32) (F : Nat → Int32) (P : Nat → Nat) (i v : Int32), am_as (heap A F P) 0 123 i v = bif am_in i (A 123).length then some (heap (up A 123 ((A 123).set i.toNatClampNeg v)) F P) else none) ∧ (∀ (A : Nat → List Int32) (F : Nat → Int32) (P : Nat → Nat) (i v : Int32), am_as (heap A F P) 0 125 i v = bif am_in i (A 125).length then some (heap (up A 125 ((A 125).set i.toNatClampNeg v)) F P) else none) ∧ (∀ (A : Nat → List Int32) (F : Nat → Int32) (P : Nat → Nat) (i v : Int32), am_as (heap A F P) 0 127 i v = bif am_in i (A 127).length then some (heap (up A 127 ((A 127).set i.toNatClampNeg v)) F P) else none) ∧ (∀ (A : Nat → List Int32) (F : Nat → Int32) (P : Nat → Nat) (i v : Int32), am_as (heap A F P) 0 129 i v = bif am_in i (A 129).length then some (heap (up A 129 ((A 129).set i.toNatClampNeg v)) F P) else none) ∧ (∀ (A : Nat → List Int32) (F : Nat → Int32) (P : Nat → Nat) (i v : Int32), am_as (heap A F P) 0 131 i v = bif am_in i (A 131).length then some (heap (up A 131 ((A 131).set i.toNatClampNeg v)) F P) else none) ∧ (∀ (A : Nat → List Int32) (F : Nat → Int32) (P : Nat → Nat) (i v : Int32), am_as (heap A F P) 0 135 i v = bif am_in i (A 135).length then some (heap (up A 135 ((A 135).set i.toNatClampNeg v)) F P) else none) ∧ (∀ (A : Nat → List Int32) (F : Nat → Int32) (P : Nat → Nat) (i v : Int32), am_as (heap A F P) 0 137 i v = bif am_in i (A 137).length then some (heap (up A 137 ((A 137).set i.toNatClampNeg v)) F P) else none) ∧ (∀ (A : Nat → List Int32) (F : Nat → Int32) (P : Nat → Nat) (i v : Int32), am_as (heap A F P) 0 140 i v = bif am_in i (A 140).length then some (heap (up A 140 ((A 140).set i.toNatClampNeg v)) F P) else none) ∧ (∀ (A : Nat → List Int32) (F : Nat → Int32) (P : Nat → Nat) (i v : Int32), am_as (heap A F P) 0 142 i v = bif am_in i (A 142).length then some (heap (up A 142 ((A 142).set i.toNatClampNeg v)) F P) else none) ∧ (∀ (A : Nat → List Int32) (F : Nat → Int32) (P : Nat → Nat) (i v : Int32), am_as (heap A F P) 0 144 i v = bif am_in i (A 144).length then some (heap (up A 144 ((A 144).set i.toNatClampNeg v)) F P) else none) ∧ (∀ (A : Nat → List Int32) (F : Nat → Int32) (P : Nat → Nat) (i v : Int32), am_as (heap A F P) 0 146 i v = bif am_in i (A 146).length then some (heap (up A 146 ((A 146).set i.toNatClampNeg v)) F P) else none) ∧ (∀ (A : Nat → List Int32) (F : Nat → Int32) (P : Nat → Nat) (i v : Int32), am_as (heap A F P) 0 148 i v = bif am_in i (A 148).length then some (heap (up A 148 ((A 148).set i.toNatClampNeg v)) F P) else none) ∧ (∀ (A : Nat → List Int32) (F : Nat → Int32) (P : Nat → Nat) (i v : Int32), am_as (heap A F P) 0 151 i v = bif am_in i (A 151).length then some (heap (up A 151 ((A 151).set i.toNatClampNeg v)) F P) else none) ∧ (∀ (A : Nat → List Int32) (F : Nat → Int32) (P : Nat → Nat) (i v : Int32), am_as (heap A F P) 0 153 i v = bif am_in i (A 153).length then some (heap (up A 153 ((A 153).set i.toNatClampNeg v)) F P) else none) ∧ (∀ (A : Nat → List Int32) (F : Nat → Int32) (P : Nat → Nat) (i v : Int32), am_as (heap A F P) 0 155 i v = bif am_in i (A 155).length then some (heap (up A 155 ((A 155).set i.toNatClampNeg v)) F P) else none) ∧ (∀ (A : Nat → List Int32) (F : Nat → Int32) (P : Nat → Nat) (i v : Int32), am_as (heap A F P) 0 157 i v = bif am_in i (A 157).length then some (heap (up A 157 ((A 157).set i.toNatClampNeg v)) F P) else none) ∧ (∀ (A : Nat → List Int32) (F : Nat → Int32) (P : Nat → Nat) (i v : Int32), am_as (heap A F P) 0 159 i v = bif am_in i (A 159).length then some (heap (up A 159 ((A 159).set i.toNatClampNeg v)) F P) else none) ∧ (∀ (A : Nat → List Int32) (F : Nat → Int32) (P : Nat → Nat) (i v : Int32), am_as (heap A F P) 0 161 i v = bif am_in i (A 161).length then some (heap (up A 161 ((A 161).set i.toNatClampNeg v)) F P) else none) ∧ (∀ (A : Nat → List Int32) (F : Nat → Int32) (P : Nat → Nat) (i v : Int32), am_as (heap A F P) 0 163 i v = bif am_in i (A 163).length then some (heap (up A 163 ((A 163).set i.toNatClampNeg v)) F P) else none) := ⟨hpS_39, hpS_41, hpS_44, hpS_46, hpS_48, hpS_50, hpS_52, hpS_55, hpS_57, hpS_59, hpS_61, hpS_63, hpS_65, hpS_67, hpS_71, hpS_73, hpS_76, hpS_78, hpS_80, hpS_82, hpS_84, hpS_87, hpS_89, hpS_91, hpS_93, hpS_95, hpS_97, hpS_99, hpS_103, hpS_105, hpS_108, hpS_110, hpS_112, hpS_114, hpS_116, hpS_119, hpS_121, hpS_123, hpS_125, hpS_127, hpS_129, hpS_131, hpS_135, hpS_137, hpS_140, hpS_142, hpS_144, hpS_146, hpS_148, hpS_151, hpS_153, hpS_155, hpS_157, hpS_159, hpS_161, hpS_163⟩
theorem lits : (0 : Int32) = nI 0 ∧ (1 : Int32) = nI 1 ∧ (2 : Int32) = nI 2 ∧ (3 : Int32) = nI 3 ∧ (4 : Int32) = nI 4 ∧ (5 : Int32) = nI 5 ∧ (6 : Int32) = nI 6 ∧ (7 : Int32) = nI 7 ∧ (8 : Int32) = nI 8 ∧ (9 : Int32) = nI 9 ∧ (10 : Int32) = nI 10 ∧ (11 : Int32) = nI 11 ∧ (12 : Int32) = nI 12 ∧ (13 : Int32) = nI 13 ∧ (14 : Int32) = nI 14 ∧ (20 : Int32) = nI 20 ∧ (26 : Int32) = nI 26 ∧ (30 : Int32) = nI 30 ∧ (40 : Int32) = nI 40 ∧ (44 : Int32) = nI 44 ∧ (47 : Int32) = nI 47 ∧ (48 : Int32) = nI 48 ∧ (50 : Int32) = nI 50 ∧ (51 : Int32) = nI 51 ∧ (55 : Int32) = nI 55 ∧ (57 : Int32) = nI 57 ∧ (60 : Int32) = nI 60 ∧ (61 : Int32) = nI 61 ∧ (64 : Int32) = nI 64 ∧ (80 : Int32) = nI 80 ∧ (90 : Int32) = nI 90 ∧ (100 : Int32) = nI 100 ∧ (120 : Int32) = nI 120 ∧ (150 : Int32) = nI 150 ∧ (160 : Int32) = nI 160 ∧ (200 : Int32) = nI 200 ∧ (300 : Int32) = nI 300 ∧ (400 : Int32) = nI 400 ∧ (500 : Int32) = nI 500 ∧ (501 : Int32) = nI 501 ∧ (1000 : Int32) = nI 1000 ∧ (1001 : Int32) = nI 1001 ∧ (6101 : Int32) = nI 6101 ∧ (50000 : Int32) = nI 50000 ∧ (50001 : Int32) = nI 50001 ∧ (100000 : Int32) = nI 100000 ∧ (100001 : Int32) = nI 100001 ∧ (1000000 : Int32) = nI 1000000 ∧ (1000001 : Int32) = nI 1000001 ∧ (2000000 : Int32) = nI 2000000 ∧ (2000001 : Int32) = nI 2000001 ∧ (8050009 : Int32) = nI 8050009 ∧ (10000000 : Int32) = nI 10000000 ∧ (10000001 : Int32) = nI 10000001 ∧ (2147483647 : Int32) = nI 2147483647 := ⟨rfl, rfl, rfl, rfl, rfl, rfl, rfl, rfl, rfl, rfl, rfl, rfl, rfl, rfl, rfl, rfl, rfl, rfl, rfl, rfl, rfl, rfl, rfl, rfl, rfl, rfl, rfl, rfl, rfl, rfl, rfl, rfl, rfl, rfl, rfl, rfl, rfl, rfl, rfl, rfl, rfl, rfl, rfl, rfl, rfl, rfl, rfl, rfl, rfl, rfl, rfl, rfl, rfl, rfl, rfl⟩

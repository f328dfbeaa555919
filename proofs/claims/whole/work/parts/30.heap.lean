/-! THE HEAP BEHIND THE CONSTRUCTORS: A its arrays, F its ints (100 times the place and the slot), P the states of the history -/
def up {α : Type} (f : Nat → α) (k : Nat) (v : α) : Nat → α := fun j => if j = k then v else f j
def heap (A : Nat → List Int32) (F : Nat → Int32) (P : Nat → Nat) : am_H := [.inl (7, A 0), .inr (9, [.ref 2, .ref 34, .ref 164, .ref 183, .ref 184]), .inr (7, [.ref 3, .ref 8, .ref 17, .int (F 203), .ref 19, .ref 32]), .inr (8, [.ref 4, .ref 6, .int (F 302)]), .inr (5, [.ref 5]), .inl (0, A 5), .inr (5, [.ref 7]), .inl (0, A 7), .inr (3, [.ref 9, .ref 11, .ref 13, .ref 15, .int (F 804)]), .inr (5, [.ref 10]), .inl (0, A 10), .inr (5, [.ref 12]), .inl (0, A 12), .inr (5, [.ref 14]), .inl (0, A 14), .inr (5, [.ref 16]), .inl (0, A 16), .inr (5, [.ref 18]), .inl (0, A 18), .inr (0, [.ref 20, .ref 22, .ref 24, .ref 26, .ref 28, .ref 30, .int (F 1906)]), .inr (5, [.ref 21]), .inl (0, A 21), .inr (5, [.ref 23]), .inl (0, A 23), .inr (5, [.ref 25]), .inl (0, A 25), .inr (5, [.ref 27]), .inl (0, A 27), .inr (5, [.ref 29]), .inl (0, A 29), .inr (5, [.ref 31]), .inl (0, A 31), .inr (5, [.ref 33]), .inl (0, A 33), .inr (1, [.ref 35, .int (F 3401)]), .inr (107, [.ref (P 0), .ref (P 1), .ref (P 2), .ref (P 3)]), .inr (7, [.ref 37, .ref 42, .ref 51, .int (F 3603), .ref 53, .ref 66]), .inr (8, [.ref 38, .ref 40, .int (F 3702)]), .inr (5, [.ref 39]), .inl (0, A 39), .inr (5, [.ref 41]), .inl (0, A 41), .inr (3, [.ref 43, .ref 45, .ref 47, .ref 49, .int (F 4204)]), .inr (5, [.ref 44]), .inl (0, A 44), .inr (5, [.ref 46]), .inl (0, A 46), .inr (5, [.ref 48]), .inl (0, A 48), .inr (5, [.ref 50]), .inl (0, A 50), .inr (5, [.ref 52]), .inl (0, A 52), .inr (0, [.ref 54, .ref 56, .ref 58, .ref 60, .ref 62, .ref 64, .int (F 5306)]), .inr (5, [.ref 55]), .inl (0, A 55), .inr (5, [.ref 57]), .inl (0, A 57), .inr (5, [.ref 59]), .inl (0, A 59), .inr (5, [.ref 61]), .inl (0, A 61), .inr (5, [.ref 63]), .inl (0, A 63), .inr (5, [.ref 65]), .inl (0, A 65), .inr (5, [.ref 67]), .inl (0, A 67), .inr (7, [.ref 69, .ref 74, .ref 83, .int (F 6803), .ref 85, .ref 98]), .inr (8, [.ref 70, .ref 72, .int (F 6902)]), .inr (5, [.ref 71]), .inl (0, A 71), .inr (5, [.ref 73]), .inl (0, A 73), .inr (3, [.ref 75, .ref 77, .ref 79, .ref 81, .int (F 7404)]), .inr (5, [.ref 76]), .inl (0, A 76), .inr (5, [.ref 78]), .inl (0, A 78), .inr (5, [.ref 80]), .inl (0, A 80), .inr (5, [.ref 82]), .inl (0, A 82), .inr (5, [.ref 84]), .inl (0, A 84), .inr (0, [.ref 86, .ref 88, .ref 90, .ref 92, .ref 94, .ref 96, .int (F 8506)]), .inr (5, [.ref 87]), .inl (0, A 87), .inr (5, [.ref 89]), .inl (0, A 89), .inr (5, [.ref 91]), .inl (0, A 91), .inr (5, [.ref 93]), .inl (0, A 93), .inr (5, [.ref 95]), .inl (0, A 95), .inr (5, [.ref 97]), .inl (0, A 97), .inr (5, [.ref 99]), .inl (0, A 99), .inr (7, [.ref 101, .ref 106, .ref 115, .int (F 10003), .ref 117, .ref 130]), .inr (8, [.ref 102, .ref 104, .int (F 10102)]), .inr (5, [.ref 103]), .inl (0, A 103), .inr (5, [.ref 105]), .inl (0, A 105), .inr (3, [.ref 107, .ref 109, .ref 111, .ref 113, .int (F 10604)]), .inr (5, [.ref 108]), .inl (0, A 108), .inr (5, [.ref 110]), .inl (0, A 110), .inr (5, [.ref 112]), .inl (0, A 112), .inr (5, [.ref 114]), .inl (0, A 114), .inr (5, [.ref 116]), .inl (0, A 116), .inr (0, [.ref 118, .ref 120, .ref 122, .ref 124, .ref 126, .ref 128, .int (F 11706)]), .inr (5, [.ref 119]), .inl (0, A 119), .inr (5, [.ref 121]), .inl (0, A 121), .inr (5, [.ref 123]), .inl (0, A 123), .inr (5, [.ref 125]), .inl (0, A 125), .inr (5, [.ref 127]), .inl (0, A 127), .inr (5, [.ref 129]), .inl (0, A 129), .inr (5, [.ref 131]), .inl (0, A 131), .inr (7, [.ref 133, .ref 138, .ref 147, .int (F 13203), .ref 149, .ref 162]), .inr (8, [.ref 134, .ref 136, .int (F 13302)]), .inr (5, [.ref 135]), .inl (0, A 135), .inr (5, [.ref 137]), .inl (0, A 137), .inr (3, [.ref 139, .ref 141, .ref 143, .ref 145, .int (F 13804)]), .inr (5, [.ref 140]), .inl (0, A 140), .inr (5, [.ref 142]), .inl (0, A 142), .inr (5, [.ref 144]), .inl (0, A 144), .inr (5, [.ref 146]), .inl (0, A 146), .inr (5, [.ref 148]), .inl (0, A 148), .inr (0, [.ref 150, .ref 152, .ref 154, .ref 156, .ref 158, .ref 160, .int (F 14906)]), .inr (5, [.ref 151]), .inl (0, A 151), .inr (5, [.ref 153]), .inl (0, A 153), .inr (5, [.ref 155]), .inl (0, A 155), .inr (5, [.ref 157]), .inl (0, A 157), .inr (5, [.ref 159]), .inl (0, A 159), .inr (5, [.ref 161]), .inl (0, A 161), .inr (5, [.ref 163]), .inl (0, A 163), .inr (6, [.ref 2, .ref 165, .ref 167, .ref 169, .ref 171, .ref 173, .ref 175, .ref 177, .ref 179, .ref 181, .int (F 16410)]), .inr (5, [.ref 166]), .inl (0, A 166), .inr (5, [.ref 168]), .inl (0, A 168), .inr (5, [.ref 170]), .inl (0, A 170), .inr (5, [.ref 172]), .inl (0, A 172), .inr (5, [.ref 174]), .inl (0, A 174), .inr (5, [.ref 176]), .inl (0, A 176), .inr (5, [.ref 178]), .inl (0, A 178), .inr (5, [.ref 180]), .inl (0, A 180), .inr (5, [.ref 182]), .inl (0, A 182), .inr (4, [.ref 2, .ref 164]), .inr (2, [.ref 185, .int (F 18401), .ref 186, .ref 188, .ref 190, .int (F 18405), .int (F 18406), .int (F 18407), .int (F 18408), .int (F 18409)]), .inl (1, A 185), .inr (5, [.ref 187]), .inl (0, A 187), .inr (5, [.ref 189]), .inl (0, A 189), .inr (5, [.ref 191]), .inl (0, A 191), .inr (10, [.ref 193, .ref 194, .int (F 19202), .int (F 19203), .ref 195, .int (F 19205), .int (F 19206), .int (F 19207), .ref 196, .ref 197, .ref 198, .ref 199, .ref 200, .ref 201, .ref 202, .ref 203, .ref 204, .ref 205]), .inl (0, A 193), .inl (0, A 194), .inl (1, A 195), .inl (0, A 196), .inl (0, A 197), .inl (0, A 198), .inl (0, A 199), .inl (0, A 200), .inl (0, A 201), .inl (0, A 202), .inl (0, A 203), .inl (0, A 204), .inl (0, A 205)]
set_option maxRecDepth 100000 in
theorem hpR_0 (A : Nat → List Int32) (F : Nat → Int32) (P : Nat → Nat) : am_gr (heap A F P) 1 9 0 = some 2 := rfl
set_option maxRecDepth 100000 in
theorem hpR_1 (A : Nat → List Int32) (F : Nat → Int32) (P : Nat → Nat) : am_gr (heap A F P) 1 9 1 = some 34 := rfl
set_option maxRecDepth 100000 in
theorem hpR_2 (A : Nat → List Int32) (F : Nat → Int32) (P : Nat → Nat) : am_gr (heap A F P) 1 9 2 = some 164 := rfl
set_option maxRecDepth 100000 in
theorem hpR_3 (A : Nat → List Int32) (F : Nat → Int32) (P : Nat → Nat) : am_gr (heap A F P) 1 9 3 = some 183 := rfl
set_option maxRecDepth 100000 in
theorem hpR_4 (A : Nat → List Int32) (F : Nat → Int32) (P : Nat → Nat) : am_gr (heap A F P) 1 9 4 = some 184 := rfl
set_option maxRecDepth 100000 in
theorem hpR_5 (A : Nat → List Int32) (F : Nat → Int32) (P : Nat → Nat) : am_gr (heap A F P) 2 7 0 = some 3 := rfl
set_option maxRecDepth 100000 in
theorem hpR_6 (A : Nat → List Int32) (F : Nat → Int32) (P : Nat → Nat) : am_gr (heap A F P) 2 7 1 = some 8 := rfl
set_option maxRecDepth 100000 in
theorem hpR_7 (A : Nat → List Int32) (F : Nat → Int32) (P : Nat → Nat) : am_gr (heap A F P) 2 7 2 = some 17 := rfl
set_option maxRecDepth 100000 in
theorem hpR_8 (A : Nat → List Int32) (F : Nat → Int32) (P : Nat → Nat) : am_gr (heap A F P) 2 7 4 = some 19 := rfl
set_option maxRecDepth 100000 in
theorem hpR_9 (A : Nat → List Int32) (F : Nat → Int32) (P : Nat → Nat) : am_gr (heap A F P) 2 7 5 = some 32 := rfl
set_option maxRecDepth 100000 in
theorem hpR_10 (A : Nat → List Int32) (F : Nat → Int32) (P : Nat → Nat) : am_gr (heap A F P) 3 8 0 = some 4 := rfl
set_option maxRecDepth 100000 in
theorem hpR_11 (A : Nat → List Int32) (F : Nat → Int32) (P : Nat → Nat) : am_gr (heap A F P) 3 8 1 = some 6 := rfl
set_option maxRecDepth 100000 in
theorem hpR_12 (A : Nat → List Int32) (F : Nat → Int32) (P : Nat → Nat) : am_gr (heap A F P) 4 5 0 = some 5 := rfl
set_option maxRecDepth 100000 in
theorem hpR_13 (A : Nat → List Int32) (F : Nat → Int32) (P : Nat → Nat) : am_gr (heap A F P) 6 5 0 = some 7 := rfl
set_option maxRecDepth 100000 in
theorem hpR_14 (A : Nat → List Int32) (F : Nat → Int32) (P : Nat → Nat) : am_gr (heap A F P) 8 3 0 = some 9 := rfl
set_option maxRecDepth 100000 in
theorem hpR_15 (A : Nat → List Int32) (F : Nat → Int32) (P : Nat → Nat) : am_gr (heap A F P) 8 3 1 = some 11 := rfl
set_option maxRecDepth 100000 in
theorem hpR_16 (A : Nat → List Int32) (F : Nat → Int32) (P : Nat → Nat) : am_gr (heap A F P) 8 3 2 = some 13 := rfl
set_option maxRecDepth 100000 in
theorem hpR_17 (A : Nat → List Int32) (F : Nat → Int32) (P : Nat → Nat) : am_gr (heap A F P) 8 3 3 = some 15 := rfl
set_option maxRecDepth 100000 in
theorem hpR_18 (A : Nat → List Int32) (F : Nat → Int32) (P : Nat → Nat) : am_gr (heap A F P) 9 5 0 = some 10 := rfl
set_option maxRecDepth 100000 in
theorem hpR_19 (A : Nat → List Int32) (F : Nat → Int32) (P : Nat → Nat) : am_gr (heap A F P) 11 5 0 = some 12 := rfl
set_option maxRecDepth 100000 in
theorem hpR_20 (A : Nat → List Int32) (F : Nat → Int32) (P : Nat → Nat) : am_gr (heap A F P) 13 5 0 = some 14 := rfl
set_option maxRecDepth 100000 in
theorem hpR_21 (A : Nat → List Int32) (F : Nat → Int32) (P : Nat → Nat) : am_gr (heap A F P) 15 5 0 = some 16 := rfl
set_option maxRecDepth 100000 in
theorem hpR_22 (A : Nat → List Int32) (F : Nat → Int32) (P : Nat → Nat) : am_gr (heap A F P) 17 5 0 = some 18 := rfl
set_option maxRecDepth 100000 in
theorem hpR_23 (A : Nat → List Int32) (F : Nat → Int32) (P : Nat → Nat) : am_gr (heap A F P) 19 0 0 = some 20 := rfl
set_option maxRecDepth 100000 in
theorem hpR_24 (A : Nat → List Int32) (F : Nat → Int32) (P : Nat → Nat) : am_gr (heap A F P) 19 0 1 = some 22 := rfl
set_option maxRecDepth 100000 in
theorem hpR_25 (A : Nat → List Int32) (F : Nat → Int32) (P : Nat → Nat) : am_gr (heap A F P) 19 0 2 = some 24 := rfl
set_option maxRecDepth 100000 in
theorem hpR_26 (A : Nat → List Int32) (F : Nat → Int32) (P : Nat → Nat) : am_gr (heap A F P) 19 0 3 = some 26 := rfl
set_option maxRecDepth 100000 in
theorem hpR_27 (A : Nat → List Int32) (F : Nat → Int32) (P : Nat → Nat) : am_gr (heap A F P) 19 0 4 = some 28 := rfl
set_option maxRecDepth 100000 in
theorem hpR_28 (A : Nat → List Int32) (F : Nat → Int32) (P : Nat → Nat) : am_gr (heap A F P) 19 0 5 = some 30 := rfl
set_option maxRecDepth 100000 in
theorem hpR_29 (A : Nat → List Int32) (F : Nat → Int32) (P : Nat → Nat) : am_gr (heap A F P) 20 5 0 = some 21 := rfl
set_option maxRecDepth 100000 in
theorem hpR_30 (A : Nat → List Int32) (F : Nat → Int32) (P : Nat → Nat) : am_gr (heap A F P) 22 5 0 = some 23 := rfl
set_option maxRecDepth 100000 in
theorem hpR_31 (A : Nat → List Int32) (F : Nat → Int32) (P : Nat → Nat) : am_gr (heap A F P) 24 5 0 = some 25 := rfl
set_option maxRecDepth 100000 in
theorem hpR_32 (A : Nat → List Int32) (F : Nat → Int32) (P : Nat → Nat) : am_gr (heap A F P) 26 5 0 = some 27 := rfl
set_option maxRecDepth 100000 in
theorem hpR_33 (A : Nat → List Int32) (F : Nat → Int32) (P : Nat → Nat) : am_gr (heap A F P) 28 5 0 = some 29 := rfl
set_option maxRecDepth 100000 in
theorem hpR_34 (A : Nat → List Int32) (F : Nat → Int32) (P : Nat → Nat) : am_gr (heap A F P) 30 5 0 = some 31 := rfl
set_option maxRecDepth 100000 in
theorem hpR_35 (A : Nat → List Int32) (F : Nat → Int32) (P : Nat → Nat) : am_gr (heap A F P) 32 5 0 = some 33 := rfl
set_option maxRecDepth 100000 in
theorem hpR_36 (A : Nat → List Int32) (F : Nat → Int32) (P : Nat → Nat) : am_gr (heap A F P) 34 1 0 = some 35 := rfl
set_option maxRecDepth 100000 in
theorem hpR_37 (A : Nat → List Int32) (F : Nat → Int32) (P : Nat → Nat) : am_gr (heap A F P) 36 7 0 = some 37 := rfl
set_option maxRecDepth 100000 in
theorem hpR_38 (A : Nat → List Int32) (F : Nat → Int32) (P : Nat → Nat) : am_gr (heap A F P) 36 7 1 = some 42 := rfl
set_option maxRecDepth 100000 in
theorem hpR_39 (A : Nat → List Int32) (F : Nat → Int32) (P : Nat → Nat) : am_gr (heap A F P) 36 7 2 = some 51 := rfl
set_option maxRecDepth 100000 in
theorem hpR_40 (A : Nat → List Int32) (F : Nat → Int32) (P : Nat → Nat) : am_gr (heap A F P) 36 7 4 = some 53 := rfl
set_option maxRecDepth 100000 in
theorem hpR_41 (A : Nat → List Int32) (F : Nat → Int32) (P : Nat → Nat) : am_gr (heap A F P) 36 7 5 = some 66 := rfl
set_option maxRecDepth 100000 in
theorem hpR_42 (A : Nat → List Int32) (F : Nat → Int32) (P : Nat → Nat) : am_gr (heap A F P) 37 8 0 = some 38 := rfl
set_option maxRecDepth 100000 in
theorem hpR_43 (A : Nat → List Int32) (F : Nat → Int32) (P : Nat → Nat) : am_gr (heap A F P) 37 8 1 = some 40 := rfl
set_option maxRecDepth 100000 in
theorem hpR_44 (A : Nat → List Int32) (F : Nat → Int32) (P : Nat → Nat) : am_gr (heap A F P) 38 5 0 = some 39 := rfl
set_option maxRecDepth 100000 in
theorem hpR_45 (A : Nat → List Int32) (F : Nat → Int32) (P : Nat → Nat) : am_gr (heap A F P) 40 5 0 = some 41 := rfl
set_option maxRecDepth 100000 in
theorem hpR_46 (A : Nat → List Int32) (F : Nat → Int32) (P : Nat → Nat) : am_gr (heap A F P) 42 3 0 = some 43 := rfl
set_option maxRecDepth 100000 in
theorem hpR_47 (A : Nat → List Int32) (F : Nat → Int32) (P : Nat → Nat) : am_gr (heap A F P) 42 3 1 = some 45 := rfl
set_option maxRecDepth 100000 in
theorem hpR_48 (A : Nat → List Int32) (F : Nat → Int32) (P : Nat → Nat) : am_gr (heap A F P) 42 3 2 = some 47 := rfl
set_option maxRecDepth 100000 in
theorem hpR_49 (A : Nat → List Int32) (F : Nat → Int32) (P : Nat → Nat) : am_gr (heap A F P) 42 3 3 = some 49 := rfl
set_option maxRecDepth 100000 in
theorem hpR_50 (A : Nat → List Int32) (F : Nat → Int32) (P : Nat → Nat) : am_gr (heap A F P) 43 5 0 = some 44 := rfl
set_option maxRecDepth 100000 in
theorem hpR_51 (A : Nat → List Int32) (F : Nat → Int32) (P : Nat → Nat) : am_gr (heap A F P) 45 5 0 = some 46 := rfl
set_option maxRecDepth 100000 in
theorem hpR_52 (A : Nat → List Int32) (F : Nat → Int32) (P : Nat → Nat) : am_gr (heap A F P) 47 5 0 = some 48 := rfl
set_option maxRecDepth 100000 in
theorem hpR_53 (A : Nat → List Int32) (F : Nat → Int32) (P : Nat → Nat) : am_gr (heap A F P) 49 5 0 = some 50 := rfl
set_option maxRecDepth 100000 in
theorem hpR_54 (A : Nat → List Int32) (F : Nat → Int32) (P : Nat → Nat) : am_gr (heap A F P) 51 5 0 = some 52 := rfl
set_option maxRecDepth 100000 in
theorem hpR_55 (A : Nat → List Int32) (F : Nat → Int32) (P : Nat → Nat) : am_gr (heap A F P) 53 0 0 = some 54 := rfl
set_option maxRecDepth 100000 in
theorem hpR_56 (A : Nat → List Int32) (F : Nat → Int32) (P : Nat → Nat) : am_gr (heap A F P) 53 0 1 = some 56 := rfl
set_option maxRecDepth 100000 in
theorem hpR_57 (A : Nat → List Int32) (F : Nat → Int32) (P : Nat → Nat) : am_gr (heap A F P) 53 0 2 = some 58 := rfl
set_option maxRecDepth 100000 in
theorem hpR_58 (A : Nat → List Int32) (F : Nat → Int32) (P : Nat → Nat) : am_gr (heap A F P) 53 0 3 = some 60 := rfl
set_option maxRecDepth 100000 in
theorem hpR_59 (A : Nat → List Int32) (F : Nat → Int32) (P : Nat → Nat) : am_gr (heap A F P) 53 0 4 = some 62 := rfl
set_option maxRecDepth 100000 in
theorem hpR_60 (A : Nat → List Int32) (F : Nat → Int32) (P : Nat → Nat) : am_gr (heap A F P) 53 0 5 = some 64 := rfl
set_option maxRecDepth 100000 in
theorem hpR_61 (A : Nat → List Int32) (F : Nat → Int32) (P : Nat → Nat) : am_gr (heap A F P) 54 5 0 = some 55 := rfl
set_option maxRecDepth 100000 in
theorem hpR_62 (A : Nat → List Int32) (F : Nat → Int32) (P : Nat → Nat) : am_gr (heap A F P) 56 5 0 = some 57 := rfl
set_option maxRecDepth 100000 in
theorem hpR_63 (A : Nat → List Int32) (F : Nat → Int32) (P : Nat → Nat) : am_gr (heap A F P) 58 5 0 = some 59 := rfl
set_option maxRecDepth 100000 in
theorem hpR_64 (A : Nat → List Int32) (F : Nat → Int32) (P : Nat → Nat) : am_gr (heap A F P) 60 5 0 = some 61 := rfl
set_option maxRecDepth 100000 in
theorem hpR_65 (A : Nat → List Int32) (F : Nat → Int32) (P : Nat → Nat) : am_gr (heap A F P) 62 5 0 = some 63 := rfl
set_option maxRecDepth 100000 in
theorem hpR_66 (A : Nat → List Int32) (F : Nat → Int32) (P : Nat → Nat) : am_gr (heap A F P) 64 5 0 = some 65 := rfl
set_option maxRecDepth 100000 in
theorem hpR_67 (A : Nat → List Int32) (F : Nat → Int32) (P : Nat → Nat) : am_gr (heap A F P) 66 5 0 = some 67 := rfl
set_option maxRecDepth 100000 in
theorem hpR_68 (A : Nat → List Int32) (F : Nat → Int32) (P : Nat → Nat) : am_gr (heap A F P) 68 7 0 = some 69 := rfl
set_option maxRecDepth 100000 in
theorem hpR_69 (A : Nat → List Int32) (F : Nat → Int32) (P : Nat → Nat) : am_gr (heap A F P) 68 7 1 = some 74 := rfl
set_option maxRecDepth 100000 in
theorem hpR_70 (A : Nat → List Int32) (F : Nat → Int32) (P : Nat → Nat) : am_gr (heap A F P) 68 7 2 = some 83 := rfl
set_option maxRecDepth 100000 in
theorem hpR_71 (A : Nat → List Int32) (F : Nat → Int32) (P : Nat → Nat) : am_gr (heap A F P) 68 7 4 = some 85 := rfl
set_option maxRecDepth 100000 in
theorem hpR_72 (A : Nat → List Int32) (F : Nat → Int32) (P : Nat → Nat) : am_gr (heap A F P) 68 7 5 = some 98 := rfl
set_option maxRecDepth 100000 in
theorem hpR_73 (A : Nat → List Int32) (F : Nat → Int32) (P : Nat → Nat) : am_gr (heap A F P) 69 8 0 = some 70 := rfl
set_option maxRecDepth 100000 in
theorem hpR_74 (A : Nat → List Int32) (F : Nat → Int32) (P : Nat → Nat) : am_gr (heap A F P) 69 8 1 = some 72 := rfl
set_option maxRecDepth 100000 in
theorem hpR_75 (A : Nat → List Int32) (F : Nat → Int32) (P : Nat → Nat) : am_gr (heap A F P) 70 5 0 = some 71 := rfl
set_option maxRecDepth 100000 in
theorem hpR_76 (A : Nat → List Int32) (F : Nat → Int32) (P : Nat → Nat) : am_gr (heap A F P) 72 5 0 = some 73 := rfl
set_option maxRecDepth 100000 in
theorem hpR_77 (A : Nat → List Int32) (F : Nat → Int32) (P : Nat → Nat) : am_gr (heap A F P) 74 3 0 = some 75 := rfl
set_option maxRecDepth 100000 in
theorem hpR_78 (A : Nat → List Int32) (F : Nat → Int32) (P : Nat → Nat) : am_gr (heap A F P) 74 3 1 = some 77 := rfl
set_option maxRecDepth 100000 in
theorem hpR_79 (A : Nat → List Int32) (F : Nat → Int32) (P : Nat → Nat) : am_gr (heap A F P) 74 3 2 = some 79 := rfl
set_option maxRecDepth 100000 in
theorem hpR_80 (A : Nat → List Int32) (F : Nat → Int32) (P : Nat → Nat) : am_gr (heap A F P) 74 3 3 = some 81 := rfl
set_option maxRecDepth 100000 in
theorem hpR_81 (A : Nat → List Int32) (F : Nat → Int32) (P : Nat → Nat) : am_gr (heap A F P) 75 5 0 = some 76 := rfl
set_option maxRecDepth 100000 in
theorem hpR_82 (A : Nat → List Int32) (F : Nat → Int32) (P : Nat → Nat) : am_gr (heap A F P) 77 5 0 = some 78 := rfl
set_option maxRecDepth 100000 in
theorem hpR_83 (A : Nat → List Int32) (F : Nat → Int32) (P : Nat → Nat) : am_gr (heap A F P) 79 5 0 = some 80 := rfl
set_option maxRecDepth 100000 in
theorem hpR_84 (A : Nat → List Int32) (F : Nat → Int32) (P : Nat → Nat) : am_gr (heap A F P) 81 5 0 = some 82 := rfl
set_option maxRecDepth 100000 in
theorem hpR_85 (A : Nat → List Int32) (F : Nat → Int32) (P : Nat → Nat) : am_gr (heap A F P) 83 5 0 = some 84 := rfl
set_option maxRecDepth 100000 in
theorem hpR_86 (A : Nat → List Int32) (F : Nat → Int32) (P : Nat → Nat) : am_gr (heap A F P) 85 0 0 = some 86 := rfl
set_option maxRecDepth 100000 in
theorem hpR_87 (A : Nat → List Int32) (F : Nat → Int32) (P : Nat → Nat) : am_gr (heap A F P) 85 0 1 = some 88 := rfl
set_option maxRecDepth 100000 in
theorem hpR_88 (A : Nat → List Int32) (F : Nat → Int32) (P : Nat → Nat) : am_gr (heap A F P) 85 0 2 = some 90 := rfl
set_option maxRecDepth 100000 in
theorem hpR_89 (A : Nat → List Int32) (F : Nat → Int32) (P : Nat → Nat) : am_gr (heap A F P) 85 0 3 = some 92 := rfl
set_option maxRecDepth 100000 in
theorem hpR_90 (A : Nat → List Int32) (F : Nat → Int32) (P : Nat → Nat) : am_gr (heap A F P) 85 0 4 = some 94 := rfl
set_option maxRecDepth 100000 in
theorem hpR_91 (A : Nat → List Int32) (F : Nat → Int32) (P : Nat → Nat) : am_gr (heap A F P) 85 0 5 = some 96 := rfl
set_option maxRecDepth 100000 in
theorem hpR_92 (A : Nat → List Int32) (F : Nat → Int32) (P : Nat → Nat) : am_gr (heap A F P) 86 5 0 = some 87 := rfl
set_option maxRecDepth 100000 in
theorem hpR_93 (A : Nat → List Int32) (F : Nat → Int32) (P : Nat → Nat) : am_gr (heap A F P) 88 5 0 = some 89 := rfl
set_option maxRecDepth 100000 in
theorem hpR_94 (A : Nat → List Int32) (F : Nat → Int32) (P : Nat → Nat) : am_gr (heap A F P) 90 5 0 = some 91 := rfl
set_option maxRecDepth 100000 in
theorem hpR_95 (A : Nat → List Int32) (F : Nat → Int32) (P : Nat → Nat) : am_gr (heap A F P) 92 5 0 = some 93 := rfl
set_option maxRecDepth 100000 in
theorem hpR_96 (A : Nat → List Int32) (F : Nat → Int32) (P : Nat → Nat) : am_gr (heap A F P) 94 5 0 = some 95 := rfl
set_option maxRecDepth 100000 in
theorem hpR_97 (A : Nat → List Int32) (F : Nat → Int32) (P : Nat → Nat) : am_gr (heap A F P) 96 5 0 = some 97 := rfl
set_option maxRecDepth 100000 in
theorem hpR_98 (A : Nat → List Int32) (F : Nat → Int32) (P : Nat → Nat) : am_gr (heap A F P) 98 5 0 = some 99 := rfl
set_option maxRecDepth 100000 in
theorem hpR_99 (A : Nat → List Int32) (F : Nat → Int32) (P : Nat → Nat) : am_gr (heap A F P) 100 7 0 = some 101 := rfl
set_option maxRecDepth 100000 in
theorem hpR_100 (A : Nat → List Int32) (F : Nat → Int32) (P : Nat → Nat) : am_gr (heap A F P) 100 7 1 = some 106 := rfl
set_option maxRecDepth 100000 in
theorem hpR_101 (A : Nat → List Int32) (F : Nat → Int32) (P : Nat → Nat) : am_gr (heap A F P) 100 7 2 = some 115 := rfl
set_option maxRecDepth 100000 in
theorem hpR_102 (A : Nat → List Int32) (F : Nat → Int32) (P : Nat → Nat) : am_gr (heap A F P) 100 7 4 = some 117 := rfl
set_option maxRecDepth 100000 in
theorem hpR_103 (A : Nat → List Int32) (F : Nat → Int32) (P : Nat → Nat) : am_gr (heap A F P) 100 7 5 = some 130 := rfl
set_option maxRecDepth 100000 in
theorem hpR_104 (A : Nat → List Int32) (F : Nat → Int32) (P : Nat → Nat) : am_gr (heap A F P) 101 8 0 = some 102 := rfl
set_option maxRecDepth 100000 in
theorem hpR_105 (A : Nat → List Int32) (F : Nat → Int32) (P : Nat → Nat) : am_gr (heap A F P) 101 8 1 = some 104 := rfl
set_option maxRecDepth 100000 in
theorem hpR_106 (A : Nat → List Int32) (F : Nat → Int32) (P : Nat → Nat) : am_gr (heap A F P) 102 5 0 = some 103 := rfl
set_option maxRecDepth 100000 in
theorem hpR_107 (A : Nat → List Int32) (F : Nat → Int32) (P : Nat → Nat) : am_gr (heap A F P) 104 5 0 = some 105 := rfl
set_option maxRecDepth 100000 in
theorem hpR_108 (A : Nat → List Int32) (F : Nat → Int32) (P : Nat → Nat) : am_gr (heap A F P) 106 3 0 = some 107 := rfl
set_option maxRecDepth 100000 in
theorem hpR_109 (A : Nat → List Int32) (F : Nat → Int32) (P : Nat → Nat) : am_gr (heap A F P) 106 3 1 = some 109 := rfl
set_option maxRecDepth 100000 in
theorem hpR_110 (A : Nat → List Int32) (F : Nat → Int32) (P : Nat → Nat) : am_gr (heap A F P) 106 3 2 = some 111 := rfl
set_option maxRecDepth 100000 in
theorem hpR_111 (A : Nat → List Int32) (F : Nat → Int32) (P : Nat → Nat) : am_gr (heap A F P) 106 3 3 = some 113 := rfl
set_option maxRecDepth 100000 in
theorem hpR_112 (A : Nat → List Int32) (F : Nat → Int32) (P : Nat → Nat) : am_gr (heap A F P) 107 5 0 = some 108 := rfl
set_option maxRecDepth 100000 in
theorem hpR_113 (A : Nat → List Int32) (F : Nat → Int32) (P : Nat → Nat) : am_gr (heap A F P) 109 5 0 = some 110 := rfl
set_option maxRecDepth 100000 in
theorem hpR_114 (A : Nat → List Int32) (F : Nat → Int32) (P : Nat → Nat) : am_gr (heap A F P) 111 5 0 = some 112 := rfl
set_option maxRecDepth 100000 in
theorem hpR_115 (A : Nat → List Int32) (F : Nat → Int32) (P : Nat → Nat) : am_gr (heap A F P) 113 5 0 = some 114 := rfl
set_option maxRecDepth 100000 in
theorem hpR_116 (A : Nat → List Int32) (F : Nat → Int32) (P : Nat → Nat) : am_gr (heap A F P) 115 5 0 = some 116 := rfl
set_option maxRecDepth 100000 in
theorem hpR_117 (A : Nat → List Int32) (F : Nat → Int32) (P : Nat → Nat) : am_gr (heap A F P) 117 0 0 = some 118 := rfl
set_option maxRecDepth 100000 in
theorem hpR_118 (A : Nat → List Int32) (F : Nat → Int32) (P : Nat → Nat) : am_gr (heap A F P) 117 0 1 = some 120 := rfl
set_option maxRecDepth 100000 in
theorem hpR_119 (A : Nat → List Int32) (F : Nat → Int32) (P : Nat → Nat) : am_gr (heap A F P) 117 0 2 = some 122 := rfl
set_option maxRecDepth 100000 in
theorem hpR_120 (A : Nat → List Int32) (F : Nat → Int32) (P : Nat → Nat) : am_gr (heap A F P) 117 0 3 = some 124 := rfl
set_option maxRecDepth 100000 in
theorem hpR_121 (A : Nat → List Int32) (F : Nat → Int32) (P : Nat → Nat) : am_gr (heap A F P) 117 0 4 = some 126 := rfl
set_option maxRecDepth 100000 in
theorem hpR_122 (A : Nat → List Int32) (F : Nat → Int32) (P : Nat → Nat) : am_gr (heap A F P) 117 0 5 = some 128 := rfl
set_option maxRecDepth 100000 in
theorem hpR_123 (A : Nat → List Int32) (F : Nat → Int32) (P : Nat → Nat) : am_gr (heap A F P) 118 5 0 = some 119 := rfl
set_option maxRecDepth 100000 in
theorem hpR_124 (A : Nat → List Int32) (F : Nat → Int32) (P : Nat → Nat) : am_gr (heap A F P) 120 5 0 = some 121 := rfl
set_option maxRecDepth 100000 in
theorem hpR_125 (A : Nat → List Int32) (F : Nat → Int32) (P : Nat → Nat) : am_gr (heap A F P) 122 5 0 = some 123 := rfl
set_option maxRecDepth 100000 in
theorem hpR_126 (A : Nat → List Int32) (F : Nat → Int32) (P : Nat → Nat) : am_gr (heap A F P) 124 5 0 = some 125 := rfl
set_option maxRecDepth 100000 in
theorem hpR_127 (A : Nat → List Int32) (F : Nat → Int32) (P : Nat → Nat) : am_gr (heap A F P) 126 5 0 = some 127 := rfl
set_option maxRecDepth 100000 in
theorem hpR_128 (A : Nat → List Int32) (F : Nat → Int32) (P : Nat → Nat) : am_gr (heap A F P) 128 5 0 = some 129 := rfl
set_option maxRecDepth 100000 in
theorem hpR_129 (A : Nat → List Int32) (F : Nat → Int32) (P : Nat → Nat) : am_gr (heap A F P) 130 5 0 = some 131 := rfl
set_option maxRecDepth 100000 in
theorem hpR_130 (A : Nat → List Int32) (F : Nat → Int32) (P : Nat → Nat) : am_gr (heap A F P) 132 7 0 = some 133 := rfl
set_option maxRecDepth 100000 in
theorem hpR_131 (A : Nat → List Int32) (F : Nat → Int32) (P : Nat → Nat) : am_gr (heap A F P) 132 7 1 = some 138 := rfl
set_option maxRecDepth 100000 in
theorem hpR_132 (A : Nat → List Int32) (F : Nat → Int32) (P : Nat → Nat) : am_gr (heap A F P) 132 7 2 = some 147 := rfl
set_option maxRecDepth 100000 in
theorem hpR_133 (A : Nat → List Int32) (F : Nat → Int32) (P : Nat → Nat) : am_gr (heap A F P) 132 7 4 = some 149 := rfl
set_option maxRecDepth 100000 in
theorem hpR_134 (A : Nat → List Int32) (F : Nat → Int32) (P : Nat → Nat) : am_gr (heap A F P) 132 7 5 = some 162 := rfl
set_option maxRecDepth 100000 in
theorem hpR_135 (A : Nat → List Int32) (F : Nat → Int32) (P : Nat → Nat) : am_gr (heap A F P) 133 8 0 = some 134 := rfl
set_option maxRecDepth 100000 in
theorem hpR_136 (A : Nat → List Int32) (F : Nat → Int32) (P : Nat → Nat) : am_gr (heap A F P) 133 8 1 = some 136 := rfl
set_option maxRecDepth 100000 in
theorem hpR_137 (A : Nat → List Int32) (F : Nat → Int32) (P : Nat → Nat) : am_gr (heap A F P) 134 5 0 = some 135 := rfl
set_option maxRecDepth 100000 in
theorem hpR_138 (A : Nat → List Int32) (F : Nat → Int32) (P : Nat → Nat) : am_gr (heap A F P) 136 5 0 = some 137 := rfl
set_option maxRecDepth 100000 in
theorem hpR_139 (A : Nat → List Int32) (F : Nat → Int32) (P : Nat → Nat) : am_gr (heap A F P) 138 3 0 = some 139 := rfl
set_option maxRecDepth 100000 in
theorem hpR_140 (A : Nat → List Int32) (F : Nat → Int32) (P : Nat → Nat) : am_gr (heap A F P) 138 3 1 = some 141 := rfl
set_option maxRecDepth 100000 in
theorem hpR_141 (A : Nat → List Int32) (F : Nat → Int32) (P : Nat → Nat) : am_gr (heap A F P) 138 3 2 = some 143 := rfl
set_option maxRecDepth 100000 in
theorem hpR_142 (A : Nat → List Int32) (F : Nat → Int32) (P : Nat → Nat) : am_gr (heap A F P) 138 3 3 = some 145 := rfl
set_option maxRecDepth 100000 in
theorem hpR_143 (A : Nat → List Int32) (F : Nat → Int32) (P : Nat → Nat) : am_gr (heap A F P) 139 5 0 = some 140 := rfl
set_option maxRecDepth 100000 in
theorem hpR_144 (A : Nat → List Int32) (F : Nat → Int32) (P : Nat → Nat) : am_gr (heap A F P) 141 5 0 = some 142 := rfl
set_option maxRecDepth 100000 in
theorem hpR_145 (A : Nat → List Int32) (F : Nat → Int32) (P : Nat → Nat) : am_gr (heap A F P) 143 5 0 = some 144 := rfl
set_option maxRecDepth 100000 in
theorem hpR_146 (A : Nat → List Int32) (F : Nat → Int32) (P : Nat → Nat) : am_gr (heap A F P) 145 5 0 = some 146 := rfl
set_option maxRecDepth 100000 in
theorem hpR_147 (A : Nat → List Int32) (F : Nat → Int32) (P : Nat → Nat) : am_gr (heap A F P) 147 5 0 = some 148 := rfl
set_option maxRecDepth 100000 in
theorem hpR_148 (A : Nat → List Int32) (F : Nat → Int32) (P : Nat → Nat) : am_gr (heap A F P) 149 0 0 = some 150 := rfl
set_option maxRecDepth 100000 in
theorem hpR_149 (A : Nat → List Int32) (F : Nat → Int32) (P : Nat → Nat) : am_gr (heap A F P) 149 0 1 = some 152 := rfl
set_option maxRecDepth 100000 in
theorem hpR_150 (A : Nat → List Int32) (F : Nat → Int32) (P : Nat → Nat) : am_gr (heap A F P) 149 0 2 = some 154 := rfl
set_option maxRecDepth 100000 in
theorem hpR_151 (A : Nat → List Int32) (F : Nat → Int32) (P : Nat → Nat) : am_gr (heap A F P) 149 0 3 = some 156 := rfl
set_option maxRecDepth 100000 in
theorem hpR_152 (A : Nat → List Int32) (F : Nat → Int32) (P : Nat → Nat) : am_gr (heap A F P) 149 0 4 = some 158 := rfl
set_option maxRecDepth 100000 in
theorem hpR_153 (A : Nat → List Int32) (F : Nat → Int32) (P : Nat → Nat) : am_gr (heap A F P) 149 0 5 = some 160 := rfl
set_option maxRecDepth 100000 in
theorem hpR_154 (A : Nat → List Int32) (F : Nat → Int32) (P : Nat → Nat) : am_gr (heap A F P) 150 5 0 = some 151 := rfl
set_option maxRecDepth 100000 in
theorem hpR_155 (A : Nat → List Int32) (F : Nat → Int32) (P : Nat → Nat) : am_gr (heap A F P) 152 5 0 = some 153 := rfl
set_option maxRecDepth 100000 in
theorem hpR_156 (A : Nat → List Int32) (F : Nat → Int32) (P : Nat → Nat) : am_gr (heap A F P) 154 5 0 = some 155 := rfl
set_option maxRecDepth 100000 in
theorem hpR_157 (A : Nat → List Int32) (F : Nat → Int32) (P : Nat → Nat) : am_gr (heap A F P) 156 5 0 = some 157 := rfl
set_option maxRecDepth 100000 in
theorem hpR_158 (A : Nat → List Int32) (F : Nat → Int32) (P : Nat → Nat) : am_gr (heap A F P) 158 5 0 = some 159 := rfl
set_option maxRecDepth 100000 in
theorem hpR_159 (A : Nat → List Int32) (F : Nat → Int32) (P : Nat → Nat) : am_gr (heap A F P) 160 5 0 = some 161 := rfl
set_option maxRecDepth 100000 in
theorem hpR_160 (A : Nat → List Int32) (F : Nat → Int32) (P : Nat → Nat) : am_gr (heap A F P) 162 5 0 = some 163 := rfl
set_option maxRecDepth 100000 in
theorem hpR_161 (A : Nat → List Int32) (F : Nat → Int32) (P : Nat → Nat) : am_gr (heap A F P) 164 6 0 = some 2 := rfl
set_option maxRecDepth 100000 in
theorem hpR_162 (A : Nat → List Int32) (F : Nat → Int32) (P : Nat → Nat) : am_gr (heap A F P) 164 6 1 = some 165 := rfl
set_option maxRecDepth 100000 in
theorem hpR_163 (A : Nat → List Int32) (F : Nat → Int32) (P : Nat → Nat) : am_gr (heap A F P) 164 6 2 = some 167 := rfl
set_option maxRecDepth 100000 in
theorem hpR_164 (A : Nat → List Int32) (F : Nat → Int32) (P : Nat → Nat) : am_gr (heap A F P) 164 6 3 = some 169 := rfl
set_option maxRecDepth 100000 in
theorem hpR_165 (A : Nat → List Int32) (F : Nat → Int32) (P : Nat → Nat) : am_gr (heap A F P) 164 6 4 = some 171 := rfl
set_option maxRecDepth 100000 in
theorem hpR_166 (A : Nat → List Int32) (F : Nat → Int32) (P : Nat → Nat) : am_gr (heap A F P) 164 6 5 = some 173 := rfl
set_option maxRecDepth 100000 in
theorem hpR_167 (A : Nat → List Int32) (F : Nat → Int32) (P : Nat → Nat) : am_gr (heap A F P) 164 6 6 = some 175 := rfl
set_option maxRecDepth 100000 in
theorem hpR_168 (A : Nat → List Int32) (F : Nat → Int32) (P : Nat → Nat) : am_gr (heap A F P) 164 6 7 = some 177 := rfl
set_option maxRecDepth 100000 in
theorem hpR_169 (A : Nat → List Int32) (F : Nat → Int32) (P : Nat → Nat) : am_gr (heap A F P) 164 6 8 = some 179 := rfl
set_option maxRecDepth 100000 in
theorem hpR_170 (A : Nat → List Int32) (F : Nat → Int32) (P : Nat → Nat) : am_gr (heap A F P) 164 6 9 = some 181 := rfl
set_option maxRecDepth 100000 in
theorem hpR_171 (A : Nat → List Int32) (F : Nat → Int32) (P : Nat → Nat) : am_gr (heap A F P) 165 5 0 = some 166 := rfl
set_option maxRecDepth 100000 in
theorem hpR_172 (A : Nat → List Int32) (F : Nat → Int32) (P : Nat → Nat) : am_gr (heap A F P) 167 5 0 = some 168 := rfl
set_option maxRecDepth 100000 in
theorem hpR_173 (A : Nat → List Int32) (F : Nat → Int32) (P : Nat → Nat) : am_gr (heap A F P) 169 5 0 = some 170 := rfl
set_option maxRecDepth 100000 in
theorem hpR_174 (A : Nat → List Int32) (F : Nat → Int32) (P : Nat → Nat) : am_gr (heap A F P) 171 5 0 = some 172 := rfl
set_option maxRecDepth 100000 in
theorem hpR_175 (A : Nat → List Int32) (F : Nat → Int32) (P : Nat → Nat) : am_gr (heap A F P) 173 5 0 = some 174 := rfl
set_option maxRecDepth 100000 in
theorem hpR_176 (A : Nat → List Int32) (F : Nat → Int32) (P : Nat → Nat) : am_gr (heap A F P) 175 5 0 = some 176 := rfl
set_option maxRecDepth 100000 in
theorem hpR_177 (A : Nat → List Int32) (F : Nat → Int32) (P : Nat → Nat) : am_gr (heap A F P) 177 5 0 = some 178 := rfl
set_option maxRecDepth 100000 in
theorem hpR_178 (A : Nat → List Int32) (F : Nat → Int32) (P : Nat → Nat) : am_gr (heap A F P) 179 5 0 = some 180 := rfl
set_option maxRecDepth 100000 in
theorem hpR_179 (A : Nat → List Int32) (F : Nat → Int32) (P : Nat → Nat) : am_gr (heap A F P) 181 5 0 = some 182 := rfl
set_option maxRecDepth 100000 in
theorem hpR_180 (A : Nat → List Int32) (F : Nat → Int32) (P : Nat → Nat) : am_gr (heap A F P) 183 4 0 = some 2 := rfl
set_option maxRecDepth 100000 in
theorem hpR_181 (A : Nat → List Int32) (F : Nat → Int32) (P : Nat → Nat) : am_gr (heap A F P) 183 4 1 = some 164 := rfl
set_option maxRecDepth 100000 in
theorem hpR_182 (A : Nat → List Int32) (F : Nat → Int32) (P : Nat → Nat) : am_gr (heap A F P) 184 2 0 = some 185 := rfl
set_option maxRecDepth 100000 in
theorem hpR_183 (A : Nat → List Int32) (F : Nat → Int32) (P : Nat → Nat) : am_gr (heap A F P) 184 2 2 = some 186 := rfl
set_option maxRecDepth 100000 in
theorem hpR_184 (A : Nat → List Int32) (F : Nat → Int32) (P : Nat → Nat) : am_gr (heap A F P) 184 2 3 = some 188 := rfl
set_option maxRecDepth 100000 in
theorem hpR_185 (A : Nat → List Int32) (F : Nat → Int32) (P : Nat → Nat) : am_gr (heap A F P) 184 2 4 = some 190 := rfl
set_option maxRecDepth 100000 in
theorem hpR_186 (A : Nat → List Int32) (F : Nat → Int32) (P : Nat → Nat) : am_gr (heap A F P) 186 5 0 = some 187 := rfl
set_option maxRecDepth 100000 in
theorem hpR_187 (A : Nat → List Int32) (F : Nat → Int32) (P : Nat → Nat) : am_gr (heap A F P) 188 5 0 = some 189 := rfl
set_option maxRecDepth 100000 in
theorem hpR_188 (A : Nat → List Int32) (F : Nat → Int32) (P : Nat → Nat) : am_gr (heap A F P) 190 5 0 = some 191 := rfl
set_option maxRecDepth 100000 in
theorem hpR_189 (A : Nat → List Int32) (F : Nat → Int32) (P : Nat → Nat) : am_gr (heap A F P) 192 10 0 = some 193 := rfl
set_option maxRecDepth 100000 in
theorem hpR_190 (A : Nat → List Int32) (F : Nat → Int32) (P : Nat → Nat) : am_gr (heap A F P) 192 10 1 = some 194 := rfl
set_option maxRecDepth 100000 in
theorem hpR_191 (A : Nat → List Int32) (F : Nat → Int32) (P : Nat → Nat) : am_gr (heap A F P) 192 10 4 = some 195 := rfl
set_option maxRecDepth 100000 in
theorem hpR_192 (A : Nat → List Int32) (F : Nat → Int32) (P : Nat → Nat) : am_gr (heap A F P) 192 10 8 = some 196 := rfl
set_option maxRecDepth 100000 in
theorem hpR_193 (A : Nat → List Int32) (F : Nat → Int32) (P : Nat → Nat) : am_gr (heap A F P) 192 10 9 = some 197 := rfl
set_option maxRecDepth 100000 in
theorem hpR_194 (A : Nat → List Int32) (F : Nat → Int32) (P : Nat → Nat) : am_gr (heap A F P) 192 10 10 = some 198 := rfl
set_option maxRecDepth 100000 in
theorem hpR_195 (A : Nat → List Int32) (F : Nat → Int32) (P : Nat → Nat) : am_gr (heap A F P) 192 10 11 = some 199 := rfl
set_option maxRecDepth 100000 in
theorem hpR_196 (A : Nat → List Int32) (F : Nat → Int32) (P : Nat → Nat) : am_gr (heap A F P) 192 10 12 = some 200 := rfl
set_option maxRecDepth 100000 in
theorem hpR_197 (A : Nat → List Int32) (F : Nat → Int32) (P : Nat → Nat) : am_gr (heap A F P) 192 10 13 = some 201 := rfl
set_option maxRecDepth 100000 in
theorem hpR_198 (A : Nat → List Int32) (F : Nat → Int32) (P : Nat → Nat) : am_gr (heap A F P) 192 10 14 = some 202 := rfl
set_option maxRecDepth 100000 in
theorem hpR_199 (A : Nat → List Int32) (F : Nat → Int32) (P : Nat → Nat) : am_gr (heap A F P) 192 10 15 = some 203 := rfl
set_option maxRecDepth 100000 in
theorem hpR_200 (A : Nat → List Int32) (F : Nat → Int32) (P : Nat → Nat) : am_gr (heap A F P) 192 10 16 = some 204 := rfl
set_option maxRecDepth 100000 in
theorem hpR_201 (A : Nat → List Int32) (F : Nat → Int32) (P : Nat → Nat) : am_gr (heap A F P) 192 10 17 = some 205 := rfl
theorem hpR : (∀ (A : Nat → List Int32) (F : Nat → Int32) (P : Nat → Nat), am_gr (heap A F P) 1 9 0 = some 2) ∧ (∀ (A : Nat → List Int32) (F : Nat → Int32) (P : Nat → Nat), am_gr (heap A F P) 1 9 1 = some 34) ∧ (∀ (A : Nat → List Int32) (F : Nat → Int32) (P : Nat → Nat), am_gr (heap A F P) 1 9 2 = some 164) ∧ (∀ (A : Nat → List Int32) (F : Nat → Int32) (P : Nat → Nat), am_gr (heap A F P) 1 9 3 = some 183) ∧ (∀ (A : Nat → List Int32) (F : Nat → Int32) (P : Nat → Nat), am_gr (heap A F P) 1 9 4 = some 184) ∧ (∀ (A : Nat → List Int32) (F : Nat → Int32) (P : Nat → Nat), am_gr (heap A F P) 2 7 0 = some 3) ∧ (∀ (A : Nat → List Int32) (F : Nat → Int32) (P : Nat → Nat), am_gr (heap A F P) 2 7 1 = some 8) ∧ (∀ (A : Nat → List Int32) (F : Nat → Int32) (P : Nat → Nat), am_gr (heap A F P) 2 7 2 = some 17) ∧ (∀ (A : Nat → List Int32) (F : Nat → Int32) (P : Nat → Nat), am_gr (heap A F P) 2 7 4 = some 19) ∧ (∀ (A : Nat → List Int32) (F : Nat → Int32) (P : Nat → Nat), am_gr (heap A F P) 2 7 5 = some 32) ∧ (∀ (A : Nat → List Int32) (F : Nat → Int32) (P : Nat → Nat), am_gr (heap A F P) 3 8 0 = some 4) ∧ (∀ (A : Nat → List Int32) (F : Nat → Int32) (P : Nat → Nat), am_gr (heap A F P) 3 8 1 = some 6) ∧ (∀ (A : Nat → List Int32) (F : Nat → Int32) (P : Nat → Nat), am_gr (heap A F P) 4 5 0 = some 5) ∧ (∀ (A : Nat → List Int32) (F : Nat → Int32) (P : Nat → Nat), am_gr (heap A F P) 6 5 0 = some 7) ∧ (∀ (A : Nat → List Int32) (F : Nat → Int32) (P : Nat → Nat), am_gr (heap A F P) 8 3 0 = some 9) ∧ (∀ (A : Nat → List Int32) (F : Nat → Int32) (P : Nat → Nat), am_gr (heap A F P) 8 3 1 = some 11) ∧ (∀ (A : Nat → List Int32) (F : Nat → Int32) (P : Nat → Nat), am_gr (heap A F P) 8 3 2 = some 13) ∧ (∀ (A : Nat → List Int32) (F : Nat → Int32) (P : Nat → Nat), am_gr (heap A F P) 8 3 3 = some 15) ∧ (∀ (A : Nat → List Int32) (F : Nat → Int32) (P : Nat → Nat), am_gr (heap A F P) 9 5 0 = some 10) ∧ (∀ (A : Nat → List Int32) (F : Nat → Int32) (P : Nat → Nat), am_gr (heap A F P) 11 5 0 = some 12) ∧ (∀ (A : Nat → List Int32) (F : Nat → Int32) (P : Nat → Nat), am_gr (heap A F P) 13 5 0 = some 14) ∧ (∀ (A : Nat → List Int32) (F : Nat → Int32) (P : Nat → Nat), am_gr (heap A F P) 15 5 0 = some 16) ∧ (∀ (A : Nat → List Int32) (F : Nat → Int32) (P : Nat → Nat), am_gr (heap A F P) 17 5 0 = some 18) ∧ (∀ (A : Nat → List Int32) (F : Nat → Int32) (P : Nat → Nat), am_gr (heap A F P) 19 0 0 = some 20) ∧ (∀ (A : Nat → List Int32) (F : Nat → Int32) (P : Nat → Nat), am_gr (heap A F P) 19 0 1 = some 22) ∧ (∀ (A : Nat → List Int32) (F : Nat → Int32) (P : Nat → Nat), am_gr (heap A F P) 19 0 2 = some 24) ∧ (∀ (A : Nat → List Int32) (F : Nat → Int32) (P : Nat → Nat), am_gr (heap A F P) 19 0 3 = some 26) ∧ (∀ (A : Nat → List Int32) (F : Nat → Int32) (P : Nat → Nat), am_gr (heap A F P) 19 0 4 = some 28) ∧ (∀ (A : Nat → List Int32) (F : Nat → Int32) (P : Nat → Nat), am_gr (heap A F P) 19 0 5 = some 30) ∧ (∀ (A : Nat → List Int32) (F : Nat → Int32) (P : Nat → Nat), am_gr (heap A F P) 20 5 0 = some 21) ∧ (∀ (A : Nat → List Int32) (F : Nat → Int32) (P : Nat → Nat), am_gr (heap A F P) 22 5 0 = some 23) ∧ (∀ (A : Nat → List Int32) (F : Nat → Int32) (P : Nat → Nat), am_gr (heap A F P) 24 5 0 = some 25) ∧ (∀ (A : Nat → List Int32) (F : Nat → Int32) (P : Nat → Nat), am_gr (heap A F P) 26 5 0 = some 27) ∧ (∀ (A : Nat → List Int32) (F : Nat → Int32) (P : Nat → Nat), am_gr (heap A F P) 28 5 0 = some 29) ∧ (∀ (A : Nat → List Int32) (F : Nat → Int32) (P : Nat → Nat), am_gr (heap A F P) 30 5 0 = some 31) ∧ (∀ (A : Nat → List Int32) (F : Nat → Int32) (P : Nat → Nat), am_gr (heap A F P) 32 5 0 = some 33) ∧ (∀ (A : Nat → List Int32) (F : Nat → Int32) (P : Nat → Nat), am_gr (heap A F P) 34 1 0 = some 35) ∧ (∀ (A : Nat → List Int32) (F : Nat → Int32) (P : Nat → Nat), am_gr (heap A F P) 36 7 0 = some 37) ∧ (∀ (A : Nat → List Int32) (F : Nat → Int32) (P : Nat → Nat), am_gr (heap A F P) 36 7 1 = some 42) ∧ (∀ (A : Nat → List Int32) (F : Nat → Int32) (P : Nat → Nat), am_gr (heap A F P) 36 7 2 = some 51) ∧ (∀ (A : Nat → List Int32) (F : Nat → Int32) (P : Nat → Nat), am_gr (heap A F P) 36 7 4 = some 53) ∧ (∀ (A : Nat → List Int32) (F : Nat → Int32) (P : Nat → Nat), am_gr (heap A F P) 36 7 5 = some 66) ∧ (∀ (A : Nat → List Int32) (F : Nat → Int32) (P : Nat → Nat), am_gr (heap A F P) 37 8 0 = some 38) ∧ (∀ (A : Nat → List Int32) (F : Nat → Int32) (P : Nat → Nat), am_gr (heap A F P) 37 8 1 = some 40) ∧ (∀ (A : Nat → List Int32) (F : Nat → Int32) (P : Nat → Nat), am_gr (heap A F P) 38 5 0 = some 39) ∧ (∀ (A : Nat → List Int32) (F : Nat → Int32) (P : Nat → Nat), am_gr (heap A F P) 40 5 0 = some 41) ∧ (∀ (A : Nat → List Int32) (F : Nat → Int32) (P : Nat → Nat), am_gr (heap A F P) 42 3 0 = some 43) ∧ (∀ (A : Nat → List Int32) (F : Nat → Int32) (P : Nat → Nat), am_gr (heap A F P) 42 3 1 = some 45) ∧ (∀ (A : Nat → List Int32) (F : Nat → Int32) (P : Nat → Nat), am_gr (heap A F P) 42 3 2 = some 47) ∧ (∀ (A : Nat → List Int32) (F : Nat → Int32) (P : Nat → Nat), am_gr (heap A F P) 42 3 3 = some 49) ∧ (∀ (A : Nat → List Int32) (F : Nat → Int32) (P : Nat → Nat), am_gr (heap A F P) 43 5 0 = some 44) ∧ (∀ (A : Nat → List Int32) (F : Nat → Int32) (P : Nat → Nat), am_gr (heap A F P) 45 5 0 = some 46) ∧ (∀ (A : Nat → List Int32) (F : Nat → Int32) (P : Nat → Nat), am_gr (heap A F P) 47 5 0 = some 48) ∧ (∀ (A : Nat → List Int32) (F : Nat → Int32) (P : Nat → Nat), am_gr (heap A F P) 49 5 0 = some 50) ∧ (∀ (A : Nat → List Int32) (F : Nat → Int32) (P : Nat → Nat), am_gr (heap A F P) 51 5 0 = some 52) ∧ (∀ (A : Nat → List Int32) (F : Nat → Int32) (P : Nat → Nat), am_gr (heap A F P) 53 0 0 = some 54) ∧ (∀ (A : Nat → List Int32) (F : Nat → Int32) (P : Nat → Nat), am_gr (heap A F P) 53 0 1 = some 56) ∧ (∀ (A : Nat → List Int32) (F : Nat → Int32) (P : Nat → Nat), am_gr (heap A F P) 53 0 2 = some 58) ∧ (∀ (A : Nat → List Int32) (F : Nat → Int32) (P : Nat → Nat), am_gr (heap A F P) 53 0 3 = some 60) ∧ (∀ (A : Nat → List Int32) (F : Nat → Int32) (P : Nat → Nat), am_gr (heap A F P) 53 0 4 = some 62) ∧ (∀ (A : Nat → List Int32) (F : Nat → Int32) (P : Nat → Nat), am_gr (heap A F P) 53 0 5 = some 64) ∧ (∀ (A : Nat → List Int32) (F : Nat → Int32) (P : Nat → Nat), am_gr (heap A F P) 54 5 0 = some 55) ∧ (∀ (A : Nat → List Int32) (F : Nat → Int32) (P : Nat → Nat), am_gr (heap A F P) 56 5 0 = some 57) ∧ (∀ (A : Nat → List Int32) (F : Nat → Int32) (P : Nat → Nat), am_gr (heap A F P) 58 5 0 = some 59) ∧ (∀ (A : Nat → List Int32) (F : Nat → Int32) (P : Nat → Nat), am_gr (heap A F P) 60 5 0 = some 61) ∧ (∀ (A : Nat → List Int32) (F : Nat → Int32) (P : Nat → Nat), am_gr (heap A F P) 62 5 0 = some 63) ∧ (∀ (A : Nat → List Int32) (F : Nat → Int32) (P : Nat → Nat), am_gr (heap A F P) 64 5 0 = some 65) ∧ (∀ (A : Nat → List Int32) (F : Nat → Int32) (P : Nat → Nat), am_gr (heap A F P) 66 5 0 = some 67) ∧ (∀ (A : Nat → List Int32) (F : Nat → Int32) (P : Nat → Nat), am_gr (heap A F P) 68 7 0 = some 69) ∧ (∀ (A : Nat → List Int32) (F : Nat → Int32) (P : Nat → Nat), am_gr (heap A F P) 68 7 1 = some 74) ∧ (∀ (A : Nat → List Int32) (F : Nat → Int32) (P : Nat → Nat), am_gr (heap A F P) 68 7 2 = some 83) ∧ (∀ (A : Nat → List Int32) (F : Nat → Int32) (P : Nat → Nat), am_gr (heap A F P) 68 7 4 = some 85) ∧ (∀ (A : Nat → List Int32) (F : Nat → Int32) (P : Nat → Nat), am_gr (heap A F P) 68 7 5 = some 98) ∧ (∀ (A : Nat → List Int32) (F : Nat → Int32) (P : Nat → Nat), am_gr (heap A F P) 69 8 0 = some 70) ∧ (∀ (A : Nat → List Int32) (F : Nat → Int32) (P : Nat → Nat), am_gr (heap A F P) 69 8 1 = some 72) ∧ (∀ (A : Nat → List Int32) (F : Nat → Int32) (P : Nat → Nat), am_gr (heap A F P) 70 5 0 = some 71) ∧ (∀ (A : Nat → List Int32) (F : Nat → Int32) (P : Nat → Nat), am_gr (heap A F P) 72 5 0 = some 73) ∧ (∀ (A : Nat → List Int32) (F : Nat → Int32) (P : Nat → Nat), am_gr (heap A F P) 74 3 0 = some 75) ∧ (∀ (A : Nat → List Int32) (F : Nat → Int32) (P : Nat → Nat), am_gr (heap A F P) 74 3 1 = some 77) ∧ (∀ (A : Nat → List Int32) (F : Nat → Int32) (P : Nat → Nat), am_gr (heap A F P) 74 3 2 = some 79) ∧ (∀ (A : Nat → List Int32) (F : Nat → Int32) (P : Nat → Nat), am_gr (heap A F P) 74 3 3 = some 81) ∧ (∀ (A : Nat → List Int32) (F : Nat → Int32) (P : Nat → Nat), am_gr (heap A F P) 75 5 0 = some 76) ∧ (∀ (A : Nat → List Int32) (F : Nat → Int32) (P : Nat → Nat), am_gr (heap A F P) 77 5 0 = some 78) ∧ (∀ (A : Nat → List Int32) (F : Nat → Int32) (P : Nat → Nat), am_gr (heap A F P) 79 5 0 = some 80) ∧ (∀ (A : Nat → List Int32) (F : Nat → Int32) (P : Nat → Nat), am_gr (heap A F P) 81 5 0 = some 82) ∧ (∀ (A : Nat → List Int32) (F : Nat → Int32) (P : Nat → Nat), am_gr (heap A F P) 83 5 0 = some 84) ∧ (∀ (A : Nat → List Int32) (F : Nat → Int32) (P : Nat → Nat), am_gr (heap A F P) 85 0 0 = some 86) ∧ (∀ (A : Nat → List Int32) (F : Nat → Int32) (P : Nat → Nat), am_gr (heap A F P) 85 0 1 = some 88) ∧ (∀ (A : Nat → List Int32) (F : Nat → Int32) (P : Nat → Nat), am_gr (heap A F P) 85 0 2 = some 90) ∧ (∀ (A : Nat → List Int32) (F : Nat → Int32) (P : Nat → Nat), am_gr (heap A F P) 85 0 3 = some 92) ∧ (∀ (A : Nat → List Int32) (F : Nat → Int32) (P : Nat → Nat), am_gr (heap A F P) 85 0 4 = some 94) ∧ (∀ (A : Nat → List Int32) (F : Nat → Int32) (P : Nat → Nat), am_gr (heap A F P) 85 0 5 = some 96) ∧ (∀ (A : Nat → List Int32) (F : Nat → Int32) (P : Nat → Nat), am_gr (heap A F P) 86 5 0 = some 87) ∧ (∀ (A : Nat → List Int32) (F : Nat → Int32) (P : Nat → Nat), am_gr (heap A F P) 88 5 0 = some 89) ∧ (∀ (A : Nat → List Int32) (F : Nat → Int32) (P : Nat → Nat), am_gr (heap A F P) 90 5 0 = some 91) ∧ (∀ (A : Nat → List Int32) (F : Nat → Int32) (P : Nat → Nat), am_gr (heap A F P) 92 5 0 = some 93) ∧ (∀ (A : Nat → List Int32) (F : Nat → Int32) (P : Nat → Nat), am_gr (heap A F P) 94 5 0 = some 95) ∧ (∀ (A : Nat → List Int32) (F : Nat → Int32) (P : Nat → Nat), am_gr (heap A F P) 96 5 0 = some 97) ∧ (∀ (A : Nat → List Int32) (F : Nat → Int32) (P : Nat → Nat), am_gr (heap A F P) 98 5 0 = some 99) ∧ (∀ (A : Nat → List Int32) (F : Nat → Int32) (P : Nat → Nat), am_gr (heap A F P) 100 7 0 = some 101) ∧ (∀ (A : Nat → List Int32) (F : Nat → Int32) (P : Nat → Nat), am_gr (heap A F P) 100 7 1 = some 106) ∧ (∀ (A : Nat → List Int32) (F : Nat → Int32) (P : Nat → Nat), am_gr (heap A F P) 100 7 2 = some 115) ∧ (∀ (A : Nat → List Int32) (F : Nat → Int32) (P : Nat → Nat), am_gr (heap A F P) 100 7 4 = some 117) ∧ (∀ (A : Nat → List Int32) (F : Nat → Int32) (P : Nat → Nat), am_gr (heap A F P) 100 7 5 = some 130) ∧ (∀ (A : Nat → List Int32) (F : Nat → Int32) (P : Nat → Nat), am_gr (heap A F P) 101 8 0 = some 102) ∧ (∀ (A : Nat → List Int32) (F : Nat → Int32) (P : Nat → Nat), am_gr (heap A F P) 101 8 1 = some 104) ∧ (∀ (A : Nat → List Int32) (F : Nat → Int32) (P : Nat → Nat), am_gr (heap A F P) 102 5 0 = some 103) ∧ (∀ (A : Nat → List Int32) (F : Nat → Int32) (P : Nat → Nat), am_gr (heap A F P) 104 5 0 = some 105) ∧ (∀ (A : Nat → List Int32) (F : Nat → Int32) (P : Nat → Nat), am_gr (heap A F P) 106 3 0 = some 107) ∧ (∀ (A : Nat → List Int32) (F : Nat → Int32) (P : Nat → Nat), am_gr (heap A F P) 106 3 1 = some 109) ∧ (∀ (A : Nat → List Int32) (F : Nat → Int32) (P : Nat → Nat), am_gr (heap A F P) 106 3 2 = some 111) ∧ (∀ (A : Nat → List Int32) (F : Nat → Int32) (P : Nat → Nat), am_gr (heap A F P) 106 3 3 = some 113) ∧ (∀ (A : Nat → List Int32) (F : Nat → Int32) (P : Nat → Nat), am_gr (heap A F P) 107 5 0 = some 108) ∧ (∀ (A : Nat → List Int32) (F : Nat → Int32) (P : Nat → Nat), am_gr (heap A F P) 109 5 0 = some 110) ∧ (∀ (A : Nat → List Int32) (F : Nat → Int32) (P : Nat → Nat), am_gr (heap A F P) 111 5 0 = some 112) ∧ (∀ (A : Nat → List Int32) (F : Nat → Int32) (P : Nat → Nat), am_gr (heap A F P) 113 5 0 = some 114) ∧ (∀ (A : Nat → List Int32) (F : Nat → Int32) (P : Nat → Nat), am_gr (heap A F P) 115 5 0 = some 116) ∧ (∀ (A : Nat → List Int32) (F : Nat → Int32) (P : Nat → Nat), am_gr (heap A F P) 117 0 0 = some 118) ∧ (∀ (A : Nat → List Int32) (F : Nat → Int32) (P : Nat → Nat), am_gr (heap A F P) 117 0 1 = some 120) ∧ (∀ (A : Nat → List Int32) (F : Nat → Int32) (P : Nat → Nat), am_gr (heap A F P) 117 0 2 = some 122) ∧ (∀ (A : Nat → List Int32) (F : Nat → Int32) (P : Nat → Nat), am_gr (heap A F P) 117 0 3 = some 124) ∧ (∀ (A : Nat → List Int32) (F : Nat → Int32) (P : Nat → Nat), am_gr (heap A F P) 117 0 4 = some 126) ∧ (∀ (A : Nat → List Int32) (F : Nat → Int32) (P : Nat → Nat), am_gr (heap A F P) 117 0 5 = some 128) ∧ (∀ (A : Nat → List Int32) (F : Nat → Int32) (P : Nat → Nat), am_gr (heap A F P) 118 5 0 = some 119) ∧ (∀ (A : Nat → List Int32) (F : Nat → Int32) (P : Nat → Nat), am_gr (heap A F P) 120 5 0 = some 121) ∧ (∀ (A : Nat → List Int32) (F : Nat → Int32) (P : Nat → Nat), am_gr (heap A F P) 122 5 0 = some 123) ∧ (∀ (A : Nat → List Int32) (F : Nat → Int32) (P : Nat → Nat), am_gr (heap A F P) 124 5 0 = some 125) ∧ (∀ (A : Nat → List Int32) (F : Nat → Int32) (P : Nat → Nat), am_gr (heap A F P) 126 5 0 = some 127) ∧ (∀ (A : Nat → List Int32) (F : Nat → Int32) (P : Nat → Nat), am_gr (heap A F P) 128 5 0 = some 129) ∧ (∀ (A : Nat → List Int32) (F : Nat → Int32) (P : Nat → Nat), am_gr (heap A F P) 130 5 0 = some 131) ∧ (∀ (A : Nat → List Int32) (F : Nat → Int32) (P : Nat → Nat), am_gr (heap A F P) 132 7 0 = some 133) ∧ (∀ (A : Nat → List Int32) (F : Nat → Int32) (P : Nat → Nat), am_gr (heap A F P) 132 7 1 = some 138) ∧ (∀ (A : Nat → List Int32) (F : Nat → Int32) (P : Nat → Nat), am_gr (heap A F P) 132 7 2 = some 147) ∧ (∀ (A : Nat → List Int32) (F : Nat → Int32) (P : Nat → Nat), am_gr (heap A F P) 132 7 4 = some 149) ∧ (∀ (A : Nat → List Int32) (F : Nat → Int32) (P : Nat → Nat), am_gr (heap A F P) 132 7 5 = some 162) ∧ (∀ (A : Nat → List Int32) (F : Nat → Int32) (P : Nat → Nat), am_gr (heap A F P) 133 8 0 = some 134) ∧ (∀ (A : Nat → List Int32) (F : Nat → Int32) (P : Nat → Nat), am_gr (heap A F P) 133 8 1 = some 136) ∧ (∀ (A : Nat → List Int32) (F : Nat → Int32) (P : Nat → Nat), am_gr (heap A F P) 134 5 0 = some 135) ∧ (∀ (A : Nat → List Int32) (F : Nat → Int32) (P : Nat → Nat), am_gr (heap A F P) 136 5 0 = some 137) ∧ (∀ (A : Nat → List Int32) (F : Nat → Int32) (P : Nat → Nat), am_gr (heap A F P) 138 3 0 = some 139) ∧ (∀ (A : Nat → List Int32) (F : Nat → Int32) (P : Nat → Nat), am_gr (heap A F P) 138 3 1 = some 141) ∧ (∀ (A : Nat → List Int32) (F : Nat → Int32) (P : Nat → Nat), am_gr (heap A F P) 138 3 2 = some 143) ∧ (∀ (A : Nat → List Int32) (F : Nat → Int32) (P : Nat → Nat), am_gr (heap A F P) 138 3 3 = some 145) ∧ (∀ (A : Nat → List Int32) (F : Nat → Int32) (P : Nat → Nat), am_gr (heap A F P) 139 5 0 = some 140) ∧ (∀ (A : Nat → List Int32) (F : Nat → Int32) (P : Nat → Nat), am_gr (heap A F P) 141 5 0 = some 142) ∧ (∀ (A : Nat → List Int32) (F : Nat → Int32) (P : Nat → Nat), am_gr (heap A F P) 143 5 0 = some 144) ∧ (∀ (A : Nat → List Int32) (F : Nat → Int32) (P : Nat → Nat), am_gr (heap A F P) 145 5 0 = some 146) ∧ (∀ (A : Nat → List Int32) (F : Nat → Int32) (P : Nat → Nat), am_gr (heap A F P) 147 5 0 = some 148) ∧ (∀ (A : Nat → List Int32) (F : Nat → Int32) (P : Nat → Nat), am_gr (heap A F P) 149 0 0 = some 150) ∧ (∀ (A : Nat → List Int32) (F : Nat → Int32) (P : Nat → Nat), am_gr (heap A F P) 149 0 1 = some 152) ∧ (∀ (A : Nat → List Int32) (F : Nat → Int32) (P : Nat → Nat), am_gr (heap A F P) 149 0 2 = some 154) ∧ (∀ (A : Nat → List Int32) (F : Nat → Int32) (P : Nat → Nat), am_gr (heap A F P) 149 0 3 = some 156) ∧ (∀ (A : Nat → List Int32) (F : Nat → Int32) (P : Nat → Nat), am_gr (heap A F P) 149 0 4 = some 158) ∧ (∀ (A : Nat → List Int32) (F : Nat → Int32) (P : Nat → Nat), am_gr (heap A F P) 149 0 5 = some 160) ∧ (∀ (A : Nat → List Int32) (F : Nat → Int32) (P : Nat → Nat), am_gr (heap A F P) 150 5 0 = some 151) ∧ (∀ (A : Nat → List Int32) (F : Nat → Int32) (P : Nat → Nat), am_gr (heap A F P) 152 5 0 = some 153) ∧ (∀ (A : Nat → List Int32) (F : Nat → Int32) (P : Nat → Nat), am_gr (heap A F P) 154 5 0 = some 155) ∧ (∀ (A : Nat → List Int32) (F : Nat → Int32) (P : Nat → Nat), am_gr (heap A F P) 156 5 0 = some 157) ∧ (∀ (A : Nat → List Int32) (F : Nat → Int32) (P : Nat → Nat), am_gr (heap A F P) 158 5 0 = some 159) ∧ (∀ (A : Nat → List Int32) (F : Nat → Int32) (P : Nat → Nat), am_gr (heap A F P) 160 5 0 = some 161) ∧ (∀ (A : Nat → List Int32) (F : Nat → Int32) (P : Nat → Nat), am_gr (heap A F P) 162 5 0 = some 163) ∧ (∀ (A : Nat → List Int32) (F : Nat → Int32) (P : Nat → Nat), am_gr (heap A F P) 164 6 0 = some 2) ∧ (∀ (A : Nat → List Int32) (F : Nat → Int32) (P : Nat → Nat), am_gr (heap A F P) 164 6 1 = some 165) ∧ (∀ (A : Nat → List Int32) (F : Nat → Int32) (P : Nat → Nat), am_gr (heap A F P) 164 6 2 = some 167) ∧ (∀ (A : Nat → List Int32) (F : Nat → Int32) (P : Nat → Nat), am_gr (heap A F P) 164 6 3 = some 169) ∧ (∀ (A : Nat → List Int32) (F : Nat → Int32) (P : Nat → Nat), am_gr (heap A F P) 164 6 4 = some 171) ∧ (∀ (A : Nat → List Int32) (F : Nat → Int32) (P : Nat → Nat), am_gr (heap A F P) 164 6 5 = some 173) ∧ (∀ (A : Nat → List Int32) (F : Nat → Int32) (P : Nat → Nat), am_gr (heap A F P) 164 6 6 = some 175) ∧ (∀ (A : Nat → List Int32) (F : Nat → Int32) (P : Nat → Nat), am_gr (heap A F P) 164 6 7 = some 177) ∧ (∀ (A : Nat → List Int32) (F : Nat → Int32) (P : Nat → Nat), am_gr (heap A F P) 164 6 8 = some 179) ∧ (∀ (A : Nat → List Int32) (F : Nat → Int32) (P : Nat → Nat), am_gr (heap A F P) 164 6 9 = some 181) ∧ (∀ (A : Nat → List Int32) (F : Nat → Int32) (P : Nat → Nat), am_gr (heap A F P) 165 5 0 = some 166) ∧ (∀ (A : Nat → List Int32) (F : Nat → Int32) (P : Nat → Nat), am_gr (heap A F P) 167 5 0 = some 168) ∧ (∀ (A : Nat → List Int32) (F : Nat → Int32) (P : Nat → Nat), am_gr (heap A F P) 169 5 0 = some 170) ∧ (∀ (A : Nat → List Int32) (F : Nat → Int32) (P : Nat → Nat), am_gr (heap A F P) 171 5 0 = some 172) ∧ (∀ (A : Nat → List Int32) (F : Nat → Int32) (P : Nat → Nat), am_gr (heap A F P) 173 5 0 = some 174) ∧ (∀ (A : Nat → List Int32) (F : Nat → Int32) (P : Nat → Nat), am_gr (heap A F P) 175 5 0 = some 176) ∧ (∀ (A : Nat → List Int32) (F : Nat → Int32) (P : Nat → Nat), am_gr (heap A F P) 177 5 0 = some 178) ∧ (∀ (A : Nat → List Int32) (F : Nat → Int32) (P : Nat → Nat), am_gr (heap A F P) 179 5 0 = some 180) ∧ (∀ (A : Nat → List Int32) (F : Nat → Int32) (P : Nat → Nat), am_gr (heap A F P) 181 5 0 = some 182) ∧ (∀ (A : Nat → List Int32) (F : Nat → Int32) (P : Nat → Nat), am_gr (heap A F P) 183 4 0 = some 2) ∧ (∀ (A : Nat → List Int32) (F : Nat → Int32) (P : Nat → Nat), am_gr (heap A F P) 183 4 1 = some 164) ∧ (∀ (A : Nat → List Int32) (F : Nat → Int32) (P : Nat → Nat), am_gr (heap A F P) 184 2 0 = some 185) ∧ (∀ (A : Nat → List Int32) (F : Nat → Int32) (P : Nat → Nat), am_gr (heap A F P) 184 2 2 = some 186) ∧ (∀ (A : Nat → List Int32) (F : Nat → Int32) (P : Nat → Nat), am_gr (heap A F P) 184 2 3 = some 188) ∧ (∀ (A : Nat → List Int32) (F : Nat → Int32) (P : Nat → Nat), am_gr (heap A F P) 184 2 4 = some 190) ∧ (∀ (A : Nat → List Int32) (F : Nat → Int32) (P : Nat → Nat), am_gr (heap A F P) 186 5 0 = some 187) ∧ (∀ (A : Nat → List Int32) (F : Nat → Int32) (P : Nat → Nat), am_gr (heap A F P) 188 5 0 = some 189) ∧ (∀ (A : Nat → List Int32) (F : Nat → Int32) (P : Nat → Nat), am_gr (heap A F P) 190 5 0 = some 191) ∧ (∀ (A : Nat → List Int32) (F : Nat → Int32) (P : Nat → Nat), am_gr (heap A F P) 192 10 0 = some 193) ∧ (∀ (A : Nat → List Int32) (F : Nat → Int32) (P : Nat → Nat), am_gr (heap A F P) 192 10 1 = some 194) ∧ (∀ (A : Nat → List Int32) (F : Nat → Int32) (P : Nat → Nat), am_gr (heap A F P) 192 10 4 = some 195) ∧ (∀ (A : Nat → List Int32) (F : Nat → Int32) (P : Nat → Nat), am_gr (heap A F P) 192 10 8 = some 196) ∧ (∀ (A : Nat → List Int32) (F : Nat → Int32) (P : Nat → Nat), am_gr (heap A F P) 192 10 9 = some 197) ∧ (∀ (A : Nat → List Int32) (F : Nat → Int32) (P : Nat → Nat), am_gr (heap A F P) 192 10 10 = some 198) ∧ (∀ (A : Nat → List Int32) (F : Nat → Int32) (P : Nat → Nat), am_gr (heap A F P) 192 10 11 = some 199) ∧ (∀ (A : Nat → List Int32) (F : Nat → Int32) (P : Nat → Nat), am_gr (heap A F P) 192 10 12 = some 200) ∧ (∀ (A : Nat → List Int32) (F : Nat → Int32) (P : Nat → Nat), am_gr (heap A F P) 192 10 13 = some 201) ∧ (∀ (A : Nat → List Int32) (F : Nat → Int32) (P : Nat → Nat), am_gr (heap A F P) 192 10 14 = some 202) ∧ (∀ (A : Nat → List Int32) (F : Nat → Int32) (P : Nat → Nat), am_gr (heap A F P) 192 10 15 = some 203) ∧ (∀ (A : Nat → List Int32) (F : Nat → Int32) (P : Nat → Nat), am_gr (heap A F P) 192 10 16 = some 204) ∧ (∀ (A : Nat → List Int32) (F : Nat → Int32) (P : Nat → Nat), am_gr (heap A F P) 192 10 17 = some 205) := ⟨hpR_0, hpR_1, hpR_2, hpR_3, hpR_4, hpR_5, hpR_6, hpR_7, hpR_8, hpR_9, hpR_10, hpR_11, hpR_12, hpR_13, hpR_14, hpR_15, hpR_16, hpR_17, hpR_18, hpR_19, hpR_20, hpR_21, hpR_22, hpR_23, hpR_24, hpR_25, hpR_26, hpR_27, hpR_28, hpR_29, hpR_30, hpR_31, hpR_32, hpR_33, hpR_34, hpR_35, hpR_36, hpR_37, hpR_38, hpR_39, hpR_40, hpR_41, hpR_42, hpR_43, hpR_44, hpR_45, hpR_46, hpR_47, hpR_48, hpR_49, hpR_50, hpR_51, hpR_52, hpR_53, hpR_54, hpR_55, hpR_56, hpR_57, hpR_58, hpR_59, hpR_60, hpR_61, hpR_62, hpR_63, hpR_64, hpR_65, hpR_66, hpR_67, hpR_68, hpR_69, hpR_70, hpR_71, hpR_72, hpR_73, hpR_74, hpR_75, hpR_76, hpR_77, hpR_78, hpR_79, hpR_80, hpR_81, hpR_82, hpR_83, hpR_84, hpR_85, hpR_86, hpR_87, hpR_88, hpR_89, hpR_90, hpR_91, hpR_92, hpR_93, hpR_94, hpR_95, hpR_96, hpR_97, hpR_98, hpR_99, hpR_100, hpR_101, hpR_102, hpR_103, hpR_104, hpR_105, hpR_106, hpR_107, hpR_108, hpR_109, hpR_110, hpR_111, hpR_112, hpR_113, hpR_114, hpR_115, hpR_116, hpR_117, hpR_118, hpR_119, hpR_120, hpR_121, hpR_122, hpR_123, hpR_124, hpR_125, hpR_126, hpR_127, hpR_128, hpR_129, hpR_130, hpR_131, hpR_132, hpR_133, hpR_134, hpR_135, hpR_136, hpR_137, hpR_138, hpR_139, hpR_140, hpR_141, hpR_142, hpR_143, hpR_144, hpR_145, hpR_146, hpR_147, hpR_148, hpR_149, hpR_150, hpR_151, hpR_152, hpR_153, hpR_154, hpR_155, hpR_156, hpR_157, hpR_158, hpR_159, hpR_160, hpR_161, hpR_162, hpR_163, hpR_164, hpR_165, hpR_166, hpR_167, hpR_168, hpR_169, hpR_170, hpR_171, hpR_172, hpR_173, hpR_174, hpR_175, hpR_176, hpR_177, hpR_178, hpR_179, hpR_180, hpR_181, hpR_182, hpR_183, hpR_184, hpR_185, hpR_186, hpR_187, hpR_188, hpR_189, hpR_190, hpR_191, hpR_192, hpR_193, hpR_194, hpR_195, hpR_196, hpR_197, hpR_198, hpR_199, hpR_200, hpR_201⟩
set_option maxRecDepth 100000 in
theorem hpI_0 (A : Nat → List Int32) (F : Nat → Int32) (P : Nat → Nat) : am_gi (heap A F P) 2 7 3 = some (F 203) := rfl
set_option maxRecDepth 100000 in
theorem hpI_1 (A : Nat → List Int32) (F : Nat → Int32) (P : Nat → Nat) : am_gi (heap A F P) 3 8 2 = some (F 302) := rfl
set_option maxRecDepth 100000 in
theorem hpI_2 (A : Nat → List Int32) (F : Nat → Int32) (P : Nat → Nat) : am_gi (heap A F P) 8 3 4 = some (F 804) := rfl
set_option maxRecDepth 100000 in
theorem hpI_3 (A : Nat → List Int32) (F : Nat → Int32) (P : Nat → Nat) : am_gi (heap A F P) 19 0 6 = some (F 1906) := rfl
set_option maxRecDepth 100000 in
theorem hpI_4 (A : Nat → List Int32) (F : Nat → Int32) (P : Nat → Nat) : am_gi (heap A F P) 34 1 1 = some (F 3401) := rfl
set_option maxRecDepth 100000 in
theorem hpI_5 (A : Nat → List Int32) (F : Nat → Int32) (P : Nat → Nat) : am_gi (heap A F P) 36 7 3 = some (F 3603) := rfl
set_option maxRecDepth 100000 in
theorem hpI_6 (A : Nat → List Int32) (F : Nat → Int32) (P : Nat → Nat) : am_gi (heap A F P) 37 8 2 = some (F 3702) := rfl
set_option maxRecDepth 100000 in
theorem hpI_7 (A : Nat → List Int32) (F : Nat → Int32) (P : Nat → Nat) : am_gi (heap A F P) 42 3 4 = some (F 4204) := rfl
set_option maxRecDepth 100000 in
theorem hpI_8 (A : Nat → List Int32) (F : Nat → Int32) (P : Nat → Nat) : am_gi (heap A F P) 53 0 6 = some (F 5306) := rfl
set_option maxRecDepth 100000 in
theorem hpI_9 (A : Nat → List Int32) (F : Nat → Int32) (P : Nat → Nat) : am_gi (heap A F P) 68 7 3 = some (F 6803) := rfl
set_option maxRecDepth 100000 in
theorem hpI_10 (A : Nat → List Int32) (F : Nat → Int32) (P : Nat → Nat) : am_gi (heap A F P) 69 8 2 = some (F 6902) := rfl
set_option maxRecDepth 100000 in
theorem hpI_11 (A : Nat → List Int32) (F : Nat → Int32) (P : Nat → Nat) : am_gi (heap A F P) 74 3 4 = some (F 7404) := rfl
set_option maxRecDepth 100000 in
theorem hpI_12 (A : Nat → List Int32) (F : Nat → Int32) (P : Nat → Nat) : am_gi (heap A F P) 85 0 6 = some (F 8506) := rfl
set_option maxRecDepth 100000 in
theorem hpI_13 (A : Nat → List Int32) (F : Nat → Int32) (P : Nat → Nat) : am_gi (heap A F P) 100 7 3 = some (F 10003) := rfl
set_option maxRecDepth 100000 in
theorem hpI_14 (A : Nat → List Int32) (F : Nat → Int32) (P : Nat → Nat) : am_gi (heap A F P) 101 8 2 = some (F 10102) := rfl
set_option maxRecDepth 100000 in
theorem hpI_15 (A : Nat → List Int32) (F : Nat → Int32) (P : Nat → Nat) : am_gi (heap A F P) 106 3 4 = some (F 10604) := rfl
set_option maxRecDepth 100000 in
theorem hpI_16 (A : Nat → List Int32) (F : Nat → Int32) (P : Nat → Nat) : am_gi (heap A F P) 117 0 6 = some (F 11706) := rfl
set_option maxRecDepth 100000 in
theorem hpI_17 (A : Nat → List Int32) (F : Nat → Int32) (P : Nat → Nat) : am_gi (heap A F P) 132 7 3 = some (F 13203) := rfl
set_option maxRecDepth 100000 in
theorem hpI_18 (A : Nat → List Int32) (F : Nat → Int32) (P : Nat → Nat) : am_gi (heap A F P) 133 8 2 = some (F 13302) := rfl
set_option maxRecDepth 100000 in
theorem hpI_19 (A : Nat → List Int32) (F : Nat → Int32) (P : Nat → Nat) : am_gi (heap A F P) 138 3 4 = some (F 13804) := rfl
set_option maxRecDepth 100000 in
theorem hpI_20 (A : Nat → List Int32) (F : Nat → Int32) (P : Nat → Nat) : am_gi (heap A F P) 149 0 6 = some (F 14906) := rfl
set_option maxRecDepth 100000 in
theorem hpI_21 (A : Nat → List Int32) (F : Nat → Int32) (P : Nat → Nat) : am_gi (heap A F P) 164 6 10 = some (F 16410) := rfl
set_option maxRecDepth 100000 in
theorem hpI_22 (A : Nat → List Int32) (F : Nat → Int32) (P : Nat → Nat) : am_gi (heap A F P) 184 2 1 = some (F 18401) := rfl
set_option maxRecDepth 100000 in
theorem hpI_23 (A : Nat → List Int32) (F : Nat → Int32) (P : Nat → Nat) : am_gi (heap A F P) 184 2 5 = some (F 18405) := rfl
set_option maxRecDepth 100000 in
theorem hpI_24 (A : Nat → List Int32) (F : Nat → Int32) (P : Nat → Nat) : am_gi (heap A F P) 184 2 6 = some (F 18406) := rfl
set_option maxRecDepth 100000 in
theorem hpI_25 (A : Nat → List Int32) (F : Nat → Int32) (P : Nat → Nat) : am_gi (heap A F P) 184 2 7 = some (F 18407) := rfl
set_option maxRecDepth 100000 in
theorem hpI_26 (A : Nat → List Int32) (F : Nat → Int32) (P : Nat → Nat) : am_gi (heap A F P) 184 2 8 = some (F 18408) := rfl
set_option maxRecDepth 100000 in
theorem hpI_27 (A : Nat → List Int32) (F : Nat → Int32) (P : Nat → Nat) : am_gi (heap A F P) 184 2 9 = some (F 18409) := rfl
set_option maxRecDepth 100000 in
theorem hpI_28 (A : Nat → List Int32) (F : Nat → Int32) (P : Nat → Nat) : am_gi (heap A F P) 192 10 2 = some (F 19202) := rfl
set_option maxRecDepth 100000 in
theorem hpI_29 (A : Nat → List Int32) (F : Nat → Int32) (P : Nat → Nat) : am_gi (heap A F P) 192 10 3 = some (F 19203) := rfl
set_option maxRecDepth 100000 in
theorem hpI_30 (A : Nat → List Int32) (F : Nat → Int32) (P : Nat → Nat) : am_gi (heap A F P) 192 10 5 = some (F 19205) := rfl
set_option maxRecDepth 100000 in
theorem hpI_31 (A : Nat → List Int32) (F : Nat → Int32) (P : Nat → Nat) : am_gi (heap A F P) 192 10 6 = some (F 19206) := rfl
set_option maxRecDepth 100000 in
theorem hpI_32 (A : Nat → List Int32) (F : Nat → Int32) (P : Nat → Nat) : am_gi (heap A F P) 192 10 7 = some (F 19207) := rfl
theorem hpI : (∀ (A : Nat → List Int32) (F : Nat → Int32) (P : Nat → Nat), am_gi (heap A F P) 2 7 3 = some (F 203)) ∧ (∀ (A : Nat → List Int32) (F : Nat → Int32) (P : Nat → Nat), am_gi (heap A F P) 3 8 2 = some (F 302)) ∧ (∀ (A : Nat → List Int32) (F : Nat → Int32) (P : Nat → Nat), am_gi (heap A F P) 8 3 4 = some (F 804)) ∧ (∀ (A : Nat → List Int32) (F : Nat → Int32) (P : Nat → Nat), am_gi (heap A F P) 19 0 6 = some (F 1906)) ∧ (∀ (A : Nat → List Int32) (F : Nat → Int32) (P : Nat → Nat), am_gi (heap A F P) 34 1 1 = some (F 3401)) ∧ (∀ (A : Nat → List Int32) (F : Nat → Int32) (P : Nat → Nat), am_gi (heap A F P) 36 7 3 = some (F 3603)) ∧ (∀ (A : Nat → List Int32) (F : Nat → Int32) (P : Nat → Nat), am_gi (heap A F P) 37 8 2 = some (F 3702)) ∧ (∀ (A : Nat → List Int32) (F : Nat → Int32) (P : Nat → Nat), am_gi (heap A F P) 42 3 4 = some (F 4204)) ∧ (∀ (A : Nat → List Int32) (F : Nat → Int32) (P : Nat → Nat), am_gi (heap A F P) 53 0 6 = some (F 5306)) ∧ (∀ (A : Nat → List Int32) (F : Nat → Int32) (P : Nat → Nat), am_gi (heap A F P) 68 7 3 = some (F 6803)) ∧ (∀ (A : Nat → List Int32) (F : Nat → Int32) (P : Nat → Nat), am_gi (heap A F P) 69 8 2 = some (F 6902)) ∧ (∀ (A : Nat → List Int32) (F : Nat → Int32) (P : Nat → Nat), am_gi (heap A F P) 74 3 4 = some (F 7404)) ∧ (∀ (A : Nat → List Int32) (F : Nat → Int32) (P : Nat → Nat), am_gi (heap A F P) 85 0 6 = some (F 8506)) ∧ (∀ (A : Nat → List Int32) (F : Nat → Int32) (P : Nat → Nat), am_gi (heap A F P) 100 7 3 = some (F 10003)) ∧ (∀ (A : Nat → List Int32) (F : Nat → Int32) (P : Nat → Nat), am_gi (heap A F P) 101 8 2 = some (F 10102)) ∧ (∀ (A : Nat → List Int32) (F : Nat → Int32) (P : Nat → Nat), am_gi (heap A F P) 106 3 4 = some (F 10604)) ∧ (∀ (A : Nat → List Int32) (F : Nat → Int32) (P : Nat → Nat), am_gi (heap A F P) 117 0 6 = some (F 11706)) ∧ (∀ (A : Nat → List Int32) (F : Nat → Int32) (P : Nat → Nat), am_gi (heap A F P) 132 7 3 = some (F 13203)) ∧ (∀ (A : Nat → List Int32) (F : Nat → Int32) (P : Nat → Nat), am_gi (heap A F P) 133 8 2 = some (F 13302)) ∧ (∀ (A : Nat → List Int32) (F : Nat → Int32) (P : Nat → Nat), am_gi (heap A F P) 138 3 4 = some (F 13804)) ∧ (∀ (A : Nat → List Int32) (F : Nat → Int32) (P : Nat → Nat), am_gi (heap A F P) 149 0 6 = some (F 14906)) ∧ (∀ (A : Nat → List Int32) (F : Nat → Int32) (P : Nat → Nat), am_gi (heap A F P) 164 6 10 = some (F 16410)) ∧ (∀ (A : Nat → List Int32) (F : Nat → Int32) (P : Nat → Nat), am_gi (heap A F P) 184 2 1 = some (F 18401)) ∧ (∀ (A : Nat → List Int32) (F : Nat → Int32) (P : Nat → Nat), am_gi (heap A F P) 184 2 5 = some (F 18405)) ∧ (∀ (A : Nat → List Int32) (F : Nat → Int32) (P : Nat → Nat), am_gi (heap A F P) 184 2 6 = some (F 18406)) ∧ (∀ (A : Nat → List Int32) (F : Nat → Int32) (P : Nat → Nat), am_gi (heap A F P) 184 2 7 = some (F 18407)) ∧ (∀ (A : Nat → List Int32) (F : Nat → Int32) (P : Nat → Nat), am_gi (heap A F P) 184 2 8 = some (F 18408)) ∧ (∀ (A : Nat → List Int32) (F : Nat → Int32) (P : Nat → Nat), am_gi (heap A F P) 184 2 9 = some (F 18409)) ∧ (∀ (A : Nat → List Int32) (F : Nat → Int32) (P : Nat → Nat), am_gi (heap A F P) 192 10 2 = some (F 19202)) ∧ (∀ (A : Nat → List Int32) (F : Nat → Int32) (P : Nat → Nat), am_gi (heap A F P) 192 10 3 = some (F 19203)) ∧ (∀ (A : Nat → List Int32) (F : Nat → Int32) (P : Nat → Nat), am_gi (heap A F P) 192 10 5 = some (F 19205)) ∧ (∀ (A : Nat → List Int32) (F : Nat → Int32) (P : Nat → Nat), am_gi (heap A F P) 192 10 6 = some (F 19206)) ∧ (∀ (A : Nat → List Int32) (F : Nat → Int32) (P : Nat → Nat), am_gi (heap A F P) 192 10 7 = some (F 19207)) := ⟨hpI_0, hpI_1, hpI_2, hpI_3, hpI_4, hpI_5, hpI_6, hpI_7, hpI_8, hpI_9, hpI_10, hpI_11, hpI_12, hpI_13, hpI_14, hpI_15, hpI_16, hpI_17, hpI_18, hpI_19, hpI_20, hpI_21, hpI_22, hpI_23, hpI_24, hpI_25, hpI_26, hpI_27, hpI_28, hpI_29, hpI_30, hpI_31, hpI_32⟩
set_option maxRecDepth 100000 in
theorem hpN_0 (A : Nat → List Int32) (F : Nat → Int32) (P : Nat → Nat) : am_len (heap A F P) 5 = some (Int32.ofNat (A 5).length) := rfl
set_option maxRecDepth 100000 in
theorem hpN_1 (A : Nat → List Int32) (F : Nat → Int32) (P : Nat → Nat) : am_len (heap A F P) 7 = some (Int32.ofNat (A 7).length) := rfl
set_option maxRecDepth 100000 in
theorem hpN_2 (A : Nat → List Int32) (F : Nat → Int32) (P : Nat → Nat) : am_len (heap A F P) 10 = some (Int32.ofNat (A 10).length) := rfl
set_option maxRecDepth 100000 in
theorem hpN_3 (A : Nat → List Int32) (F : Nat → Int32) (P : Nat → Nat) : am_len (heap A F P) 12 = some (Int32.ofNat (A 12).length) := rfl
set_option maxRecDepth 100000 in
theorem hpN_4 (A : Nat → List Int32) (F : Nat → Int32) (P : Nat → Nat) : am_len (heap A F P) 14 = some (Int32.ofNat (A 14).length) := rfl
set_option maxRecDepth 100000 in
theorem hpN_5 (A : Nat → List Int32) (F : Nat → Int32) (P : Nat → Nat) : am_len (heap A F P) 16 = some (Int32.ofNat (A 16).length) := rfl
set_option maxRecDepth 100000 in
theorem hpN_6 (A : Nat → List Int32) (F : Nat → Int32) (P : Nat → Nat) : am_len (heap A F P) 18 = some (Int32.ofNat (A 18).length) := rfl
set_option maxRecDepth 100000 in
theorem hpN_7 (A : Nat → List Int32) (F : Nat → Int32) (P : Nat → Nat) : am_len (heap A F P) 21 = some (Int32.ofNat (A 21).length) := rfl
set_option maxRecDepth 100000 in
theorem hpN_8 (A : Nat → List Int32) (F : Nat → Int32) (P : Nat → Nat) : am_len (heap A F P) 23 = some (Int32.ofNat (A 23).length) := rfl
set_option maxRecDepth 100000 in
theorem hpN_9 (A : Nat → List Int32) (F : Nat → Int32) (P : Nat → Nat) : am_len (heap A F P) 25 = some (Int32.ofNat (A 25).length) := rfl
set_option maxRecDepth 100000 in
theorem hpN_10 (A : Nat → List Int32) (F : Nat → Int32) (P : Nat → Nat) : am_len (heap A F P) 27 = some (Int32.ofNat (A 27).length) := rfl
set_option maxRecDepth 100000 in
theorem hpN_11 (A : Nat → List Int32) (F : Nat → Int32) (P : Nat → Nat) : am_len (heap A F P) 29 = some (Int32.ofNat (A 29).length) := rfl
set_option maxRecDepth 100000 in
theorem hpN_12 (A : Nat → List Int32) (F : Nat → Int32) (P : Nat → Nat) : am_len (heap A F P) 31 = some (Int32.ofNat (A 31).length) := rfl
set_option maxRecDepth 100000 in
theorem hpN_13 (A : Nat → List Int32) (F : Nat → Int32) (P : Nat → Nat) : am_len (heap A F P) 33 = some (Int32.ofNat (A 33).length) := rfl
set_option maxRecDepth 100000 in
theorem hpN_14 (A : Nat → List Int32) (F : Nat → Int32) (P : Nat → Nat) : am_len (heap A F P) 39 = some (Int32.ofNat (A 39).length) := rfl
set_option maxRecDepth 100000 in
theorem hpN_15 (A : Nat → List Int32) (F : Nat → Int32) (P : Nat → Nat) : am_len (heap A F P) 41 = some (Int32.ofNat (A 41).length) := rfl
set_option maxRecDepth 100000 in
theorem hpN_16 (A : Nat → List Int32) (F : Nat → Int32) (P : Nat → Nat) : am_len (heap A F P) 44 = some (Int32.ofNat (A 44).length) := rfl
set_option maxRecDepth 100000 in
theorem hpN_17 (A : Nat → List Int32) (F : Nat → Int32) (P : Nat → Nat) : am_len (heap A F P) 46 = some (Int32.ofNat (A 46).length) := rfl
set_option maxRecDepth 100000 in
theorem hpN_18 (A : Nat → List Int32) (F : Nat → Int32) (P : Nat → Nat) : am_len (heap A F P) 48 = some (Int32.ofNat (A 48).length) := rfl
set_option maxRecDepth 100000 in
theorem hpN_19 (A : Nat → List Int32) (F : Nat → Int32) (P : Nat → Nat) : am_len (heap A F P) 50 = some (Int32.ofNat (A 50).length) := rfl
set_option maxRecDepth 100000 in
theorem hpN_20 (A : Nat → List Int32) (F : Nat → Int32) (P : Nat → Nat) : am_len (heap A F P) 52 = some (Int32.ofNat (A 52).length) := rfl
set_option maxRecDepth 100000 in
theorem hpN_21 (A : Nat → List Int32) (F : Nat → Int32) (P : Nat → Nat) : am_len (heap A F P) 55 = some (Int32.ofNat (A 55).length) := rfl
set_option maxRecDepth 100000 in
theorem hpN_22 (A : Nat → List Int32) (F : Nat → Int32) (P : Nat → Nat) : am_len (heap A F P) 57 = some (Int32.ofNat (A 57).length) := rfl
set_option maxRecDepth 100000 in
theorem hpN_23 (A : Nat → List Int32) (F : Nat → Int32) (P : Nat → Nat) : am_len (heap A F P) 59 = some (Int32.ofNat (A 59).length) := rfl
set_option maxRecDepth 100000 in
theorem hpN_24 (A : Nat → List Int32) (F : Nat → Int32) (P : Nat → Nat) : am_len (heap A F P) 61 = some (Int32.ofNat (A 61).length) := rfl
set_option maxRecDepth 100000 in
theorem hpN_25 (A : Nat → List Int32) (F : Nat → Int32) (P : Nat → Nat) : am_len (heap A F P) 63 = some (Int32.ofNat (A 63).length) := rfl
set_option maxRecDepth 100000 in
theorem hpN_26 (A : Nat → List Int32) (F : Nat → Int32) (P : Nat → Nat) : am_len (heap A F P) 65 = some (Int32.ofNat (A 65).length) := rfl
set_option maxRecDepth 100000 in
theorem hpN_27 (A : Nat → List Int32) (F : Nat → Int32) (P : Nat → Nat) : am_len (heap A F P) 67 = some (Int32.ofNat (A 67).length) := rfl
set_option maxRecDepth 100000 in
theorem hpN_28 (A : Nat → List Int32) (F : Nat → Int32) (P : Nat → Nat) : am_len (heap A F P) 71 = some (Int32.ofNat (A 71).length) := rfl
set_option maxRecDepth 100000 in
theorem hpN_29 (A : Nat → List Int32) (F : Nat → Int32) (P : Nat → Nat) : am_len (heap A F P) 73 = some (Int32.ofNat (A 73).length) := rfl
set_option maxRecDepth 100000 in
theorem hpN_30 (A : Nat → List Int32) (F : Nat → Int32) (P : Nat → Nat) : am_len (heap A F P) 76 = some (Int32.ofNat (A 76).length) := rfl
set_option maxRecDepth 100000 in
theorem hpN_31 (A : Nat → List Int32) (F : Nat → Int32) (P : Nat → Nat) : am_len (heap A F P) 78 = some (Int32.ofNat (A 78).length) := rfl
set_option maxRecDepth 100000 in
theorem hpN_32 (A : Nat → List Int32) (F : Nat → Int32) (P : Nat → Nat) : am_len (heap A F P) 80 = some (Int32.ofNat (A 80).length) := rfl
set_option maxRecDepth 100000 in
theorem hpN_33 (A : Nat → List Int32) (F : Nat → Int32) (P : Nat → Nat) : am_len (heap A F P) 82 = some (Int32.ofNat (A 82).length) := rfl
set_option maxRecDepth 100000 in
theorem hpN_34 (A : Nat → List Int32) (F : Nat → Int32) (P : Nat → Nat) : am_len (heap A F P) 84 = some (Int32.ofNat (A 84).length) := rfl
set_option maxRecDepth 100000 in
theorem hpN_35 (A : Nat → List Int32) (F : Nat → Int32) (P : Nat → Nat) : am_len (heap A F P) 87 = some (Int32.ofNat (A 87).length) := rfl
set_option maxRecDepth 100000 in
theorem hpN_36 (A : Nat → List Int32) (F : Nat → Int32) (P : Nat → Nat) : am_len (heap A F P) 89 = some (Int32.ofNat (A 89).length) := rfl
set_option maxRecDepth 100000 in
theorem hpN_37 (A : Nat → List Int32) (F : Nat → Int32) (P : Nat → Nat) : am_len (heap A F P) 91 = some (Int32.ofNat (A 91).length) := rfl
set_option maxRecDepth 100000 in
theorem hpN_38 (A : Nat → List Int32) (F : Nat → Int32) (P : Nat → Nat) : am_len (heap A F P) 93 = some (Int32.ofNat (A 93).length) := rfl
set_option maxRecDepth 100000 in
theorem hpN_39 (A : Nat → List Int32) (F : Nat → Int32) (P : Nat → Nat) : am_len (heap A F P) 95 = some (Int32.ofNat (A 95).length) := rfl
set_option maxRecDepth 100000 in
theorem hpN_40 (A : Nat → List Int32) (F : Nat → Int32) (P : Nat → Nat) : am_len (heap A F P) 97 = some (Int32.ofNat (A 97).length) := rfl
set_option maxRecDepth 100000 in
theorem hpN_41 (A : Nat → List Int32) (F : Nat → Int32) (P : Nat → Nat) : am_len (heap A F P) 99 = some (Int32.ofNat (A 99).length) := rfl
set_option maxRecDepth 100000 in
theorem hpN_42 (A : Nat → List Int32) (F : Nat → Int32) (P : Nat → Nat) : am_len (heap A F P) 103 = some (Int32.ofNat (A 103).length) := rfl
set_option maxRecDepth 100000 in
theorem hpN_43 (A : Nat → List Int32) (F : Nat → Int32) (P : Nat → Nat) : am_len (heap A F P) 105 = some (Int32.ofNat (A 105).length) := rfl
set_option maxRecDepth 100000 in
theorem hpN_44 (A : Nat → List Int32) (F : Nat → Int32) (P : Nat → Nat) : am_len (heap A F P) 108 = some (Int32.ofNat (A 108).length) := rfl
set_option maxRecDepth 100000 in
theorem hpN_45 (A : Nat → List Int32) (F : Nat → Int32) (P : Nat → Nat) : am_len (heap A F P) 110 = some (Int32.ofNat (A 110).length) := rfl
set_option maxRecDepth 100000 in
theorem hpN_46 (A : Nat → List Int32) (F : Nat → Int32) (P : Nat → Nat) : am_len (heap A F P) 112 = some (Int32.ofNat (A 112).length) := rfl
set_option maxRecDepth 100000 in
theorem hpN_47 (A : Nat → List Int32) (F : Nat → Int32) (P : Nat → Nat) : am_len (heap A F P) 114 = some (Int32.ofNat (A 114).length) := rfl
set_option maxRecDepth 100000 in
theorem hpN_48 (A : Nat → List Int32) (F : Nat → Int32) (P : Nat → Nat) : am_len (heap A F P) 116 = some (Int32.ofNat (A 116).length) := rfl
set_option maxRecDepth 100000 in
theorem hpN_49 (A : Nat → List Int32) (F : Nat → Int32) (P : Nat → Nat) : am_len (heap A F P) 119 = some (Int32.ofNat (A 119).length) := rfl
set_option maxRecDepth 100000 in
theorem hpN_50 (A : Nat → List Int32) (F : Nat → Int32) (P : Nat → Nat) : am_len (heap A F P) 121 = some (Int32.ofNat (A 121).length) := rfl
set_option maxRecDepth 100000 in
theorem hpN_51 (A : Nat → List Int32) (F : Nat → Int32) (P : Nat → Nat) : am_len (heap A F P) 123 = some (Int32.ofNat (A 123).length) := rfl
set_option maxRecDepth 100000 in
theorem hpN_52 (A : Nat → List Int32) (F : Nat → Int32) (P : Nat → Nat) : am_len (heap A F P) 125 = some (Int32.ofNat (A 125).length) := rfl
set_option maxRecDepth 100000 in
theorem hpN_53 (A : Nat → List Int32) (F : Nat → Int32) (P : Nat → Nat) : am_len (heap A F P) 127 = some (Int32.ofNat (A 127).length) := rfl
set_option maxRecDepth 100000 in
theorem hpN_54 (A : Nat → List Int32) (F : Nat → Int32) (P : Nat → Nat) : am_len (heap A F P) 129 = some (Int32.ofNat (A 129).length) := rfl
set_option maxRecDepth 100000 in
theorem hpN_55 (A : Nat → List Int32) (F : Nat → Int32) (P : Nat → Nat) : am_len (heap A F P) 131 = some (Int32.ofNat (A 131).length) := rfl
set_option maxRecDepth 100000 in
theorem hpN_56 (A : Nat → List Int32) (F : Nat → Int32) (P : Nat → Nat) : am_len (heap A F P) 135 = some (Int32.ofNat (A 135).length) := rfl
set_option maxRecDepth 100000 in
theorem hpN_57 (A : Nat → List Int32) (F : Nat → Int32) (P : Nat → Nat) : am_len (heap A F P) 137 = some (Int32.ofNat (A 137).length) := rfl
set_option maxRecDepth 100000 in
theorem hpN_58 (A : Nat → List Int32) (F : Nat → Int32) (P : Nat → Nat) : am_len (heap A F P) 140 = some (Int32.ofNat (A 140).length) := rfl
set_option maxRecDepth 100000 in
theorem hpN_59 (A : Nat → List Int32) (F : Nat → Int32) (P : Nat → Nat) : am_len (heap A F P) 142 = some (Int32.ofNat (A 142).length) := rfl
set_option maxRecDepth 100000 in
theorem hpN_60 (A : Nat → List Int32) (F : Nat → Int32) (P : Nat → Nat) : am_len (heap A F P) 144 = some (Int32.ofNat (A 144).length) := rfl
set_option maxRecDepth 100000 in
theorem hpN_61 (A : Nat → List Int32) (F : Nat → Int32) (P : Nat → Nat) : am_len (heap A F P) 146 = some (Int32.ofNat (A 146).length) := rfl
set_option maxRecDepth 100000 in
theorem hpN_62 (A : Nat → List Int32) (F : Nat → Int32) (P : Nat → Nat) : am_len (heap A F P) 148 = some (Int32.ofNat (A 148).length) := rfl
set_option maxRecDepth 100000 in
theorem hpN_63 (A : Nat → List Int32) (F : Nat → Int32) (P : Nat → Nat) : am_len (heap A F P) 151 = some (Int32.ofNat (A 151).length) := rfl
set_option maxRecDepth 100000 in
theorem hpN_64 (A : Nat → List Int32) (F : Nat → Int32) (P : Nat → Nat) : am_len (heap A F P) 153 = some (Int32.ofNat (A 153).length) := rfl
set_option maxRecDepth 100000 in
theorem hpN_65 (A : Nat → List Int32) (F : Nat → Int32) (P : Nat → Nat) : am_len (heap A F P) 155 = some (Int32.ofNat (A 155).length) := rfl
set_option maxRecDepth 100000 in
theorem hpN_66 (A : Nat → List Int32) (F : Nat → Int32) (P : Nat → Nat) : am_len (heap A F P) 157 = some (Int32.ofNat (A 157).length) := rfl
set_option maxRecDepth 100000 in
theorem hpN_67 (A : Nat → List Int32) (F : Nat → Int32) (P : Nat → Nat) : am_len (heap A F P) 159 = some (Int32.ofNat (A 159).length) := rfl
set_option maxRecDepth 100000 in
theorem hpN_68 (A : Nat → List Int32) (F : Nat → Int32) (P : Nat → Nat) : am_len (heap A F P) 161 = some (Int32.ofNat (A 161).length) := rfl
set_option maxRecDepth 100000 in
theorem hpN_69 (A : Nat → List Int32) (F : Nat → Int32) (P : Nat → Nat) : am_len (heap A F P) 163 = some (Int32.ofNat (A 163).length) := rfl
set_option maxRecDepth 100000 in
theorem hpN_70 (A : Nat → List Int32) (F : Nat → Int32) (P : Nat → Nat) : am_len (heap A F P) 166 = some (Int32.ofNat (A 166).length) := rfl
set_option maxRecDepth 100000 in
theorem hpN_71 (A : Nat → List Int32) (F : Nat → Int32) (P : Nat → Nat) : am_len (heap A F P) 168 = some (Int32.ofNat (A 168).length) := rfl
set_option maxRecDepth 100000 in
theorem hpN_72 (A : Nat → List Int32) (F : Nat → Int32) (P : Nat → Nat) : am_len (heap A F P) 170 = some (Int32.ofNat (A 170).length) := rfl
set_option maxRecDepth 100000 in
theorem hpN_73 (A : Nat → List Int32) (F : Nat → Int32) (P : Nat → Nat) : am_len (heap A F P) 172 = some (Int32.ofNat (A 172).length) := rfl
set_option maxRecDepth 100000 in
theorem hpN_74 (A : Nat → List Int32) (F : Nat → Int32) (P : Nat → Nat) : am_len (heap A F P) 174 = some (Int32.ofNat (A 174).length) := rfl
set_option maxRecDepth 100000 in
theorem hpN_75 (A : Nat → List Int32) (F : Nat → Int32) (P : Nat → Nat) : am_len (heap A F P) 176 = some (Int32.ofNat (A 176).length) := rfl
set_option maxRecDepth 100000 in
theorem hpN_76 (A : Nat → List Int32) (F : Nat → Int32) (P : Nat → Nat) : am_len (heap A F P) 178 = some (Int32.ofNat (A 178).length) := rfl
set_option maxRecDepth 100000 in
theorem hpN_77 (A : Nat → List Int32) (F : Nat → Int32) (P : Nat → Nat) : am_len (heap A F P) 180 = some (Int32.ofNat (A 180).length) := rfl
set_option maxRecDepth 100000 in
theorem hpN_78 (A : Nat → List Int32) (F : Nat → Int32) (P : Nat → Nat) : am_len (heap A F P) 182 = some (Int32.ofNat (A 182).length) := rfl
set_option maxRecDepth 100000 in
theorem hpN_79 (A : Nat → List Int32) (F : Nat → Int32) (P : Nat → Nat) : am_len (heap A F P) 185 = some (Int32.ofNat (A 185).length) := rfl
set_option maxRecDepth 100000 in
theorem hpN_80 (A : Nat → List Int32) (F : Nat → Int32) (P : Nat → Nat) : am_len (heap A F P) 187 = some (Int32.ofNat (A 187).length) := rfl
set_option maxRecDepth 100000 in
theorem hpN_81 (A : Nat → List Int32) (F : Nat → Int32) (P : Nat → Nat) : am_len (heap A F P) 189 = some (Int32.ofNat (A 189).length) := rfl
set_option maxRecDepth 100000 in
theorem hpN_82 (A : Nat → List Int32) (F : Nat → Int32) (P : Nat → Nat) : am_len (heap A F P) 191 = some (Int32.ofNat (A 191).length) := rfl
set_option maxRecDepth 100000 in
theorem hpN_83 (A : Nat → List Int32) (F : Nat → Int32) (P : Nat → Nat) : am_len (heap A F P) 193 = some (Int32.ofNat (A 193).length) := rfl
set_option maxRecDepth 100000 in
theorem hpN_84 (A : Nat → List Int32) (F : Nat → Int32) (P : Nat → Nat) : am_len (heap A F P) 194 = some (Int32.ofNat (A 194).length) := rfl
set_option maxRecDepth 100000 in
theorem hpN_85 (A : Nat → List Int32) (F : Nat → Int32) (P : Nat → Nat) : am_len (heap A F P) 195 = some (Int32.ofNat (A 195).length) := rfl
set_option maxRecDepth 100000 in
theorem hpN_86 (A : Nat → List Int32) (F : Nat → Int32) (P : Nat → Nat) : am_len (heap A F P) 196 = some (Int32.ofNat (A 196).length) := rfl
set_option maxRecDepth 100000 in
theorem hpN_87 (A : Nat → List Int32) (F : Nat → Int32) (P : Nat → Nat) : am_len (heap A F P) 197 = some (Int32.ofNat (A 197).length) := rfl
set_option maxRecDepth 100000 in
theorem hpN_88 (A : Nat → List Int32) (F : Nat → Int32) (P : Nat → Nat) : am_len (heap A F P) 198 = some (Int32.ofNat (A 198).length) := rfl
set_option maxRecDepth 100000 in
theorem hpN_89 (A : Nat → List Int32) (F : Nat → Int32) (P : Nat → Nat) : am_len (heap A F P) 199 = some (Int32.ofNat (A 199).length) := rfl
set_option maxRecDepth 100000 in
theorem hpN_90 (A : Nat → List Int32) (F : Nat → Int32) (P : Nat → Nat) : am_len (heap A F P) 200 = some (Int32.ofNat (A 200).length) := rfl
set_option maxRecDepth 100000 in
theorem hpN_91 (A : Nat → List Int32) (F : Nat → Int32) (P : Nat → Nat) : am_len (heap A F P) 201 = some (Int32.ofNat (A 201).length) := rfl
set_option maxRecDepth 100000 in
theorem hpN_92 (A : Nat → List Int32) (F : Nat → Int32) (P : Nat → Nat) : am_len (heap A F P) 202 = some (Int32.ofNat (A 202).length) := rfl
set_option maxRecDepth 100000 in
theorem hpN_93 (A : Nat → List Int32) (F : Nat → Int32) (P : Nat → Nat) : am_len (heap A F P) 203 = some (Int32.ofNat (A 203).length) := rfl
set_option maxRecDepth 100000 in
theorem hpN_94 (A : Nat → List Int32) (F : Nat → Int32) (P : Nat → Nat) : am_len (heap A F P) 204 = some (Int32.ofNat (A 204).length) := rfl
set_option maxRecDepth 100000 in
theorem hpN_95 (A : Nat → List Int32) (F : Nat → Int32) (P : Nat → Nat) : am_len (heap A F P) 205 = some (Int32.ofNat (A 205).length) := rfl
theorem hpN : (∀ (A : Nat → List Int32) (F : Nat → Int32) (P : Nat → Nat), am_len (heap A F P) 5 = some (Int32.ofNat (A 5).length)) ∧ (∀ (A : Nat → List Int32) (F : Nat → Int32) (P : Nat → Nat), am_len (heap A F P) 7 = some (Int32.ofNat (A 7).length)) ∧ (∀ (A : Nat → List Int32) (F : Nat → Int32) (P : Nat → Nat), am_len (heap A F P) 10 = some (Int32.ofNat (A 10).length)) ∧ (∀ (A : Nat → List Int32) (F : Nat → Int32) (P : Nat → Nat), am_len (heap A F P) 12 = some (Int32.ofNat (A 12).length)) ∧ (∀ (A : Nat → List Int32) (F : Nat → Int32) (P : Nat → Nat), am_len (heap A F P) 14 = some (Int32.ofNat (A 14).length)) ∧ (∀ (A : Nat → List Int32) (F : Nat → Int32) (P : Nat → Nat), am_len (heap A F P) 16 = some (Int32.ofNat (A 16).length)) ∧ (∀ (A : Nat → List Int32) (F : Nat → Int32) (P : Nat → Nat), am_len (heap A F P) 18 = some (Int32.ofNat (A 18).length)) ∧ (∀ (A : Nat → List Int32) (F : Nat → Int32) (P : Nat → Nat), am_len (heap A F P) 21 = some (Int32.ofNat (A 21).length)) ∧ (∀ (A : Nat → List Int32) (F : Nat → Int32) (P : Nat → Nat), am_len (heap A F P) 23 = some (Int32.ofNat (A 23).length)) ∧ (∀ (A : Nat → List Int32) (F : Nat → Int32) (P : Nat → Nat), am_len (heap A F P) 25 = some (Int32.ofNat (A 25).length)) ∧ (∀ (A : Nat → List Int32) (F : Nat → Int32) (P : Nat → Nat), am_len (heap A F P) 27 = some (Int32.ofNat (A 27).length)) ∧ (∀ (A : Nat → List Int32) (F : Nat → Int32) (P : Nat → Nat), am_len (heap A F P) 29 = some (Int32.ofNat (A 29).length)) ∧ (∀ (A : Nat → List Int32) (F : Nat → Int32) (P : Nat → Nat), am_len (heap A F P) 31 = some (Int32.ofNat (A 31).length)) ∧ (∀ (A : Nat → List Int32) (F : Nat → Int32) (P : Nat → Nat), am_len (heap A F P) 33 = some (Int32.ofNat (A 33).length)) ∧ (∀ (A : Nat → List Int32) (F : Nat → Int32) (P : Nat → Nat), am_len (heap A F P) 39 = some (Int32.ofNat (A 39).length)) ∧ (∀ (A : Nat → List Int32) (F : Nat → Int32) (P : Nat → Nat), am_len (heap A F P) 41 = some (Int32.ofNat (A 41).length)) ∧ (∀ (A : Nat → List Int32) (F : Nat → Int32) (P : Nat → Nat), am_len (heap A F P) 44 = some (Int32.ofNat (A 44).length)) ∧ (∀ (A : Nat → List Int32) (F : Nat → Int32) (P : Nat → Nat), am_len (heap A F P) 46 = some (Int32.ofNat (A 46).length)) ∧ (∀ (A : Nat → List Int32) (F : Nat → Int32) (P : Nat → Nat), am_len (heap A F P) 48 = some (Int32.ofNat (A 48).length)) ∧ (∀ (A : Nat → List Int32) (F : Nat → Int32) (P : Nat → Nat), am_len (heap A F P) 50 = some (Int32.ofNat (A 50).length)) ∧ (∀ (A : Nat → List Int32) (F : Nat → Int32) (P : Nat → Nat), am_len (heap A F P) 52 = some (Int32.ofNat (A 52).length)) ∧ (∀ (A : Nat → List Int32) (F : Nat → Int32) (P : Nat → Nat), am_len (heap A F P) 55 = some (Int32.ofNat (A 55).length)) ∧ (∀ (A : Nat → List Int32) (F : Nat → Int32) (P : Nat → Nat), am_len (heap A F P) 57 = some (Int32.ofNat (A 57).length)) ∧ (∀ (A : Nat → List Int32) (F : Nat → Int32) (P : Nat → Nat), am_len (heap A F P) 59 = some (Int32.ofNat (A 59).length)) ∧ (∀ (A : Nat → List Int32) (F : Nat → Int32) (P : Nat → Nat), am_len (heap A F P) 61 = some (Int32.ofNat (A 61).length)) ∧ (∀ (A : Nat → List Int32) (F : Nat → Int32) (P : Nat → Nat), am_len (heap A F P) 63 = some (Int32.ofNat (A 63).length)) ∧ (∀ (A : Nat → List Int32) (F : Nat → Int32) (P : Nat → Nat), am_len (heap A F P) 65 = some (Int32.ofNat (A 65).length)) ∧ (∀ (A : Nat → List Int32) (F : Nat → Int32) (P : Nat → Nat), am_len (heap A F P) 67 = some (Int32.ofNat (A 67).length)) ∧ (∀ (A : Nat → List Int32) (F : Nat → Int32) (P : Nat → Nat), am_len (heap A F P) 71 = some (Int32.ofNat (A 71).length)) ∧ (∀ (A : Nat → List Int32) (F : Nat → Int32) (P : Nat → Nat), am_len (heap A F P) 73 = some (Int32.ofNat (A 73).length)) ∧ (∀ (A : Nat → List Int32) (F : Nat → Int32) (P : Nat → Nat), am_len (heap A F P) 76 = some (Int32.ofNat (A 76).length)) ∧ (∀ (A : Nat → List Int32) (F : Nat → Int32) (P : Nat → Nat), am_len (heap A F P) 78 = some (Int32.ofNat (A 78).length)) ∧ (∀ (A : Nat → List Int32) (F : Nat → Int32) (P : Nat → Nat), am_len (heap A F P) 80 = some (Int32.ofNat (A 80).length)) ∧ (∀ (A : Nat → List Int32) (F : Nat → Int32) (P : Nat → Nat), am_len (heap A F P) 82 = some (Int32.ofNat (A 82).length)) ∧ (∀ (A : Nat → List Int32) (F : Nat → Int32) (P : Nat → Nat), am_len (heap A F P) 84 = some (Int32.ofNat (A 84).length)) ∧ (∀ (A : Nat → List Int32) (F : Nat → Int32) (P : Nat → Nat), am_len (heap A F P) 87 = some (Int32.ofNat (A 87).length)) ∧ (∀ (A : Nat → List Int32) (F : Nat → Int32) (P : Nat → Nat), am_len (heap A F P) 89 = some (Int32.ofNat (A 89).length)) ∧ (∀ (A : Nat → List Int32) (F : Nat → Int32) (P : Nat → Nat), am_len (heap A F P) 91 = some (Int32.ofNat (A 91).length)) ∧ (∀ (A : Nat → List Int32) (F : Nat → Int32) (P : Nat → Nat), am_len (heap A F P) 93 = some (Int32.ofNat (A 93).length)) ∧ (∀ (A : Nat → List Int32) (F : Nat → Int32) (P : Nat → Nat), am_len (heap A F P) 95 = some (Int32.ofNat (A 95).length)) ∧ (∀ (A : Nat → List Int32) (F : Nat → Int32) (P : Nat → Nat), am_len (heap A F P) 97 = some (Int32.ofNat (A 97).length)) ∧ (∀ (A : Nat → List Int32) (F : Nat → Int32) (P : Nat → Nat), am_len (heap A F P) 99 = some (Int32.ofNat (A 99).length)) ∧ (∀ (A : Nat → List Int32) (F : Nat → Int32) (P : Nat → Nat), am_len (heap A F P) 103 = some (Int32.ofNat (A 103).length)) ∧ (∀ (A : Nat → List Int32) (F : Nat → Int32) (P : Nat → Nat), am_len (heap A F P) 105 = some (Int32.ofNat (A 105).length)) ∧ (∀ (A : Nat → List Int32) (F : Nat → Int32) (P : Nat → Nat), am_len (heap A F P) 108 = some (Int32.ofNat (A 108).length)) ∧ (∀ (A : Nat → List Int32) (F : Nat → Int32) (P : Nat → Nat), am_len (heap A F P) 110 = some (Int32.ofNat (A 110).length)) ∧ (∀ (A : Nat → List Int32) (F : Nat → Int32) (P : Nat → Nat), am_len (heap A F P) 112 = some (Int32.ofNat (A 112).length)) ∧ (∀ (A : Nat → List Int32) (F : Nat → Int32) (P : Nat → Nat), am_len (heap A F P) 114 = some (Int32.ofNat (A 114).length)) ∧ (∀ (A : Nat → List Int32) (F : Nat → Int32) (P : Nat → Nat), am_len (heap A F P) 116 = some (Int32.ofNat (A 116).length)) ∧ (∀ (A : Nat → List Int32) (F : Nat → Int32) (P : Nat → Nat), am_len (heap A F P) 119 = some (Int32.ofNat (A 119).length)) ∧ (∀ (A : Nat → List Int32) (F : Nat → Int32) (P : Nat → Nat), am_len (heap A F P) 121 = some (Int32.ofNat (A 121).length)) ∧ (∀ (A : Nat → List Int32) (F : Nat → Int32) (P : Nat → Nat), am_len (heap A F P) 123 = some (Int32.ofNat (A 123).length)) ∧ (∀ (A : Nat → List Int32) (F : Nat → Int32) (P : Nat → Nat), am_len (heap A F P) 125 = some (Int32.ofNat (A 125).length)) ∧ (∀ (A : Nat → List Int32) (F : Nat → Int32) (P : Nat → Nat), am_len (heap A F P) 127 = some (Int32.ofNat (A 127).length)) ∧ (∀ (A : Nat → List Int32) (F : Nat → Int32) (P : Nat → Nat), am_len (heap A F P) 129 = some (Int32.ofNat (A 129).length)) ∧ (∀ (A : Nat → List Int32) (F : Nat → Int32) (P : Nat → Nat), am_len (heap A F P) 131 = some (Int32.ofNat (A 131).length)) ∧ (∀ (A : Nat → List Int32) (F : Nat → Int32) (P : Nat → Nat), am_len (heap A F P) 135 = some (Int32.ofNat (A 135).length)) ∧ (∀ (A : Nat → List Int32) (F : Nat → Int32) (P : Nat → Nat), am_len (heap A F P) 137 = some (Int32.ofNat (A 137).length)) ∧ (∀ (A : Nat → List Int32) (F : Nat → Int32) (P : Nat → Nat), am_len (heap A F P) 140 = some (Int32.ofNat (A 140).length)) ∧ (∀ (A : Nat → List Int32) (F : Nat → Int32) (P : Nat → Nat), am_len (heap A F P) 142 = some (Int32.ofNat (A 142).length)) ∧ (∀ (A : Nat → List Int32) (F : Nat → Int32) (P : Nat → Nat), am_len (heap A F P) 144 = some (Int32.ofNat (A 144).length)) ∧ (∀ (A : Nat → List Int32) (F : Nat → Int32) (P : Nat → Nat), am_len (heap A F P) 146 = some (Int32.ofNat (A 146).length)) ∧ (∀ (A : Nat → List Int32) (F : Nat → Int32) (P : Nat → Nat), am_len (heap A F P) 148 = some (Int32.ofNat (A 148).length)) ∧ (∀ (A : Nat → List Int32) (F : Nat → Int32) (P : Nat → Nat), am_len (heap A F P) 151 = some (Int32.ofNat (A 151).length)) ∧ (∀ (A : Nat → List Int32) (F : Nat → Int32) (P : Nat → Nat), am_len (heap A F P) 153 = some (Int32.ofNat (A 153).length)) ∧ (∀ (A : Nat → List Int32) (F : Nat → Int32) (P : Nat → Nat), am_len (heap A F P) 155 = some (Int32.ofNat (A 155).length)) ∧ (∀ (A : Nat → List Int32) (F : Nat → Int32) (P : Nat → Nat), am_len (heap A F P) 157 = some (Int32.ofNat (A 157).length)) ∧ (∀ (A : Nat → List Int32) (F : Nat → Int32) (P : Nat → Nat), am_len (heap A F P) 159 = some (Int32.ofNat (A 159).length)) ∧ (∀ (A : Nat → List Int32) (F : Nat → Int32) (P : Nat → Nat), am_len (heap A F P) 161 = some (Int32.ofNat (A 161).length)) ∧ (∀ (A : Nat → List Int32) (F : Nat → Int32) (P : Nat → Nat), am_len (heap A F P) 163 = some (Int32.ofNat (A 163).length)) ∧ (∀ (A : Nat → List Int32) (F : Nat → Int32) (P : Nat → Nat), am_len (heap A F P) 166 = some (Int32.ofNat (A 166).length)) ∧ (∀ (A : Nat → List Int32) (F : Nat → Int32) (P : Nat → Nat), am_len (heap A F P) 168 = some (Int32.ofNat (A 168).length)) ∧ (∀ (A : Nat → List Int32) (F : Nat → Int32) (P : Nat → Nat), am_len (heap A F P) 170 = some (Int32.ofNat (A 170).length)) ∧ (∀ (A : Nat → List Int32) (F : Nat → Int32) (P : Nat → Nat), am_len (heap A F P) 172 = some (Int32.ofNat (A 172).length)) ∧ (∀ (A : Nat → List Int32) (F : Nat → Int32) (P : Nat → Nat), am_len (heap A F P) 174 = some (Int32.ofNat (A 174).length)) ∧ (∀ (A : Nat → List Int32) (F : Nat → Int32) (P : Nat → Nat), am_len (heap A F P) 176 = some (Int32.ofNat (A 176).length)) ∧ (∀ (A : Nat → List Int32) (F : Nat → Int32) (P : Nat → Nat), am_len (heap A F P) 178 = some (Int32.ofNat (A 178).length)) ∧ (∀ (A : Nat → List Int32) (F : Nat → Int32) (P : Nat → Nat), am_len (heap A F P) 180 = some (Int32.ofNat (A 180).length)) ∧ (∀ (A : Nat → List Int32) (F : Nat → Int32) (P : Nat → Nat), am_len (heap A F P) 182 = some (Int32.ofNat (A 182).length)) ∧ (∀ (A : Nat → List Int32) (F : Nat → Int32) (P : Nat → Nat), am_len (heap A F P) 185 = some (Int32.ofNat (A 185).length)) ∧ (∀ (A : Nat → List Int32) (F : Nat → Int32) (P : Nat → Nat), am_len (heap A F P) 187 = some (Int32.ofNat (A 187).length)) ∧ (∀ (A : Nat → List Int32) (F : Nat → Int32) (P : Nat → Nat), am_len (heap A F P) 189 = some (Int32.ofNat (A 189).length)) ∧ (∀ (A : Nat → List Int32) (F : Nat → Int32) (P : Nat → Nat), am_len (heap A F P) 191 = some (Int32.ofNat (A 191).length)) ∧ (∀ (A : Nat → List Int32) (F : Nat → Int32) (P : Nat → Nat), am_len (heap A F P) 193 = some (Int32.ofNat (A 193).length)) ∧ (∀ (A : Nat → List Int32) (F : Nat → Int32) (P : Nat → Nat), am_len (heap A F P) 194 = some (Int32.ofNat (A 194).length)) ∧ (∀ (A : Nat → List Int32) (F : Nat → Int32) (P : Nat → Nat), am_len (heap A F P) 195 = some (Int32.ofNat (A 195).length)) ∧ (∀ (A : Nat → List Int32) (F : Nat → Int32) (P : Nat → Nat), am_len (heap A F P) 196 = some (Int32.ofNat (A 196).length)) ∧ (∀ (A : Nat → List Int32) (F : Nat → Int32) (P : Nat → Nat), am_len (heap A F P) 197 = some (Int32.ofNat (A 197).length)) ∧ (∀ (A : Nat → List Int32) (F : Nat → Int32) (P : Nat → Nat), am_len (heap A F P) 198 = some (Int32.ofNat (A 198).length)) ∧ (∀ (A : Nat → List Int32) (F : Nat → Int32) (P : Nat → Nat), am_len (heap A F P) 199 = some (Int32.ofNat (A 199).length)) ∧ (∀ (A : Nat → List Int32) (F : Nat → Int32) (P : Nat → Nat), am_len (heap A F P) 200 = some (Int32.ofNat (A 200).length)) ∧ (∀ (A : Nat → List Int32) (F : Nat → Int32) (P : Nat → Nat), am_len (heap A F P) 201 = some (Int32.ofNat (A 201).length)) ∧ (∀ (A : Nat → List Int32) (F : Nat → Int32) (P : Nat → Nat), am_len (heap A F P) 202 = some (Int32.ofNat (A 202).length)) ∧ (∀ (A : Nat → List Int32) (F : Nat → Int32) (P : Nat → Nat), am_len (heap A F P) 203 = some (Int32.ofNat (A 203).length)) ∧ (∀ (A : Nat → List Int32) (F : Nat → Int32) (P : Nat → Nat), am_len (heap A F P) 204 = some (Int32.ofNat (A 204).length)) ∧ (∀ (A : Nat → List Int32) (F : Nat → Int32) (P : Nat → Nat), am_len (heap A F P) 205 = some (Int32.ofNat (A 205).length)) := ⟨hpN_0, hpN_1, hpN_2, hpN_3, hpN_4, hpN_5, hpN_6, hpN_7, hpN_8, hpN_9, hpN_10, hpN_11, hpN_12, hpN_13, hpN_14, hpN_15, hpN_16, hpN_17, hpN_18, hpN_19, hpN_20, hpN_21, hpN_22, hpN_23, hpN_24, hpN_25, hpN_26, hpN_27, hpN_28, hpN_29, hpN_30, hpN_31, hpN_32, hpN_33, hpN_34, hpN_35, hpN_36, hpN_37, hpN_38, hpN_39, hpN_40, hpN_41, hpN_42, hpN_43, hpN_44, hpN_45, hpN_46, hpN_47, hpN_48, hpN_49, hpN_50, hpN_51, hpN_52, hpN_53, hpN_54, hpN_55, hpN_56, hpN_57, hpN_58, hpN_59, hpN_60, hpN_61, hpN_62, hpN_63, hpN_64, hpN_65, hpN_66, hpN_67, hpN_68, hpN_69, hpN_70, hpN_71, hpN_72, hpN_73, hpN_74, hpN_75, hpN_76, hpN_77, hpN_78, hpN_79, hpN_80, hpN_81, hpN_82, hpN_83, hpN_84, hpN_85, hpN_86, hpN_87, hpN_88, hpN_89, hpN_90, hpN_91, hpN_92, hpN_93, hpN_94, hpN_95⟩
set_option maxRecDepth 100000 in
theorem hpL_0 (A : Nat → List Int32) (F : Nat → Int32) (P : Nat → Nat) (i : Int32) : am_al (heap A F P) 0 5 i = bif am_in i (A 5).length then (A 5)[i.toNatClampNeg]? else none := rfl
set_option maxRecDepth 100000 in
theorem hpL_1 (A : Nat → List Int32) (F : Nat → Int32) (P : Nat → Nat) (i : Int32) : am_al (heap A F P) 0 7 i = bif am_in i (A 7).length then (A 7)[i.toNatClampNeg]? else none := rfl
set_option maxRecDepth 100000 in
theorem hpL_2 (A : Nat → List Int32) (F : Nat → Int32) (P : Nat → Nat) (i : Int32) : am_al (heap A F P) 0 10 i = bif am_in i (A 10).length then (A 10)[i.toNatClampNeg]? else none := rfl
set_option maxRecDepth 100000 in
theorem hpL_3 (A : Nat → List Int32) (F : Nat → Int32) (P : Nat → Nat) (i : Int32) : am_al (heap A F P) 0 12 i = bif am_in i (A 12).length then (A 12)[i.toNatClampNeg]? else none := rfl
set_option maxRecDepth 100000 in
theorem hpL_4 (A : Nat → List Int32) (F : Nat → Int32) (P : Nat → Nat) (i : Int32) : am_al (heap A F P) 0 14 i = bif am_in i (A 14).length then (A 14)[i.toNatClampNeg]? else none := rfl
set_option maxRecDepth 100000 in
theorem hpL_5 (A : Nat → List Int32) (F : Nat → Int32) (P : Nat → Nat) (i : Int32) : am_al (heap A F P) 0 16 i = bif am_in i (A 16).length then (A 16)[i.toNatClampNeg]? else none := rfl
set_option maxRecDepth 100000 in
theorem hpL_6 (A : Nat → List Int32) (F : Nat → Int32) (P : Nat → Nat) (i : Int32) : am_al (heap A F P) 0 18 i = bif am_in i (A 18).length then (A 18)[i.toNatClampNeg]? else none := rfl
set_option maxRecDepth 100000 in
theorem hpL_7 (A : Nat → List Int32) (F : Nat → Int32) (P : Nat → Nat) (i : Int32) : am_al (heap A F P) 0 21 i = bif am_in i (A 21).length then (A 21)[i.toNatClampNeg]? else none := rfl
set_option maxRecDepth 100000 in
theorem hpL_8 (A : Nat → List Int32) (F : Nat → Int32) (P : Nat → Nat) (i : Int32) : am_al (heap A F P) 0 23 i = bif am_in i (A 23).length then (A 23)[i.toNatClampNeg]? else none := rfl
set_option maxRecDepth 100000 in
theorem hpL_9 (A : Nat → List Int32) (F : Nat → Int32) (P : Nat → Nat) (i : Int32) : am_al (heap A F P) 0 25 i = bif am_in i (A 25).length then (A 25)[i.toNatClampNeg]? else none := rfl
set_option maxRecDepth 100000 in
theorem hpL_10 (A : Nat → List Int32) (F : Nat → Int32) (P : Nat → Nat) (i : Int32) : am_al (heap A F P) 0 27 i = bif am_in i (A 27).length then (A 27)[i.toNatClampNeg]? else none := rfl
set_option maxRecDepth 100000 in
theorem hpL_11 (A : Nat → List Int32) (F : Nat → Int32) (P : Nat → Nat) (i : Int32) : am_al (heap A F P) 0 29 i = bif am_in i (A 29).length then (A 29)[i.toNatClampNeg]? else none := rfl
set_option maxRecDepth 100000 in
theorem hpL_12 (A : Nat → List Int32) (F : Nat → Int32) (P : Nat → Nat) (i : Int32) : am_al (heap A F P) 0 31 i = bif am_in i (A 31).length then (A 31)[i.toNatClampNeg]? else none := rfl
set_option maxRecDepth 100000 in
theorem hpL_13 (A : Nat → List Int32) (F : Nat → Int32) (P : Nat → Nat) (i : Int32) : am_al (heap A F P) 0 33 i = bif am_in i (A 33).length then (A 33)[i.toNatClampNeg]? else none := rfl
set_option maxRecDepth 100000 in
theorem hpL_14 (A : Nat → List Int32) (F : Nat → Int32) (P : Nat → Nat) (i : Int32) : am_al (heap A F P) 0 39 i = bif am_in i (A 39).length then (A 39)[i.toNatClampNeg]? else none := rfl
set_option maxRecDepth 100000 in
theorem hpL_15 (A : Nat → List Int32) (F : Nat → Int32) (P : Nat → Nat) (i : Int32) : am_al (heap A F P) 0 41 i = bif am_in i (A 41).length then (A 41)[i.toNatClampNeg]? else none := rfl
set_option maxRecDepth 100000 in
theorem hpL_16 (A : Nat → List Int32) (F : Nat → Int32) (P : Nat → Nat) (i : Int32) : am_al (heap A F P) 0 44 i = bif am_in i (A 44).length then (A 44)[i.toNatClampNeg]? else none := rfl
set_option maxRecDepth 100000 in
theorem hpL_17 (A : Nat → List Int32) (F : Nat → Int32) (P : Nat → Nat) (i : Int32) : am_al (heap A F P) 0 46 i = bif am_in i (A 46).length then (A 46)[i.toNatClampNeg]? else none := rfl
set_option maxRecDepth 100000 in
theorem hpL_18 (A : Nat → List Int32) (F : Nat → Int32) (P : Nat → Nat) (i : Int32) : am_al (heap A F P) 0 48 i = bif am_in i (A 48).length then (A 48)[i.toNatClampNeg]? else none := rfl
set_option maxRecDepth 100000 in
theorem hpL_19 (A : Nat → List Int32) (F : Nat → Int32) (P : Nat → Nat) (i : Int32) : am_al (heap A F P) 0 50 i = bif am_in i (A 50).length then (A 50)[i.toNatClampNeg]? else none := rfl
set_option maxRecDepth 100000 in
theorem hpL_20 (A : Nat → List Int32) (F : Nat → Int32) (P : Nat → Nat) (i : Int32) : am_al (heap A F P) 0 52 i = bif am_in i (A 52).length then (A 52)[i.toNatClampNeg]? else none := rfl
set_option maxRecDepth 100000 in
theorem hpL_21 (A : Nat → List Int32) (F : Nat → Int32) (P : Nat → Nat) (i : Int32) : am_al (heap A F P) 0 55 i = bif am_in i (A 55).length then (A 55)[i.toNatClampNeg]? else none := rfl
set_option maxRecDepth 100000 in
theorem hpL_22 (A : Nat → List Int32) (F : Nat → Int32) (P : Nat → Nat) (i : Int32) : am_al (heap A F P) 0 57 i = bif am_in i (A 57).length then (A 57)[i.toNatClampNeg]? else none := rfl
set_option maxRecDepth 100000 in
theorem hpL_23 (A : Nat → List Int32) (F : Nat → Int32) (P : Nat → Nat) (i : Int32) : am_al (heap A F P) 0 59 i = bif am_in i (A 59).length then (A 59)[i.toNatClampNeg]? else none := rfl
set_option maxRecDepth 100000 in
theorem hpL_24 (A : Nat → List Int32) (F : Nat → Int32) (P : Nat → Nat) (i : Int32) : am_al (heap A F P) 0 61 i = bif am_in i (A 61).length then (A 61)[i.toNatClampNeg]? else none := rfl
set_option maxRecDepth 100000 in
theorem hpL_25 (A : Nat → List Int32) (F : Nat → Int32) (P : Nat → Nat) (i : Int32) : am_al (heap A F P) 0 63 i = bif am_in i (A 63).length then (A 63)[i.toNatClampNeg]? else none := rfl
set_option maxRecDepth 100000 in
theorem hpL_26 (A : Nat → List Int32) (F : Nat → Int32) (P : Nat → Nat) (i : Int32) : am_al (heap A F P) 0 65 i = bif am_in i (A 65).length then (A 65)[i.toNatClampNeg]? else none := rfl
set_option maxRecDepth 100000 in
theorem hpL_27 (A : Nat → List Int32) (F : Nat → Int32) (P : Nat → Nat) (i : Int32) : am_al (heap A F P) 0 67 i = bif am_in i (A 67).length then (A 67)[i.toNatClampNeg]? else none := rfl
set_option maxRecDepth 100000 in
theorem hpL_28 (A : Nat → List Int32) (F : Nat → Int32) (P : Nat → Nat) (i : Int32) : am_al (heap A F P) 0 71 i = bif am_in i (A 71).length then (A 71)[i.toNatClampNeg]? else none := rfl
set_option maxRecDepth 100000 in
theorem hpL_29 (A : Nat → List Int32) (F : Nat → Int32) (P : Nat → Nat) (i : Int32) : am_al (heap A F P) 0 73 i = bif am_in i (A 73).length then (A 73)[i.toNatClampNeg]? else none := rfl
set_option maxRecDepth 100000 in
theorem hpL_30 (A : Nat → List Int32) (F : Nat → Int32) (P : Nat → Nat) (i : Int32) : am_al (heap A F P) 0 76 i = bif am_in i (A 76).length then (A 76)[i.toNatClampNeg]? else none := rfl
set_option maxRecDepth 100000 in
theorem hpL_31 (A : Nat → List Int32) (F : Nat → Int32) (P : Nat → Nat) (i : Int32) : am_al (heap A F P) 0 78 i = bif am_in i (A 78).length then (A 78)[i.toNatClampNeg]? else none := rfl
set_option maxRecDepth 100000 in
theorem hpL_32 (A : Nat → List Int32) (F : Nat → Int32) (P : Nat → Nat) (i : Int32) : am_al (heap A F P) 0 80 i = bif am_in i (A 80).length then (A 80)[i.toNatClampNeg]? else none := rfl
set_option maxRecDepth 100000 in
theorem hpL_33 (A : Nat → List Int32) (F : Nat → Int32) (P : Nat → Nat) (i : Int32) : am_al (heap A F P) 0 82 i = bif am_in i (A 82).length then (A 82)[i.toNatClampNeg]? else none := rfl
set_option maxRecDepth 100000 in
theorem hpL_34 (A : Nat → List Int32) (F : Nat → Int32) (P : Nat → Nat) (i : Int32) : am_al (heap A F P) 0 84 i = bif am_in i (A 84).length then (A 84)[i.toNatClampNeg]? else none := rfl
set_option maxRecDepth 100000 in
theorem hpL_35 (A : Nat → List Int32) (F : Nat → Int32) (P : Nat → Nat) (i : Int32) : am_al (heap A F P) 0 87 i = bif am_in i (A 87).length then (A 87)[i.toNatClampNeg]? else none := rfl
set_option maxRecDepth 100000 in
theorem hpL_36 (A : Nat → List Int32) (F : Nat → Int32) (P : Nat → Nat) (i : Int32) : am_al (heap A F P) 0 89 i = bif am_in i (A 89).length then (A 89)[i.toNatClampNeg]? else none := rfl
set_option maxRecDepth 100000 in
theorem hpL_37 (A : Nat → List Int32) (F : Nat → Int32) (P : Nat → Nat) (i : Int32) : am_al (heap A F P) 0 91 i = bif am_in i (A 91).length then (A 91)[i.toNatClampNeg]? else none := rfl
set_option maxRecDepth 100000 in
theorem hpL_38 (A : Nat → List Int32) (F : Nat → Int32) (P : Nat → Nat) (i : Int32) : am_al (heap A F P) 0 93 i = bif am_in i (A 93).length then (A 93)[i.toNatClampNeg]? else none := rfl
set_option maxRecDepth 100000 in
theorem hpL_39 (A : Nat → List Int32) (F : Nat → Int32) (P : Nat → Nat) (i : Int32) : am_al (heap A F P) 0 95 i = bif am_in i (A 95).length then (A 95)[i.toNatClampNeg]? else none := rfl
set_option maxRecDepth 100000 in
theorem hpL_40 (A : Nat → List Int32) (F : Nat → Int32) (P : Nat → Nat) (i : Int32) : am_al (heap A F P) 0 97 i = bif am_in i (A 97).length then (A 97)[i.toNatClampNeg]? else none := rfl
set_option maxRecDepth 100000 in
theorem hpL_41 (A : Nat → List Int32) (F : Nat → Int32) (P : Nat → Nat) (i : Int32) : am_al (heap A F P) 0 99 i = bif am_in i (A 99).length then (A 99)[i.toNatClampNeg]? else none := rfl
set_option maxRecDepth 100000 in
theorem hpL_42 (A : Nat → List Int32) (F : Nat → Int32) (P : Nat → Nat) (i : Int32) : am_al (heap A F P) 0 103 i = bif am_in i (A 103).length then (A 103)[i.toNatClampNeg]? else none := rfl
set_option maxRecDepth 100000 in
theorem hpL_43 (A : Nat → List Int32) (F : Nat → Int32) (P : Nat → Nat) (i : Int32) : am_al (heap A F P) 0 105 i = bif am_in i (A 105).length then (A 105)[i.toNatClampNeg]? else none := rfl
set_option maxRecDepth 100000 in
theorem hpL_44 (A : Nat → List Int32) (F : Nat → Int32) (P : Nat → Nat) (i : Int32) : am_al (heap A F P) 0 108 i = bif am_in i (A 108).length then (A 108)[i.toNatClampNeg]? else none := rfl
set_option maxRecDepth 100000 in
theorem hpL_45 (A : Nat → List Int32) (F : Nat → Int32) (P : Nat → Nat) (i : Int32) : am_al (heap A F P) 0 110 i = bif am_in i (A 110).length then (A 110)[i.toNatClampNeg]? else none := rfl
set_option maxRecDepth 100000 in
theorem hpL_46 (A : Nat → List Int32) (F : Nat → Int32) (P : Nat → Nat) (i : Int32) : am_al (heap A F P) 0 112 i = bif am_in i (A 112).length then (A 112)[i.toNatClampNeg]? else none := rfl
set_option maxRecDepth 100000 in
theorem hpL_47 (A : Nat → List Int32) (F : Nat → Int32) (P : Nat → Nat) (i : Int32) : am_al (heap A F P) 0 114 i = bif am_in i (A 114).length then (A 114)[i.toNatClampNeg]? else none := rfl
set_option maxRecDepth 100000 in
theorem hpL_48 (A : Nat → List Int32) (F : Nat → Int32) (P : Nat → Nat) (i : Int32) : am_al (heap A F P) 0 116 i = bif am_in i (A 116).length then (A 116)[i.toNatClampNeg]? else none := rfl
set_option maxRecDepth 100000 in
theorem hpL_49 (A : Nat → List Int32) (F : Nat → Int32) (P : Nat → Nat) (i : Int32) : am_al (heap A F P) 0 119 i = bif am_in i (A 119).length then (A 119)[i.toNatClampNeg]? else none := rfl
set_option maxRecDepth 100000 in
theorem hpL_50 (A : Nat → List Int32) (F : Nat → Int32) (P : Nat → Nat) (i : Int32) : am_al (heap A F P) 0 121 i = bif am_in i (A 121).length then (A 121)[i.toNatClampNeg]? else none := rfl
set_option maxRecDepth 100000 in
theorem hpL_51 (A : Nat → List Int32) (F : Nat → Int32) (P : Nat → Nat) (i : Int32) : am_al (heap A F P) 0 123 i = bif am_in i (A 123).length then (A 123)[i.toNatClampNeg]? else none := rfl
set_option maxRecDepth 100000 in
theorem hpL_52 (A : Nat → List Int32) (F : Nat → Int32) (P : Nat → Nat) (i : Int32) : am_al (heap A F P) 0 125 i = bif am_in i (A 125).length then (A 125)[i.toNatClampNeg]? else none := rfl
set_option maxRecDepth 100000 in
theorem hpL_53 (A : Nat → List Int32) (F : Nat → Int32) (P : Nat → Nat) (i : Int32) : am_al (heap A F P) 0 127 i = bif am_in i (A 127).length then (A 127)[i.toNatClampNeg]? else none := rfl
set_option maxRecDepth 100000 in
theorem hpL_54 (A : Nat → List Int32) (F : Nat → Int32) (P : Nat → Nat) (i : Int32) : am_al (heap A F P) 0 129 i = bif am_in i (A 129).length then (A 129)[i.toNatClampNeg]? else none := rfl
set_option maxRecDepth 100000 in
theorem hpL_55 (A : Nat → List Int32) (F : Nat → Int32) (P : Nat → Nat) (i : Int32) : am_al (heap A F P) 0 131 i = bif am_in i (A 131).length then (A 131)[i.toNatClampNeg]? else none := rfl
set_option maxRecDepth 100000 in
theorem hpL_56 (A : Nat → List Int32) (F : Nat → Int32) (P : Nat → Nat) (i : Int32) : am_al (heap A F P) 0 135 i = bif am_in i (A 135).length then (A 135)[i.toNatClampNeg]? else none := rfl
set_option maxRecDepth 100000 in
theorem hpL_57 (A : Nat → List Int32) (F : Nat → Int32) (P : Nat → Nat) (i : Int32) : am_al (heap A F P) 0 137 i = bif am_in i (A 137).length then (A 137)[i.toNatClampNeg]? else none := rfl
set_option maxRecDepth 100000 in
theorem hpL_58 (A : Nat → List Int32) (F : Nat → Int32) (P : Nat → Nat) (i : Int32) : am_al (heap A F P) 0 140 i = bif am_in i (A 140).length then (A 140)[i.toNatClampNeg]? else none := rfl
set_option maxRecDepth 100000 in
theorem hpL_59 (A : Nat → List Int32) (F : Nat → Int32) (P : Nat → Nat) (i : Int32) : am_al (heap A F P) 0 142 i = bif am_in i (A 142).length then (A 142)[i.toNatClampNeg]? else none := rfl
set_option maxRecDepth 100000 in
theorem hpL_60 (A : Nat → List Int32) (F : Nat → Int32) (P : Nat → Nat) (i : Int32) : am_al (heap A F P) 0 144 i = bif am_in i (A 144).length then (A 144)[i.toNatClampNeg]? else none := rfl
set_option maxRecDepth 100000 in
theorem hpL_61 (A : Nat → List Int32) (F : Nat → Int32) (P : Nat → Nat) (i : Int32) : am_al (heap A F P) 0 146 i = bif am_in i (A 146).length then (A 146)[i.toNatClampNeg]? else none := rfl
set_option maxRecDepth 100000 in
theorem hpL_62 (A : Nat → List Int32) (F : Nat → Int32) (P : Nat → Nat) (i : Int32) : am_al (heap A F P) 0 148 i = bif am_in i (A 148).length then (A 148)[i.toNatClampNeg]? else none := rfl
set_option maxRecDepth 100000 in
theorem hpL_63 (A : Nat → List Int32) (F : Nat → Int32) (P : Nat → Nat) (i : Int32) : am_al (heap A F P) 0 151 i = bif am_in i (A 151).length then (A 151)[i.toNatClampNeg]? else none := rfl
set_option maxRecDepth 100000 in
theorem hpL_64 (A : Nat → List Int32) (F : Nat → Int32) (P : Nat → Nat) (i : Int32) : am_al (heap A F P) 0 153 i = bif am_in i (A 153).length then (A 153)[i.toNatClampNeg]? else none := rfl
set_option maxRecDepth 100000 in
theorem hpL_65 (A : Nat → List Int32) (F : Nat → Int32) (P : Nat → Nat) (i : Int32) : am_al (heap A F P) 0 155 i = bif am_in i (A 155).length then (A 155)[i.toNatClampNeg]? else none := rfl
set_option maxRecDepth 100000 in
theorem hpL_66 (A : Nat → List Int32) (F : Nat → Int32) (P : Nat → Nat) (i : Int32) : am_al (heap A F P) 0 157 i = bif am_in i (A 157).length then (A 157)[i.toNatClampNeg]? else none := rfl
set_option maxRecDepth 100000 in
theorem hpL_67 (A : Nat → List Int32) (F : Nat → Int32) (P : Nat → Nat) (i : Int32) : am_al (heap A F P) 0 159 i = bif am_in i (A 159).length then (A 159)[i.toNatClampNeg]? else none := rfl
set_option maxRecDepth 100000 in
theorem hpL_68 (A : Nat → List Int32) (F : Nat → Int32) (P : Nat → Nat) (i : Int32) : am_al (heap A F P) 0 161 i = bif am_in i (A 161).length then (A 161)[i.toNatClampNeg]? else none := rfl
set_option maxRecDepth 100000 in
theorem hpL_69 (A : Nat → List Int32) (F : Nat → Int32) (P : Nat → Nat) (i : Int32) : am_al (heap A F P) 0 163 i = bif am_in i (A 163).length then (A 163)[i.toNatClampNeg]? else none := rfl
set_option maxRecDepth 100000 in
theorem hpL_70 (A : Nat → List Int32) (F : Nat → Int32) (P : Nat → Nat) (i : Int32) : am_al (heap A F P) 0 166 i = bif am_in i (A 166).length then (A 166)[i.toNatClampNeg]? else none := rfl
set_option maxRecDepth 100000 in
theorem hpL_71 (A : Nat → List Int32) (F : Nat → Int32) (P : Nat → Nat) (i : Int32) : am_al (heap A F P) 0 168 i = bif am_in i (A 168).length then (A 168)[i.toNatClampNeg]? else none := rfl
set_option maxRecDepth 100000 in
theorem hpL_72 (A : Nat → List Int32) (F : Nat → Int32) (P : Nat → Nat) (i : Int32) : am_al (heap A F P) 0 170 i = bif am_in i (A 170).length then (A 170)[i.toNatClampNeg]? else none := rfl
set_option maxRecDepth 100000 in
theorem hpL_73 (A : Nat → List Int32) (F : Nat → Int32) (P : Nat → Nat) (i : Int32) : am_al (heap A F P) 0 172 i = bif am_in i (A 172).length then (A 172)[i.toNatClampNeg]? else none := rfl
set_option maxRecDepth 100000 in
theorem hpL_74 (A : Nat → List Int32) (F : Nat → Int32) (P : Nat → Nat) (i : Int32) : am_al (heap A F P) 0 174 i = bif am_in i (A 174).length then (A 174)[i.toNatClampNeg]? else none := rfl
set_option maxRecDepth 100000 in
theorem hpL_75 (A : Nat → List Int32) (F : Nat → Int32) (P : Nat → Nat) (i : Int32) : am_al (heap A F P) 0 176 i = bif am_in i (A 176).length then (A 176)[i.toNatClampNeg]? else none := rfl
set_option maxRecDepth 100000 in
theorem hpL_76 (A : Nat → List Int32) (F : Nat → Int32) (P : Nat → Nat) (i : Int32) : am_al (heap A F P) 0 178 i = bif am_in i (A 178).length then (A 178)[i.toNatClampNeg]? else none := rfl
set_option maxRecDepth 100000 in
theorem hpL_77 (A : Nat → List Int32) (F : Nat → Int32) (P : Nat → Nat) (i : Int32) : am_al (heap A F P) 0 180 i = bif am_in i (A 180).length then (A 180)[i.toNatClampNeg]? else none := rfl
set_option maxRecDepth 100000 in
theorem hpL_78 (A : Nat → List Int32) (F : Nat → Int32) (P : Nat → Nat) (i : Int32) : am_al (heap A F P) 0 182 i = bif am_in i (A 182).length then (A 182)[i.toNatClampNeg]? else none := rfl
set_option maxRecDepth 100000 in
theorem hpL_79 (A : Nat → List Int32) (F : Nat → Int32) (P : Nat → Nat) (i : Int32) : am_al (heap A F P) 1 185 i = bif am_in i (A 185).length then (A 185)[i.toNatClampNeg]? else none := rfl
set_option maxRecDepth 100000 in
theorem hpL_80 (A : Nat → List Int32) (F : Nat → Int32) (P : Nat → Nat) (i : Int32) : am_al (heap A F P) 0 187 i = bif am_in i (A 187).length then (A 187)[i.toNatClampNeg]? else none := rfl
set_option maxRecDepth 100000 in
theorem hpL_81 (A : Nat → List Int32) (F : Nat → Int32) (P : Nat → Nat) (i : Int32) : am_al (heap A F P) 0 189 i = bif am_in i (A 189).length then (A 189)[i.toNatClampNeg]? else none := rfl
set_option maxRecDepth 100000 in
theorem hpL_82 (A : Nat → List Int32) (F : Nat → Int32) (P : Nat → Nat) (i : Int32) : am_al (heap A F P) 0 191 i = bif am_in i (A 191).length then (A 191)[i.toNatClampNeg]? else none := rfl
set_option maxRecDepth 100000 in
theorem hpL_83 (A : Nat → List Int32) (F : Nat → Int32) (P : Nat → Nat) (i : Int32) : am_al (heap A F P) 0 193 i = bif am_in i (A 193).length then (A 193)[i.toNatClampNeg]? else none := rfl
set_option maxRecDepth 100000 in
theorem hpL_84 (A : Nat → List Int32) (F : Nat → Int32) (P : Nat → Nat) (i : Int32) : am_al (heap A F P) 0 194 i = bif am_in i (A 194).length then (A 194)[i.toNatClampNeg]? else none := rfl
set_option maxRecDepth 100000 in
theorem hpL_85 (A : Nat → List Int32) (F : Nat → Int32) (P : Nat → Nat) (i : Int32) : am_al (heap A F P) 1 195 i = bif am_in i (A 195).length then (A 195)[i.toNatClampNeg]? else none := rfl
set_option maxRecDepth 100000 in
theorem hpL_86 (A : Nat → List Int32) (F : Nat → Int32) (P : Nat → Nat) (i : Int32) : am_al (heap A F P) 0 196 i = bif am_in i (A 196).length then (A 196)[i.toNatClampNeg]? else none := rfl
set_option maxRecDepth 100000 in
theorem hpL_87 (A : Nat → List Int32) (F : Nat → Int32) (P : Nat → Nat) (i : Int32) : am_al (heap A F P) 0 197 i = bif am_in i (A 197).length then (A 197)[i.toNatClampNeg]? else none := rfl
set_option maxRecDepth 100000 in
theorem hpL_88 (A : Nat → List Int32) (F : Nat → Int32) (P : Nat → Nat) (i : Int32) : am_al (heap A F P) 0 198 i = bif am_in i (A 198).length then (A 198)[i.toNatClampNeg]? else none := rfl
set_option maxRecDepth 100000 in
theorem hpL_89 (A : Nat → List Int32) (F : Nat → Int32) (P : Nat → Nat) (i : Int32) : am_al (heap A F P) 0 199 i = bif am_in i (A 199).length then (A 199)[i.toNatClampNeg]? else none := rfl
set_option maxRecDepth 100000 in
theorem hpL_90 (A : Nat → List Int32) (F : Nat → Int32) (P : Nat → Nat) (i : Int32) : am_al (heap A F P) 0 200 i = bif am_in i (A 200).length then (A 200)[i.toNatClampNeg]? else none := rfl
set_option maxRecDepth 100000 in
theorem hpL_91 (A : Nat → List Int32) (F : Nat → Int32) (P : Nat → Nat) (i : Int32) : am_al (heap A F P) 0 201 i = bif am_in i (A 201).length then (A 201)[i.toNatClampNeg]? else none := rfl
set_option maxRecDepth 100000 in
theorem hpL_92 (A : Nat → List Int32) (F : Nat → Int32) (P : Nat → Nat) (i : Int32) : am_al (heap A F P) 0 202 i = bif am_in i (A 202).length then (A 202)[i.toNatClampNeg]? else none := rfl
set_option maxRecDepth 100000 in
theorem hpL_93 (A : Nat → List Int32) (F : Nat → Int32) (P : Nat → Nat) (i : Int32) : am_al (heap A F P) 0 203 i = bif am_in i (A 203).length then (A 203)[i.toNatClampNeg]? else none := rfl
set_option maxRecDepth 100000 in
theorem hpL_94 (A : Nat → List Int32) (F : Nat → Int32) (P : Nat → Nat) (i : Int32) : am_al (heap A F P) 0 204 i = bif am_in i (A 204).length then (A 204)[i.toNatClampNeg]? else none := rfl
set_option maxRecDepth 100000 in
theorem hpL_95 (A : Nat → List Int32) (F : Nat → Int32) (P : Nat → Nat) (i : Int32) : am_al (heap A F P) 0 205 i = bif am_in i (A 205).length then (A 205)[i.toNatClampNeg]? else none := rfl
theorem hpL : (∀ (A : Nat → List Int32) (F : Nat → Int32) (P : Nat → Nat) (i : Int32), am_al (heap A F P) 0 5 i = bif am_in i (A 5).length then (A 5)[i.toNatClampNeg]? else none) ∧ (∀ (A : Nat → List Int32) (F : Nat → Int32) (P : Nat → Nat) (i : Int32), am_al (heap A F P) 0 7 i = bif am_in i (A 7).length then (A 7)[i.toNatClampNeg]? else none) ∧ (∀ (A : Nat → List Int32) (F : Nat → Int32) (P : Nat → Nat) (i : Int32), am_al (heap A F P) 0 10 i = bif am_in i (A 10).length then (A 10)[i.toNatClampNeg]? else none) ∧ (∀ (A : Nat → List Int32) (F : Nat → Int32) (P : Nat → Nat) (i : Int32), am_al (heap A F P) 0 12 i = bif am_in i (A 12).length then (A 12)[i.toNatClampNeg]? else none) ∧ (∀ (A : Nat → List Int32) (F : Nat → Int32) (P : Nat → Nat) (i : Int32), am_al (heap A F P) 0 14 i = bif am_in i (A 14).length then (A 14)[i.toNatClampNeg]? else none) ∧ (∀ (A : Nat → List Int32) (F : Nat → Int32) (P : Nat → Nat) (i : Int32), am_al (heap A F P) 0 16 i = bif am_in i (A 16).length then (A 16)[i.toNatClampNeg]? else none) ∧ (∀ (A : Nat → List Int32) (F : Nat → Int32) (P : Nat → Nat) (i : Int32), am_al (heap A F P) 0 18 i = bif am_in i (A 18).length then (A 18)[i.toNatClampNeg]? else none) ∧ (∀ (A : Nat → List Int32) (F : Nat → Int32) (P : Nat → Nat) (i : Int32), am_al (heap A F P) 0 21 i = bif am_in i (A 21).length then (A 21)[i.toNatClampNeg]? else none) ∧ (∀ (A : Nat → List Int32) (F : Nat → Int32) (P : Nat → Nat) (i : Int32), am_al (heap A F P) 0 23 i = bif am_in i (A 23).length then (A 23)[i.toNatClampNeg]? else none) ∧ (∀ (A : Nat → List Int32) (F : Nat → Int32) (P : Nat → Nat) (i : Int32), am_al (heap A F P) 0 25 i = bif am_in i (A 25).length then (A 25)[i.toNatClampNeg]? else none) ∧ (∀ (A : Nat → List Int32) (F : Nat → Int32) (P : Nat → Nat) (i : Int32), am_al (heap A F P) 0 27 i = bif am_in i (A 27).length then (A 27)[i.toNatClampNeg]? else none) ∧ (∀ (A : Nat → List Int32) (F : Nat → Int32) (P : Nat → Nat) (i : Int32), am_al (heap A F P) 0 29 i = bif am_in i (A 29).length then (A 29)[i.toNatClampNeg]? else none) ∧ (∀ (A : Nat → List Int32) (F : Nat → Int32) (P : Nat → Nat) (i : Int32), am_al (heap A F P) 0 31 i = bif am_in i (A 31).length then (A 31)[i.toNatClampNeg]? else none) ∧ (∀ (A : Nat → List Int32) (F : Nat → Int32) (P : Nat → Nat) (i : Int32), am_al (heap A F P) 0 33 i = bif am_in i (A 33).length then (A 33)[i.toNatClampNeg]? else none) ∧ (∀ (A : Nat → List Int32) (F : Nat → Int32) (P : Nat → Nat) (i : Int32), am_al (heap A F P) 0 39 i = bif am_in i (A 39).length then (A 39)[i.toNatClampNeg]? else none) ∧ (∀ (A : Nat → List Int32) (F : Nat → Int32) (P : Nat → Nat) (i : Int32), am_al (heap A F P) 0 41 i = bif am_in i (A 41).length then (A 41)[i.toNatClampNeg]? else none) ∧ (∀ (A : Nat → List Int32) (F : Nat → Int32) (P : Nat → Nat) (i : Int32), am_al (heap A F P) 0 44 i = bif am_in i (A 44).length then (A 44)[i.toNatClampNeg]? else none) ∧ (∀ (A : Nat → List Int32) (F : Nat → Int32) (P : Nat → Nat) (i : Int32), am_al (heap A F P) 0 46 i = bif am_in i (A 46).length then (A 46)[i.toNatClampNeg]? else none) ∧ (∀ (A : Nat → List Int32) (F : Nat → Int32) (P : Nat → Nat) (i : Int32), am_al (heap A F P) 0 48 i = bif am_in i (A 48).length then (A 48)[i.toNatClampNeg]? else none) ∧ (∀ (A : Nat → List Int32) (F : Nat → Int32) (P : Nat → Nat) (i : Int32), am_al (heap A F P) 0 50 i = bif am_in i (A 50).length then (A 50)[i.toNatClampNeg]? else none) ∧ (∀ (A : Nat → List Int32) (F : Nat → Int32) (P : Nat → Nat) (i : Int32), am_al (heap A F P) 0 52 i = bif am_in i (A 52).length then (A 52)[i.toNatClampNeg]? else none) ∧ (∀ (A : Nat → List Int32) (F : Nat → Int32) (P : Nat → Nat) (i : Int32), am_al (heap A F P) 0 55 i = bif am_in i (A 55).length then (A 55)[i.toNatClampNeg]? else none) ∧ (∀ (A : Nat → List Int32) (F : Nat → Int32) (P : Nat → Nat) (i : Int32), am_al (heap A F P) 0 57 i = bif am_in i (A 57).length then (A 57)[i.toNatClampNeg]? else none) ∧ (∀ (A : Nat → List Int32) (F : Nat → Int32) (P : Nat → Nat) (i : Int32), am_al (heap A F P) 0 59 i = bif am_in i (A 59).length then (A 59)[i.toNatClampNeg]? else none) ∧ (∀ (A : Nat → List Int32) (F : Nat → Int32) (P : Nat → Nat) (i : Int32), am_al (heap A F P) 0 61 i = bif am_in i (A 61).length then (A 61)[i.toNatClampNeg]? else none) ∧ (∀ (A : Nat → List Int32) (F : Nat → Int32) (P : Nat → Nat) (i : Int32), am_al (heap A F P) 0 63 i = bif am_in i (A 63).length then (A 63)[i.toNatClampNeg]? else none) ∧ (∀ (A : Nat → List Int32) (F : Nat → Int32) (P : Nat → Nat) (i : Int32), am_al (heap A F P) 0 65 i = bif am_in i (A 65).length then (A 65)[i.toNatClampNeg]? else none) ∧ (∀ (A : Nat → List Int32) (F : Nat → Int32) (P : Nat → Nat) (i : Int32), am_al (heap A F P) 0 67 i = bif am_in i (A 67).length then (A 67)[i.toNatClampNeg]? else none) ∧ (∀ (A : Nat → List Int32) (F : Nat → Int32) (P : Nat → Nat) (i : Int32), am_al (heap A F P) 0 71 i = bif am_in i (A 71).length then (A 71)[i.toNatClampNeg]? else none) ∧ (∀ (A : Nat → List Int32) (F : Nat → Int32) (P : Nat → Nat) (i : Int32), am_al (heap A F P) 0 73 i = bif am_in i (A 73).length then (A 73)[i.toNatClampNeg]? else none) ∧ (∀ (A : Nat → List Int32) (F : Nat → Int32) (P : Nat → Nat) (i : Int32), am_al (heap A F P) 0 76 i = bif am_in i (A 76).length then (A 76)[i.toNatClampNeg]? else none) ∧ (∀ (A : Nat → List Int32) (F : Nat → Int32) (P : Nat → Nat) (i : Int32), am_al (heap A F P) 0 78 i = bif am_in i (A 78).length then (A 78)[i.toNatClampNeg]? else none) ∧ (∀ (A : Nat → List Int32) (F : Nat → Int32) (P : Nat → Nat) (i : Int32), am_al (heap A F P) 0 80 i = bif am_in i (A 80).length then (A 80)[i.toNatClampNeg]? else none) ∧ (∀ (A : Nat → List Int32) (F : Nat → Int32) (P : Nat → Nat) (i : Int32), am_al (heap A F P) 0 82 i = bif am_in i (A 82).length then (A 82)[i.toNatClampNeg]? else none) ∧ (∀ (A : Nat → List Int32) (F : Nat → Int32) (P : Nat → Nat) (i : Int32), am_al (heap A F P) 0 84 i = bif am_in i (A 84).length then (A 84)[i.toNatClampNeg]? else none) ∧ (∀ (A : Nat → List Int32) (F : Nat → Int32) (P : Nat → Nat) (i : Int32), am_al (heap A F P) 0 87 i = bif am_in i (A 87).length then (A 87)[i.toNatClampNeg]? else none) ∧ (∀ (A : Nat → List Int32) (F : Nat → Int32) (P : Nat → Nat) (i : Int32), am_al (heap A F P) 0 89 i = bif am_in i (A 89).length then (A 89)[i.toNatClampNeg]? else none) ∧ (∀ (A : Nat → List Int32) (F : Nat → Int32) (P : Nat → Nat) (i : Int32), am_al (heap A F P) 0 91 i = bif am_in i (A 91).length then (A 91)[i.toNatClampNeg]? else none) ∧ (∀ (A : Nat → List Int32) (F : Nat → Int32) (P : Nat → Nat) (i : Int32), am_al (heap A F P) 0 93 i = bif am_in i (A 93).length then (A 93)[i.toNatClampNeg]? else none) ∧ (∀ (A : Nat → List Int32) (F : Nat → Int32) (P : Nat → Nat) (i : Int32), am_al (heap A F P) 0 95 i = bif am_in i (A 95).length then (A 95)[i.toNatClampNeg]? else none) ∧ (∀ (A : Nat → List Int32) (F : Nat → Int32) (P : Nat → Nat) (i : Int32), am_al (heap A F P) 0 97 i = bif am_in i (A 97).length then (A 97)[i.toNatClampNeg]? else none) ∧ (∀ (A : Nat → List Int32) (F : Nat → Int32) (P : Nat → Nat) (i : Int32), am_al (heap A F P) 0 99 i = bif am_in i (A 99).length then (A 99)[i.toNatClampNeg]? else none) ∧ (∀ (A : Nat → List Int32) (F : Nat → Int32) (P : Nat → Nat) (i : Int32), am_al (heap A F P) 0 103 i = bif am_in i (A 103).length then (A 103)[i.toNatClampNeg]? else none) ∧ (∀ (A : Nat → List Int32) (F : Nat → Int32) (P : Nat → Nat) (i : Int32), am_al (heap A F P) 0 105 i = bif am_in i (A 105).length then (A 105)[i.toNatClampNeg]? else none) ∧ (∀ (A : Nat → List Int32) (F : Nat → Int32) (P : Nat → Nat) (i : Int32), am_al (heap A F P) 0 108 i = bif am_in i (A 108).length then (A 108)[i.toNatClampNeg]? else none) ∧ (∀ (A : Nat → List Int32) (F : Nat → Int32) (P : Nat → Nat) (i : Int32), am_al (heap A F P) 0 110 i = bif am_in i (A 110).length then (A 110)[i.toNatClampNeg]? else none) ∧ (∀ (A : Nat → List Int32) (F : Nat → Int32) (P : Nat → Nat) (i : Int32), am_al (heap A F P) 0 112 i = bif am_in i (A 112).length then (A 112)[i.toNatClampNeg]? else none) ∧ (∀ (A : Nat → List Int32) (F : Nat → Int32) (P : Nat → Nat) (i : Int32), am_al (heap A F P) 0 114 i = bif am_in i (A 114).length then (A 114)[i.toNatClampNeg]? else none) ∧ (∀ (A : Nat → List Int32) (F : Nat → Int32) (P : Nat → Nat) (i : Int32), am_al (heap A F P) 0 116 i = bif am_in i (A 116).length then (A 116)[i.toNatClampNeg]? else none) ∧ (∀ (A : Nat → List Int32) (F : Nat → Int32) (P : Nat → Nat) (i : Int32), am_al (heap A F P) 0 119 i = bif am_in i (A 119).length then (A 119)[i.toNatClampNeg]? else none) ∧ (∀ (A : Nat → List Int32) (F : Nat → Int32) (P : Nat → Nat) (i : Int32), am_al (heap A F P) 0 121 i = bif am_in i (A 121).length then (A 121)[i.toNatClampNeg]? else none) ∧ (∀ (A : Nat → List Int32) (F : Nat → Int32) (P : Nat → Nat) (i : Int32), am_al (heap A F P) 0 123 i = bif am_in i (A 123).length then (A 123)[i.toNatClampNeg]? else none) ∧ (∀ (A : Nat → List Int32) (F : Nat → Int32) (P : Nat → Nat) (i : Int32), am_al (heap A F P) 0 125 i = bif am_in i (A 125).length then (A 125)[i.toNatClampNeg]? else none) ∧ (∀ (A : Nat → List Int32) (F : Nat → Int32) (P : Nat → Nat) (i : Int32), am_al (heap A F P) 0 127 i = bif am_in i (A 127).length then (A 127)[i.toNatClampNeg]? else none) ∧ (∀ (A : Nat → List Int32) (F : Nat → Int32) (P : Nat → Nat) (i : Int32), am_al (heap A F P) 0 129 i = bif am_in i (A 129).length then (A 129)[i.toNatClampNeg]? else none) ∧ (∀ (A : Nat → List Int32) (F : Nat → Int32) (P : Nat → Nat) (i : Int32), am_al (heap A F P) 0 131 i = bif am_in i (A 131).length then (A 131)[i.toNatClampNeg]? else none) ∧ (∀ (A : Nat → List Int32) (F : Nat → Int32) (P : Nat → Nat) (i : Int32), am_al (heap A F P) 0 135 i = bif am_in i (A 135).length then (A 135)[i.toNatClampNeg]? else none) ∧ (∀ (A : Nat → List Int32) (F : Nat → Int32) (P : Nat → Nat) (i : Int32), am_al (heap A F P) 0 137 i = bif am_in i (A 137).length then (A 137)[i.toNatClampNeg]? else none) ∧ (∀ (A : Nat → List Int32) (F : Nat → Int32) (P : Nat → Nat) (i : Int32), am_al (heap A F P) 0 140 i = bif am_in i (A 140).length then (A 140)[i.toNatClampNeg]? else none) ∧ (∀ (A : Nat → List Int32) (F : Nat → Int32) (P : Nat → Nat) (i : Int32), am_al (heap A F P) 0 142 i = bif am_in i (A 142).length then (A 142)[i.toNatClampNeg]? else none) ∧ (∀ (A : Nat → List Int32) (F : Nat → Int32) (P : Nat → Nat) (i : Int32), am_al (heap A F P) 0 144 i = bif am_in i (A 144).length then (A 144)[i.toNatClampNeg]? else none) ∧ (∀ (A : Nat → List Int32) (F : Nat → Int32) (P : Nat → Nat) (i : Int32), am_al (heap A F P) 0 146 i = bif am_in i (A 146).length then (A 146)[i.toNatClampNeg]? else none) ∧ (∀ (A : Nat → List Int32) (F : Nat → Int32) (P : Nat → Nat) (i : Int32), am_al (heap A F P) 0 148 i = bif am_in i (A 148).length then (A 148)[i.toNatClampNeg]? else none) ∧ (∀ (A : Nat → List Int32) (F : Nat → Int32) (P : Nat → Nat) (i : Int32), am_al (heap A F P) 0 151 i = bif am_in i (A 151).length then (A 151)[i.toNatClampNeg]? else none) ∧ (∀ (A : Nat → List Int32) (F : Nat → Int32) (P : Nat → Nat) (i : Int32), am_al (heap A F P) 0 153 i = bif am_in i (A 153).length then (A 153)[i.toNatClampNeg]? else none) ∧ (∀ (A : Nat → List Int32) (F : Nat → Int32) (P : Nat → Nat) (i : Int32), am_al (heap A F P) 0 155 i = bif am_in i (A 155).length then (A 155)[i.toNatClampNeg]? else none) ∧ (∀ (A : Nat → List Int32) (F : Nat → Int32) (P : Nat → Nat) (i : Int32), am_al (heap A F P) 0 157 i = bif am_in i (A 157).length then (A 157)[i.toNatClampNeg]? else none) ∧ (∀ (A : Nat → List Int32) (F : Nat → Int32) (P : Nat → Nat) (i : Int32), am_al (heap A F P) 0 159 i = bif am_in i (A 159).length then (A 159)[i.toNatClampNeg]? else none) ∧ (∀ (A : Nat → List Int32) (F : Nat → Int32) (P : Nat → Nat) (i : Int32), am_al (heap A F P) 0 161 i = bif am_in i (A 161).length then (A 161)[i.toNatClampNeg]? else none) ∧ (∀ (A : Nat → List Int32) (F : Nat → Int32) (P : Nat → Nat) (i : Int32), am_al (heap A F P) 0 163 i = bif am_in i (A 163).length then (A 163)[i.toNatClampNeg]? else none) ∧ (∀ (A : Nat → List Int32) (F : Nat → Int32) (P : Nat → Nat) (i : Int32), am_al (heap A F P) 0 166 i = bif am_in i (A 166).length then (A 166)[i.toNatClampNeg]? else none) ∧ (∀ (A : Nat → List Int32) (F : Nat → Int32) (P : Nat → Nat) (i : Int32), am_al (heap A F P) 0 168 i = bif am_in i (A 168).length then (A 168)[i.toNatClampNeg]? else none) ∧ (∀ (A : Nat → List Int32) (F : Nat → Int32) (P : Nat → Nat) (i : Int32), am_al (heap A F P) 0 170 i = bif am_in i (A 170).length then (A 170)[i.toNatClampNeg]? else none) ∧ (∀ (A : Nat → List Int32) (F : Nat → Int32) (P : Nat → Nat) (i : Int32), am_al (heap A F P) 0 172 i = bif am_in i (A 172).length then (A 172)[i.toNatClampNeg]? else none) ∧ (∀ (A : Nat → List Int32) (F : Nat → Int32) (P : Nat → Nat) (i : Int32), am_al (heap A F P) 0 174 i = bif am_in i (A 174).length then (A 174)[i.toNatClampNeg]? else none) ∧ (∀ (A : Nat → List Int32) (F : Nat → Int32) (P : Nat → Nat) (i : Int32), am_al (heap A F P) 0 176 i = bif am_in i (A 176).length then (A 176)[i.toNatClampNeg]? else none) ∧ (∀ (A : Nat → List Int32) (F : Nat → Int32) (P : Nat → Nat) (i : Int32), am_al (heap A F P) 0 178 i = bif am_in i (A 178).length then (A 178)[i.toNatClampNeg]? else none) ∧ (∀ (A : Nat → List Int32) (F : Nat → Int32) (P : Nat → Nat) (i : Int32), am_al (heap A F P) 0 180 i = bif am_in i (A 180).length then (A 180)[i.toNatClampNeg]? else none) ∧ (∀ (A : Nat → List Int32) (F : Nat → Int32) (P : Nat → Nat) (i : Int32), am_al (heap A F P) 0 182 i = bif am_in i (A 182).length then (A 182)[i.toNatClampNeg]? else none) ∧ (∀ (A : Nat → List Int32) (F : Nat → Int32) (P : Nat → Nat) (i : Int32), am_al (heap A F P) 1 185 i = bif am_in i (A 185).length then (A 185)[i.toNatClampNeg]? else none) ∧ (∀ (A : Nat → List Int32) (F : Nat → Int32) (P : Nat → Nat) (i : Int32), am_al (heap A F P) 0 187 i = bif am_in i (A 187).length then (A 187)[i.toNatClampNeg]? else none) ∧ (∀ (A : Nat → List Int32) (F : Nat → Int32) (P : Nat → Nat) (i : Int32), am_al (heap A F P) 0 189 i = bif am_in i (A 189).length then (A 189)[i.toNatClampNeg]? else none) ∧ (∀ (A : Nat → List Int32) (F : Nat → Int32) (P : Nat → Nat) (i : Int32), am_al (heap A F P) 0 191 i = bif am_in i (A 191).length then (A 191)[i.toNatClampNeg]? else none) ∧ (∀ (A : Nat → List Int32) (F : Nat → Int32) (P : Nat → Nat) (i : Int32), am_al (heap A F P) 0 193 i = bif am_in i (A 193).length then (A 193)[i.toNatClampNeg]? else none) ∧ (∀ (A : Nat → List Int32) (F : Nat → Int32) (P : Nat → Nat) (i : Int32), am_al (heap A F P) 0 194 i = bif am_in i (A 194).length then (A 194)[i.toNatClampNeg]? else none) ∧ (∀ (A : Nat → List Int32) (F : Nat → Int32) (P : Nat → Nat) (i : Int32), am_al (heap A F P) 1 195 i = bif am_in i (A 195).length then (A 195)[i.toNatClampNeg]? else none) ∧ (∀ (A : Nat → List Int32) (F : Nat → Int32) (P : Nat → Nat) (i : Int32), am_al (heap A F P) 0 196 i = bif am_in i (A 196).length then (A 196)[i.toNatClampNeg]? else none) ∧ (∀ (A : Nat → List Int32) (F : Nat → Int32) (P : Nat → Nat) (i : Int32), am_al (heap A F P) 0 197 i = bif am_in i (A 197).length then (A 197)[i.toNatClampNeg]? else none) ∧ (∀ (A : Nat → List Int32) (F : Nat → Int32) (P : Nat → Nat) (i : Int32), am_al (heap A F P) 0 198 i = bif am_in i (A 198).length then (A 198)[i.toNatClampNeg]? else none) ∧ (∀ (A : Nat → List Int32) (F : Nat → Int32) (P : Nat → Nat) (i : Int32), am_al (heap A F P) 0 199 i = bif am_in i (A 199).length then (A 199)[i.toNatClampNeg]? else none) ∧ (∀ (A : Nat → List Int32) (F : Nat → Int32) (P : Nat → Nat) (i : Int32), am_al (heap A F P) 0 200 i = bif am_in i (A 200).length then (A 200)[i.toNatClampNeg]? else none) ∧ (∀ (A : Nat → List Int32) (F : Nat → Int32) (P : Nat → Nat) (i : Int32), am_al (heap A F P) 0 201 i = bif am_in i (A 201).length then (A 201)[i.toNatClampNeg]? else none) ∧ (∀ (A : Nat → List Int32) (F : Nat → Int32) (P : Nat → Nat) (i : Int32), am_al (heap A F P) 0 202 i = bif am_in i (A 202).length then (A 202)[i.toNatClampNeg]? else none) ∧ (∀ (A : Nat → List Int32) (F : Nat → Int32) (P : Nat → Nat) (i : Int32), am_al (heap A F P) 0 203 i = bif am_in i (A 203).length then (A 203)[i.toNatClampNeg]? else none) ∧ (∀ (A : Nat → List Int32) (F : Nat → Int32) (P : Nat → Nat) (i : Int32), am_al (heap A F P) 0 204 i = bif am_in i (A 204).length then (A 204)[i.toNatClampNeg]? else none) ∧ (∀ (A : Nat → List Int32) (F : Nat → Int32) (P : Nat → Nat) (i : Int32), am_al (heap A F P) 0 205 i = bif am_in i (A 205).length then (A 205)[i.toNatClampNeg]? else none) := ⟨hpL_0, hpL_1, hpL_2, hpL_3, hpL_4, hpL_5, hpL_6, hpL_7, hpL_8, hpL_9, hpL_10, hpL_11, hpL_12, hpL_13, hpL_14, hpL_15, hpL_16, hpL_17, hpL_18, hpL_19, hpL_20, hpL_21, hpL_22, hpL_23, hpL_24, hpL_25, hpL_26, hpL_27, hpL_28, hpL_29, hpL_30, hpL_31, hpL_32, hpL_33, hpL_34, hpL_35, hpL_36, hpL_37, hpL_38, hpL_39, hpL_40, hpL_41, hpL_42, hpL_43, hpL_44, hpL_45, hpL_46, hpL_47, hpL_48, hpL_49, hpL_50, hpL_51, hpL_52, hpL_53, hpL_54, hpL_55, hpL_56, hpL_57, hpL_58, hpL_59, hpL_60, hpL_61, hpL_62, hpL_63, hpL_64, hpL_65, hpL_66, hpL_67, hpL_68, hpL_69, hpL_70, hpL_71, hpL_72, hpL_73, hpL_74, hpL_75, hpL_76, hpL_77, hpL_78, hpL_79, hpL_80, hpL_81, hpL_82, hpL_83, hpL_84, hpL_85, hpL_86, hpL_87, hpL_88, hpL_89, hpL_90, hpL_91, hpL_92, hpL_93, hpL_94, hpL_95⟩
set_option maxRecDepth 100000 in
theorem hpF_0 (A : Nat → List Int32) (F : Nat → Int32) (P : Nat → Nat) (v : Int32) : am_pf (heap A F P) 2 7 3 (.int v) = some (heap A (up F 203 v) P) := rfl
set_option maxRecDepth 100000 in
theorem hpF_1 (A : Nat → List Int32) (F : Nat → Int32) (P : Nat → Nat) (v : Int32) : am_pf (heap A F P) 3 8 2 (.int v) = some (heap A (up F 302 v) P) := rfl
set_option maxRecDepth 100000 in
theorem hpF_2 (A : Nat → List Int32) (F : Nat → Int32) (P : Nat → Nat) (v : Int32) : am_pf (heap A F P) 8 3 4 (.int v) = some (heap A (up F 804 v) P) := rfl
set_option maxRecDepth 100000 in
theorem hpF_3 (A : Nat → List Int32) (F : Nat → Int32) (P : Nat → Nat) (v : Int32) : am_pf (heap A F P) 19 0 6 (.int v) = some (heap A (up F 1906 v) P) := rfl
set_option maxRecDepth 100000 in
theorem hpF_4 (A : Nat → List Int32) (F : Nat → Int32) (P : Nat → Nat) (v : Int32) : am_pf (heap A F P) 34 1 1 (.int v) = some (heap A (up F 3401 v) P) := rfl
set_option maxRecDepth 100000 in
theorem hpF_5 (A : Nat → List Int32) (F : Nat → Int32) (P : Nat → Nat) (v : Int32) : am_pf (heap A F P) 36 7 3 (.int v) = some (heap A (up F 3603 v) P) := rfl
set_option maxRecDepth 100000 in
theorem hpF_6 (A : Nat → List Int32) (F : Nat → Int32) (P : Nat → Nat) (v : Int32) : am_pf (heap A F P) 37 8 2 (.int v) = some (heap A (up F 3702 v) P) := rfl
set_option maxRecDepth 100000 in
theorem hpF_7 (A : Nat → List Int32) (F : Nat → Int32) (P : Nat → Nat) (v : Int32) : am_pf (heap A F P) 42 3 4 (.int v) = some (heap A (up F 4204 v) P) := rfl
set_option maxRecDepth 100000 in
theorem hpF_8 (A : Nat → List Int32) (F : Nat → Int32) (P : Nat → Nat) (v : Int32) : am_pf (heap A F P) 53 0 6 (.int v) = some (heap A (up F 5306 v) P) := rfl
set_option maxRecDepth 100000 in
theorem hpF_9 (A : Nat → List Int32) (F : Nat → Int32) (P : Nat → Nat) (v : Int32) : am_pf (heap A F P) 68 7 3 (.int v) = some (heap A (up F 6803 v) P) := rfl
set_option maxRecDepth 100000 in
theorem hpF_10 (A : Nat → List Int32) (F : Nat → Int32) (P : Nat → Nat) (v : Int32) : am_pf (heap A F P) 69 8 2 (.int v) = some (heap A (up F 6902 v) P) := rfl
set_option maxRecDepth 100000 in
theorem hpF_11 (A : Nat → List Int32) (F : Nat → Int32) (P : Nat → Nat) (v : Int32) : am_pf (heap A F P) 74 3 4 (.int v) = some (heap A (up F 7404 v) P) := rfl
set_option maxRecDepth 100000 in
theorem hpF_12 (A : Nat → List Int32) (F : Nat → Int32) (P : Nat → Nat) (v : Int32) : am_pf (heap A F P) 85 0 6 (.int v) = some (heap A (up F 8506 v) P) := rfl
set_option maxRecDepth 100000 in
theorem hpF_13 (A : Nat → List Int32) (F : Nat → Int32) (P : Nat → Nat) (v : Int32) : am_pf (heap A F P) 100 7 3 (.int v) = some (heap A (up F 10003 v) P) := rfl
set_option maxRecDepth 100000 in
theorem hpF_14 (A : Nat → List Int32) (F : Nat → Int32) (P : Nat → Nat) (v : Int32) : am_pf (heap A F P) 101 8 2 (.int v) = some (heap A (up F 10102 v) P) := rfl
set_option maxRecDepth 100000 in
theorem hpF_15 (A : Nat → List Int32) (F : Nat → Int32) (P : Nat → Nat) (v : Int32) : am_pf (heap A F P) 106 3 4 (.int v) = some (heap A (up F 10604 v) P) := rfl
set_option maxRecDepth 100000 in
theorem hpF_16 (A : Nat → List Int32) (F : Nat → Int32) (P : Nat → Nat) (v : Int32) : am_pf (heap A F P) 117 0 6 (.int v) = some (heap A (up F 11706 v) P) := rfl
set_option maxRecDepth 100000 in
theorem hpF_17 (A : Nat → List Int32) (F : Nat → Int32) (P : Nat → Nat) (v : Int32) : am_pf (heap A F P) 132 7 3 (.int v) = some (heap A (up F 13203 v) P) := rfl
set_option maxRecDepth 100000 in
theorem hpF_18 (A : Nat → List Int32) (F : Nat → Int32) (P : Nat → Nat) (v : Int32) : am_pf (heap A F P) 133 8 2 (.int v) = some (heap A (up F 13302 v) P) := rfl
set_option maxRecDepth 100000 in
theorem hpF_19 (A : Nat → List Int32) (F : Nat → Int32) (P : Nat → Nat) (v : Int32) : am_pf (heap A F P) 138 3 4 (.int v) = some (heap A (up F 13804 v) P) := rfl
set_option maxRecDepth 100000 in
theorem hpF_20 (A : Nat → List Int32) (F : Nat → Int32) (P : Nat → Nat) (v : Int32) : am_pf (heap A F P) 149 0 6 (.int v) = some (heap A (up F 14906 v) P) := rfl
set_option maxRecDepth 100000 in
theorem hpF_21 (A : Nat → List Int32) (F : Nat → Int32) (P : Nat → Nat) (v : Int32) : am_pf (heap A F P) 164 6 10 (.int v) = some (heap A (up F 16410 v) P) := rfl
set_option maxRecDepth 100000 in
theorem hpF_22 (A : Nat → List Int32) (F : Nat → Int32) (P : Nat → Nat) (v : Int32) : am_pf (heap A F P) 184 2 1 (.int v) = some (heap A (up F 18401 v) P) := rfl
set_option maxRecDepth 100000 in
theorem hpF_23 (A : Nat → List Int32) (F : Nat → Int32) (P : Nat → Nat) (v : Int32) : am_pf (heap A F P) 184 2 5 (.int v) = some (heap A (up F 18405 v) P) := rfl
set_option maxRecDepth 100000 in
theorem hpF_24 (A : Nat → List Int32) (F : Nat → Int32) (P : Nat → Nat) (v : Int32) : am_pf (heap A F P) 184 2 6 (.int v) = some (heap A (up F 18406 v) P) := rfl
set_option maxRecDepth 100000 in
theorem hpF_25 (A : Nat → List Int32) (F : Nat → Int32) (P : Nat → Nat) (v : Int32) : am_pf (heap A F P) 184 2 7 (.int v) = some (heap A (up F 18407 v) P) := rfl
set_option maxRecDepth 100000 in
theorem hpF_26 (A : Nat → List Int32) (F : Nat → Int32) (P : Nat → Nat) (v : Int32) : am_pf (heap A F P) 184 2 8 (.int v) = some (heap A (up F 18408 v) P) := rfl
set_option maxRecDepth 100000 in
theorem hpF_27 (A : Nat → List Int32) (F : Nat → Int32) (P : Nat → Nat) (v : Int32) : am_pf (heap A F P) 184 2 9 (.int v) = some (heap A (up F 18409 v) P) := rfl
set_option maxRecDepth 100000 in
theorem hpF_28 (A : Nat → List Int32) (F : Nat → Int32) (P : Nat → Nat) (v : Int32) : am_pf (heap A F P) 192 10 2 (.int v) = some (heap A (up F 19202 v) P) := rfl
set_option maxRecDepth 100000 in
theorem hpF_29 (A : Nat → List Int32) (F : Nat → Int32) (P : Nat → Nat) (v : Int32) : am_pf (heap A F P) 192 10 3 (.int v) = some (heap A (up F 19203 v) P) := rfl
set_option maxRecDepth 100000 in
theorem hpF_30 (A : Nat → List Int32) (F : Nat → Int32) (P : Nat → Nat) (v : Int32) : am_pf (heap A F P) 192 10 5 (.int v) = some (heap A (up F 19205 v) P) := rfl
set_option maxRecDepth 100000 in
theorem hpF_31 (A : Nat → List Int32) (F : Nat → Int32) (P : Nat → Nat) (v : Int32) : am_pf (heap A F P) 192 10 6 (.int v) = some (heap A (up F 19206 v) P) := rfl
set_option maxRecDepth 100000 in
theorem hpF_32 (A : Nat → List Int32) (F : Nat → Int32) (P : Nat → Nat) (v : Int32) : am_pf (heap A F P) 192 10 7 (.int v) = some (heap A (up F 19207 v) P) := rfl
theorem hpF : (∀ (A : Nat → List Int32) (F : Nat → Int32) (P : Nat → Nat) (v : Int32), am_pf (heap A F P) 2 7 3 (.int v) = some (heap A (up F 203 v) P)) ∧ (∀ (A : Nat → List Int32) (F : Nat → Int32) (P : Nat → Nat) (v : Int32), am_pf (heap A F P) 3 8 2 (.int v) = some (heap A (up F 302 v) P)) ∧ (∀ (A : Nat → List Int32) (F : Nat → Int32) (P : Nat → Nat) (v : Int32), am_pf (heap A F P) 8 3 4 (.int v) = some (heap A (up F 804 v) P)) ∧ (∀ (A : Nat → List Int32) (F : Nat → Int32) (P : Nat → Nat) (v : Int32), am_pf (heap A F P) 19 0 6 (.int v) = some (heap A (up F 1906 v) P)) ∧ (∀ (A : Nat → List Int32) (F : Nat → Int32) (P : Nat → Nat) (v : Int32), am_pf (heap A F P) 34 1 1 (.int v) = some (heap A (up F 3401 v) P)) ∧ (∀ (A : Nat → List Int32) (F : Nat → Int32) (P : Nat → Nat) (v : Int32), am_pf (heap A F P) 36 7 3 (.int v) = some (heap A (up F 3603 v) P)) ∧ (∀ (A : Nat → List Int32) (F : Nat → Int32) (P : Nat → Nat) (v : Int32), am_pf (heap A F P) 37 8 2 (.int v) = some (heap A (up F 3702 v) P)) ∧ (∀ (A : Nat → List Int32) (F : Nat → Int32) (P : Nat → Nat) (v : Int32), am_pf (heap A F P) 42 3 4 (.int v) = some (heap A (up F 4204 v) P)) ∧ (∀ (A : Nat → List Int32) (F : Nat → Int32) (P : Nat → Nat) (v : Int32), am_pf (heap A F P) 53 0 6 (.int v) = some (heap A (up F 5306 v) P)) ∧ (∀ (A : Nat → List Int32) (F : Nat → Int32) (P : Nat → Nat) (v : Int32), am_pf (heap A F P) 68 7 3 (.int v) = some (heap A (up F 6803 v) P)) ∧ (∀ (A : Nat → List Int32) (F : Nat → Int32) (P : Nat → Nat) (v : Int32), am_pf (heap A F P) 69 8 2 (.int v) = some (heap A (up F 6902 v) P)) ∧ (∀ (A : Nat → List Int32) (F : Nat → Int32) (P : Nat → Nat) (v : Int32), am_pf (heap A F P) 74 3 4 (.int v) = some (heap A (up F 7404 v) P)) ∧ (∀ (A : Nat → List Int32) (F : Nat → Int32) (P : Nat → Nat) (v : Int32), am_pf (heap A F P) 85 0 6 (.int v) = some (heap A (up F 8506 v) P)) ∧ (∀ (A : Nat → List Int32) (F : Nat → Int32) (P : Nat → Nat) (v : Int32), am_pf (heap A F P) 100 7 3 (.int v) = some (heap A (up F 10003 v) P)) ∧ (∀ (A : Nat → List Int32) (F : Nat → Int32) (P : Nat → Nat) (v : Int32), am_pf (heap A F P) 101 8 2 (.int v) = some (heap A (up F 10102 v) P)) ∧ (∀ (A : Nat → List Int32) (F : Nat → Int32) (P : Nat → Nat) (v : Int32), am_pf (heap A F P) 106 3 4 (.int v) = some (heap A (up F 10604 v) P)) ∧ (∀ (A : Nat → List Int32) (F : Nat → Int32) (P : Nat → Nat) (v : Int32), am_pf (heap A F P) 117 0 6 (.int v) = some (heap A (up F 11706 v) P)) ∧ (∀ (A : Nat → List Int32) (F : Nat → Int32) (P : Nat → Nat) (v : Int32), am_pf (heap A F P) 132 7 3 (.int v) = some (heap A (up F 13203 v) P)) ∧ (∀ (A : Nat → List Int32) (F : Nat → Int32) (P : Nat → Nat) (v : Int32), am_pf (heap A F P) 133 8 2 (.int v) = some (heap A (up F 13302 v) P)) ∧ (∀ (A : Nat → List Int32) (F : Nat → Int32) (P : Nat → Nat) (v : Int32), am_pf (heap A F P) 138 3 4 (.int v) = some (heap A (up F 13804 v) P)) ∧ (∀ (A : Nat → List Int32) (F : Nat → Int32) (P : Nat → Nat) (v : Int32), am_pf (heap A F P) 149 0 6 (.int v) = some (heap A (up F 14906 v) P)) ∧ (∀ (A : Nat → List Int32) (F : Nat → Int32) (P : Nat → Nat) (v : Int32), am_pf (heap A F P) 164 6 10 (.int v) = some (heap A (up F 16410 v) P)) ∧ (∀ (A : Nat → List Int32) (F : Nat → Int32) (P : Nat → Nat) (v : Int32), am_pf (heap A F P) 184 2 1 (.int v) = some (heap A (up F 18401 v) P)) ∧ (∀ (A : Nat → List Int32) (F : Nat → Int32) (P : Nat → Nat) (v : Int32), am_pf (heap A F P) 184 2 5 (.int v) = some (heap A (up F 18405 v) P)) ∧ (∀ (A : Nat → List Int32) (F : Nat → Int32) (P : Nat → Nat) (v : Int32), am_pf (heap A F P) 184 2 6 (.int v) = some (heap A (up F 18406 v) P)) ∧ (∀ (A : Nat → List Int32) (F : Nat → Int32) (P : Nat → Nat) (v : Int32), am_pf (heap A F P) 184 2 7 (.int v) = some (heap A (up F 18407 v) P)) ∧ (∀ (A : Nat → List Int32) (F : Nat → Int32) (P : Nat → Nat) (v : Int32), am_pf (heap A F P) 184 2 8 (.int v) = some (heap A (up F 18408 v) P)) ∧ (∀ (A : Nat → List Int32) (F : Nat → Int32) (P : Nat → Nat) (v : Int32), am_pf (heap A F P) 184 2 9 (.int v) = some (heap A (up F 18409 v) P)) ∧ (∀ (A : Nat → List Int32) (F : Nat → Int32) (P : Nat → Nat) (v : Int32), am_pf (heap A F P) 192 10 2 (.int v) = some (heap A (up F 19202 v) P)) ∧ (∀ (A : Nat → List Int32) (F : Nat → Int32) (P : Nat → Nat) (v : Int32), am_pf (heap A F P) 192 10 3 (.int v) = some (heap A (up F 19203 v) P)) ∧ (∀ (A : Nat → List Int32) (F : Nat → Int32) (P : Nat → Nat) (v : Int32), am_pf (heap A F P) 192 10 5 (.int v) = some (heap A (up F 19205 v) P)) ∧ (∀ (A : Nat → List Int32) (F : Nat → Int32) (P : Nat → Nat) (v : Int32), am_pf (heap A F P) 192 10 6 (.int v) = some (heap A (up F 19206 v) P)) ∧ (∀ (A : Nat → List Int32) (F : Nat → Int32) (P : Nat → Nat) (v : Int32), am_pf (heap A F P) 192 10 7 (.int v) = some (heap A (up F 19207 v) P)) := ⟨hpF_0, hpF_1, hpF_2, hpF_3, hpF_4, hpF_5, hpF_6, hpF_7, hpF_8, hpF_9, hpF_10, hpF_11, hpF_12, hpF_13, hpF_14, hpF_15, hpF_16, hpF_17, hpF_18, hpF_19, hpF_20, hpF_21, hpF_22, hpF_23, hpF_24, hpF_25, hpF_26, hpF_27, hpF_28, hpF_29, hpF_30, hpF_31, hpF_32⟩
set_option maxRecDepth 100000 in
theorem hpS_0 (A : Nat → List Int32) (F : Nat → Int32) (P : Nat → Nat) (i v : Int32) : am_as (heap A F P) 0 5 i v = bif am_in i (A 5).length then some (heap (up A 5 ((A 5).set i.toNatClampNeg v)) F P) else none := rfl
set_option maxRecDepth 100000 in
theorem hpS_1 (A : Nat → List Int32) (F : Nat → Int32) (P : Nat → Nat) (i v : Int32) : am_as (heap A F P) 0 7 i v = bif am_in i (A 7).length then some (heap (up A 7 ((A 7).set i.toNatClampNeg v)) F P) else none := rfl
set_option maxRecDepth 100000 in
theorem hpS_2 (A : Nat → List Int32) (F : Nat → Int32) (P : Nat → Nat) (i v : Int32) : am_as (heap A F P) 0 10 i v = bif am_in i (A 10).length then some (heap (up A 10 ((A 10).set i.toNatClampNeg v)) F P) else none := rfl
set_option maxRecDepth 100000 in
theorem hpS_3 (A : Nat → List Int32) (F : Nat → Int32) (P : Nat → Nat) (i v : Int32) : am_as (heap A F P) 0 12 i v = bif am_in i (A 12).length then some (heap (up A 12 ((A 12).set i.toNatClampNeg v)) F P) else none := rfl
set_option maxRecDepth 100000 in
theorem hpS_4 (A : Nat → List Int32) (F : Nat → Int32) (P : Nat → Nat) (i v : Int32) : am_as (heap A F P) 0 14 i v = bif am_in i (A 14).length then some (heap (up A 14 ((A 14).set i.toNatClampNeg v)) F P) else none := rfl
set_option maxRecDepth 100000 in
theorem hpS_5 (A : Nat → List Int32) (F : Nat → Int32) (P : Nat → Nat) (i v : Int32) : am_as (heap A F P) 0 16 i v = bif am_in i (A 16).length then some (heap (up A 16 ((A 16).set i.toNatClampNeg v)) F P) else none := rfl
set_option maxRecDepth 100000 in
theorem hpS_6 (A : Nat → List Int32) (F : Nat → Int32) (P : Nat → Nat) (i v : Int32) : am_as (heap A F P) 0 18 i v = bif am_in i (A 18).length then some (heap (up A 18 ((A 18).set i.toNatClampNeg v)) F P) else none := rfl
set_option maxRecDepth 100000 in
theorem hpS_7 (A : Nat → List Int32) (F : Nat → Int32) (P : Nat → Nat) (i v : Int32) : am_as (heap A F P) 0 21 i v = bif am_in i (A 21).length then some (heap (up A 21 ((A 21).set i.toNatClampNeg v)) F P) else none := rfl
set_option maxRecDepth 100000 in
theorem hpS_8 (A : Nat → List Int32) (F : Nat → Int32) (P : Nat → Nat) (i v : Int32) : am_as (heap A F P) 0 23 i v = bif am_in i (A 23).length then some (heap (up A 23 ((A 23).set i.toNatClampNeg v)) F P) else none := rfl
set_option maxRecDepth 100000 in
theorem hpS_9 (A : Nat → List Int32) (F : Nat → Int32) (P : Nat → Nat) (i v : Int32) : am_as (heap A F P) 0 25 i v = bif am_in i (A 25).length then some (heap (up A 25 ((A 25).set i.toNatClampNeg v)) F P) else none := rfl
set_option maxRecDepth 100000 in
theorem hpS_10 (A : Nat → List Int32) (F : Nat → Int32) (P : Nat → Nat) (i v : Int32) : am_as (heap A F P) 0 27 i v = bif am_in i (A 27).length then some (heap (up A 27 ((A 27).set i.toNatClampNeg v)) F P) else none := rfl
set_option maxRecDepth 100000 in
theorem hpS_11 (A : Nat → List Int32) (F : Nat → Int32) (P : Nat → Nat) (i v : Int32) : am_as (heap A F P) 0 29 i v = bif am_in i (A 29).length then some (heap (up A 29 ((A 29).set i.toNatClampNeg v)) F P) else none := rfl
set_option maxRecDepth 100000 in
theorem hpS_12 (A : Nat → List Int32) (F : Nat → Int32) (P : Nat → Nat) (i v : Int32) : am_as (heap A F P) 0 31 i v = bif am_in i (A 31).length then some (heap (up A 31 ((A 31).set i.toNatClampNeg v)) F P) else none := rfl
set_option maxRecDepth 100000 in
theorem hpS_13 (A : Nat → List Int32) (F : Nat → Int32) (P : Nat → Nat) (i v : Int32) : am_as (heap A F P) 0 33 i v = bif am_in i (A 33).length then some (heap (up A 33 ((A 33).set i.toNatClampNeg v)) F P) else none := rfl
set_option maxRecDepth 100000 in
theorem hpS_14 (A : Nat → List Int32) (F : Nat → Int32) (P : Nat → Nat) (i v : Int32) : am_as (heap A F P) 0 39 i v = bif am_in i (A 39).length then some (heap (up A 39 ((A 39).set i.toNatClampNeg v)) F P) else none := rfl
set_option maxRecDepth 100000 in
theorem hpS_15 (A : Nat → List Int32) (F : Nat → Int32) (P : Nat → Nat) (i v : Int32) : am_as (heap A F P) 0 41 i v = bif am_in i (A 41).length then some (heap (up A 41 ((A 41).set i.toNatClampNeg v)) F P) else none := rfl
set_option maxRecDepth 100000 in
theorem hpS_16 (A : Nat → List Int32) (F : Nat → Int32) (P : Nat → Nat) (i v : Int32) : am_as (heap A F P) 0 44 i v = bif am_in i (A 44).length then some (heap (up A 44 ((A 44).set i.toNatClampNeg v)) F P) else none := rfl
set_option maxRecDepth 100000 in
theorem hpS_17 (A : Nat → List Int32) (F : Nat → Int32) (P : Nat → Nat) (i v : Int32) : am_as (heap A F P) 0 46 i v = bif am_in i (A 46).length then some (heap (up A 46 ((A 46).set i.toNatClampNeg v)) F P) else none := rfl
set_option maxRecDepth 100000 in
theorem hpS_18 (A : Nat → List Int32) (F : Nat → Int32) (P : Nat → Nat) (i v : Int32) : am_as (heap A F P) 0 48 i v = bif am_in i (A 48).length then some (heap (up A 48 ((A 48).set i.toNatClampNeg v)) F P) else none := rfl
set_option maxRecDepth 100000 in
theorem hpS_19 (A : Nat → List Int32) (F : Nat → Int32) (P : Nat → Nat) (i v : Int32) : am_as (heap A F P) 0 50 i v = bif am_in i (A 50).length then some (heap (up A 50 ((A 50).set i.toNatClampNeg v)) F P) else none := rfl
set_option maxRecDepth 100000 in
theorem hpS_20 (A : Nat → List Int32) (F : Nat → Int32) (P : Nat → Nat) (i v : Int32) : am_as (heap A F P) 0 52 i v = bif am_in i (A 52).length then some (heap (up A 52 ((A 52).set i.toNatClampNeg v)) F P) else none := rfl
set_option maxRecDepth 100000 in
theorem hpS_21 (A : Nat → List Int32) (F : Nat → Int32) (P : Nat → Nat) (i v : Int32) : am_as (heap A F P) 0 55 i v = bif am_in i (A 55).length then some (heap (up A 55 ((A 55).set i.toNatClampNeg v)) F P) else none := rfl
set_option maxRecDepth 100000 in
theorem hpS_22 (A : Nat → List Int32) (F : Nat → Int32) (P : Nat → Nat) (i v : Int32) : am_as (heap A F P) 0 57 i v = bif am_in i (A 57).length then some (heap (up A 57 ((A 57).set i.toNatClampNeg v)) F P) else none := rfl
set_option maxRecDepth 100000 in
theorem hpS_23 (A : Nat → List Int32) (F : Nat → Int32) (P : Nat → Nat) (i v : Int32) : am_as (heap A F P) 0 59 i v = bif am_in i (A 59).length then some (heap (up A 59 ((A 59).set i.toNatClampNeg v)) F P) else none := rfl
set_option maxRecDepth 100000 in
theorem hpS_24 (A : Nat → List Int32) (F : Nat → Int32) (P : Nat → Nat) (i v : Int32) : am_as (heap A F P) 0 61 i v = bif am_in i (A 61).length then some (heap (up A 61 ((A 61).set i.toNatClampNeg v)) F P) else none := rfl
set_option maxRecDepth 100000 in
theorem hpS_25 (A : Nat → List Int32) (F : Nat → Int32) (P : Nat → Nat) (i v : Int32) : am_as (heap A F P) 0 63 i v = bif am_in i (A 63).length then some (heap (up A 63 ((A 63).set i.toNatClampNeg v)) F P) else none := rfl
set_option maxRecDepth 100000 in
theorem hpS_26 (A : Nat → List Int32) (F : Nat → Int32) (P : Nat → Nat) (i v : Int32) : am_as (heap A F P) 0 65 i v = bif am_in i (A 65).length then some (heap (up A 65 ((A 65).set i.toNatClampNeg v)) F P) else none := rfl
set_option maxRecDepth 100000 in
theorem hpS_27 (A : Nat → List Int32) (F : Nat → Int32) (P : Nat → Nat) (i v : Int32) : am_as (heap A F P) 0 67 i v = bif am_in i (A 67).length then some (heap (up A 67 ((A 67).set i.toNatClampNeg v)) F P) else none := rfl
set_option maxRecDepth 100000 in
theorem hpS_28 (A : Nat → List Int32) (F : Nat → Int32) (P : Nat → Nat) (i v : Int32) : am_as (heap A F P) 0 71 i v = bif am_in i (A 71).length then some (heap (up A 71 ((A 71).set i.toNatClampNeg v)) F P) else none := rfl
set_option maxRecDepth 100000 in
theorem hpS_29 (A : Nat → List Int32) (F : Nat → Int32) (P : Nat → Nat) (i v : Int32) : am_as (heap A F P) 0 73 i v = bif am_in i (A 73).length then some (heap (up A 73 ((A 73).set i.toNatClampNeg v)) F P) else none := rfl
set_option maxRecDepth 100000 in
theorem hpS_30 (A : Nat → List Int32) (F : Nat → Int32) (P : Nat → Nat) (i v : Int32) : am_as (heap A F P) 0 76 i v = bif am_in i (A 76).length then some (heap (up A 76 ((A 76).set i.toNatClampNeg v)) F P) else none := rfl
set_option maxRecDepth 100000 in
theorem hpS_31 (A : Nat → List Int32) (F : Nat → Int32) (P : Nat → Nat) (i v : Int32) : am_as (heap A F P) 0 78 i v = bif am_in i (A 78).length then some (heap (up A 78 ((A 78).set i.toNatClampNeg v)) F P) else none := rfl
set_option maxRecDepth 100000 in
theorem hpS_32 (A : Nat → List Int32) (F : Nat → Int32) (P : Nat → Nat) (i v : Int32) : am_as (heap A F P) 0 80 i v = bif am_in i (A 80).length then some (heap (up A 80 ((A 80).set i.toNatClampNeg v)) F P) else none := rfl
set_option maxRecDepth 100000 in
theorem hpS_33 (A : Nat → List Int32) (F : Nat → Int32) (P : Nat → Nat) (i v : Int32) : am_as (heap A F P) 0 82 i v = bif am_in i (A 82).length then some (heap (up A 82 ((A 82).set i.toNatClampNeg v)) F P) else none := rfl
set_option maxRecDepth 100000 in
theorem hpS_34 (A : Nat → List Int32) (F : Nat → Int32) (P : Nat → Nat) (i v : Int32) : am_as (heap A F P) 0 84 i v = bif am_in i (A 84).length then some (heap (up A 84 ((A 84).set i.toNatClampNeg v)) F P) else none := rfl
set_option maxRecDepth 100000 in
theorem hpS_35 (A : Nat → List Int32) (F : Nat → Int32) (P : Nat → Nat) (i v : Int32) : am_as (heap A F P) 0 87 i v = bif am_in i (A 87).length then some (heap (up A 87 ((A 87).set i.toNatClampNeg v)) F P) else none := rfl
set_option maxRecDepth 100000 in
theorem hpS_36 (A : Nat → List Int32) (F : Nat → Int32) (P : Nat → Nat) (i v : Int32) : am_as (heap A F P) 0 89 i v = bif am_in i (A 89).length then some (heap (up A 89 ((A 89).set i.toNatClampNeg v)) F P) else none := rfl
set_option maxRecDepth 100000 in
theorem hpS_37 (A : Nat → List Int32) (F : Nat → Int32) (P : Nat → Nat) (i v : Int32) : am_as (heap A F P) 0 91 i v = bif am_in i (A 91).length then some (heap (up A 91 ((A 91).set i.toNatClampNeg v)) F P) else none := rfl
set_option maxRecDepth 100000 in
theorem hpS_38 (A : Nat → List Int32) (F : Nat → Int32) (P : Nat → Nat) (i v : Int32) : am_as (heap A F P) 0 93 i v = bif am_in i (A 93).length then some (heap (up A 93 ((A 93).set i.toNatClampNeg v)) F P) else none := rfl
set_option maxRecDepth 100000 in
theorem hpS_39 (A : Nat → List Int32) (F : Nat → Int32) (P : Nat → Nat) (i v : Int32) : am_as (heap A F P) 0 95 i v = bif am_in i (A 95).length then some (heap (up A 95 ((A 95).set i.toNatClampNeg v)) F P) else none := rfl
set_option maxRecDepth 100000 in
theorem hpS_40 (A : Nat → List Int32) (F : Nat → Int32) (P : Nat → Nat) (i v : Int32) : am_as (heap A F P) 0 97 i v = bif am_in i (A 97).length then some (heap (up A 97 ((A 97).set i.toNatClampNeg v)) F P) else none := rfl
set_option maxRecDepth 100000 in
theorem hpS_41 (A : Nat → List Int32) (F : Nat → Int32) (P : Nat → Nat) (i v : Int32) : am_as (heap A F P) 0 99 i v = bif am_in i (A 99).length then some (heap (up A 99 ((A 99).set i.toNatClampNeg v)) F P) else none := rfl
set_option maxRecDepth 100000 in
theorem hpS_42 (A : Nat → List Int32) (F : Nat → Int32) (P : Nat → Nat) (i v : Int32) : am_as (heap A F P) 0 103 i v = bif am_in i (A 103).length then some (heap (up A 103 ((A 103).set i.toNatClampNeg v)) F P) else none := rfl
set_option maxRecDepth 100000 in
theorem hpS_43 (A : Nat → List Int32) (F : Nat → Int32) (P : Nat → Nat) (i v : Int32) : am_as (heap A F P) 0 105 i v = bif am_in i (A 105).length then some (heap (up A 105 ((A 105).set i.toNatClampNeg v)) F P) else none := rfl
set_option maxRecDepth 100000 in
theorem hpS_44 (A : Nat → List Int32) (F : Nat → Int32) (P : Nat → Nat) (i v : Int32) : am_as (heap A F P) 0 108 i v = bif am_in i (A 108).length then some (heap (up A 108 ((A 108).set i.toNatClampNeg v)) F P) else none := rfl
set_option maxRecDepth 100000 in
theorem hpS_45 (A : Nat → List Int32) (F : Nat → Int32) (P : Nat → Nat) (i v : Int32) : am_as (heap A F P) 0 110 i v = bif am_in i (A 110).length then some (heap (up A 110 ((A 110).set i.toNatClampNeg v)) F P) else none := rfl
set_option maxRecDepth 100000 in
theorem hpS_46 (A : Nat → List Int32) (F : Nat → Int32) (P : Nat → Nat) (i v : Int32) : am_as (heap A F P) 0 112 i v = bif am_in i (A 112).length then some (heap (up A 112 ((A 112).set i.toNatClampNeg v)) F P) else none := rfl
set_option maxRecDepth 100000 in
theorem hpS_47 (A : Nat → List Int32) (F : Nat → Int32) (P : Nat → Nat) (i v : Int32) : am_as (heap A F P) 0 114 i v = bif am_in i (A 114).length then some (heap (up A 114 ((A 114).set i.toNatClampNeg v)) F P) else none := rfl
set_option maxRecDepth 100000 in
theorem hpS_48 (A : Nat → List Int32) (F : Nat → Int32) (P : Nat → Nat) (i v : Int32) : am_as (heap A F P) 0 116 i v = bif am_in i (A 116).length then some (heap (up A 116 ((A 116).set i.toNatClampNeg v)) F P) else none := rfl
set_option maxRecDepth 100000 in
theorem hpS_49 (A : Nat → List Int32) (F : Nat → Int32) (P : Nat → Nat) (i v : Int32) : am_as (heap A F P) 0 119 i v = bif am_in i (A 119).length then some (heap (up A 119 ((A 119).set i.toNatClampNeg v)) F P) else none := rfl
set_option maxRecDepth 100000 in
theorem hpS_50 (A : Nat → List Int32) (F : Nat → Int32) (P : Nat → Nat) (i v : Int32) : am_as (heap A F P) 0 121 i v = bif am_in i (A 121).length then some (heap (up A 121 ((A 121).set i.toNatClampNeg v)) F P) else none := rfl
set_option maxRecDepth 100000 in
theorem hpS_51 (A : Nat → List Int32) (F : Nat → Int32) (P : Nat → Nat) (i v : Int32) : am_as (heap A F P) 0 123 i v = bif am_in i (A 123).length then some (heap (up A 123 ((A 123).set i.toNatClampNeg v)) F P) else none := rfl
set_option maxRecDepth 100000 in
theorem hpS_52 (A : Nat → List Int32) (F : Nat → Int32) (P : Nat → Nat) (i v : Int32) : am_as (heap A F P) 0 125 i v = bif am_in i (A 125).length then some (heap (up A 125 ((A 125).set i.toNatClampNeg v)) F P) else none := rfl
set_option maxRecDepth 100000 in
theorem hpS_53 (A : Nat → List Int32) (F : Nat → Int32) (P : Nat → Nat) (i v : Int32) : am_as (heap A F P) 0 127 i v = bif am_in i (A 127).length then some (heap (up A 127 ((A 127).set i.toNatClampNeg v)) F P) else none := rfl
set_option maxRecDepth 100000 in
theorem hpS_54 (A : Nat → List Int32) (F : Nat → Int32) (P : Nat → Nat) (i v : Int32) : am_as (heap A F P) 0 129 i v = bif am_in i (A 129).length then some (heap (up A 129 ((A 129).set i.toNatClampNeg v)) F P) else none := rfl
set_option maxRecDepth 100000 in
theorem hpS_55 (A : Nat → List Int32) (F : Nat → Int32) (P : Nat → Nat) (i v : Int32) : am_as (heap A F P) 0 131 i v = bif am_in i (A 131).length then some (heap (up A 131 ((A 131).set i.toNatClampNeg v)) F P) else none := rfl
set_option maxRecDepth 100000 in
theorem hpS_56 (A : Nat → List Int32) (F : Nat → Int32) (P : Nat → Nat) (i v : Int32) : am_as (heap A F P) 0 135 i v = bif am_in i (A 135).length then some (heap (up A 135 ((A 135).set i.toNatClampNeg v)) F P) else none := rfl
set_option maxRecDepth 100000 in
theorem hpS_57 (A : Nat → List Int32) (F : Nat → Int32) (P : Nat → Nat) (i v : Int32) : am_as (heap A F P) 0 137 i v = bif am_in i (A 137).length then some (heap (up A 137 ((A 137).set i.toNatClampNeg v)) F P) else none := rfl
set_option maxRecDepth 100000 in
theorem hpS_58 (A : Nat → List Int32) (F : Nat → Int32) (P : Nat → Nat) (i v : Int32) : am_as (heap A F P) 0 140 i v = bif am_in i (A 140).length then some (heap (up A 140 ((A 140).set i.toNatClampNeg v)) F P) else none := rfl
set_option maxRecDepth 100000 in
theorem hpS_59 (A : Nat → List Int32) (F : Nat → Int32) (P : Nat → Nat) (i v : Int32) : am_as (heap A F P) 0 142 i v = bif am_in i (A 142).length then some (heap (up A 142 ((A 142).set i.toNatClampNeg v)) F P) else none := rfl
set_option maxRecDepth 100000 in
theorem hpS_60 (A : Nat → List Int32) (F : Nat → Int32) (P : Nat → Nat) (i v : Int32) : am_as (heap A F P) 0 144 i v = bif am_in i (A 144).length then some (heap (up A 144 ((A 144).set i.toNatClampNeg v)) F P) else none := rfl
set_option maxRecDepth 100000 in
theorem hpS_61 (A : Nat → List Int32) (F : Nat → Int32) (P : Nat → Nat) (i v : Int32) : am_as (heap A F P) 0 146 i v = bif am_in i (A 146).length then some (heap (up A 146 ((A 146).set i.toNatClampNeg v)) F P) else none := rfl
set_option maxRecDepth 100000 in
theorem hpS_62 (A : Nat → List Int32) (F : Nat → Int32) (P : Nat → Nat) (i v : Int32) : am_as (heap A F P) 0 148 i v = bif am_in i (A 148).length then some (heap (up A 148 ((A 148).set i.toNatClampNeg v)) F P) else none := rfl
set_option maxRecDepth 100000 in
theorem hpS_63 (A : Nat → List Int32) (F : Nat → Int32) (P : Nat → Nat) (i v : Int32) : am_as (heap A F P) 0 151 i v = bif am_in i (A 151).length then some (heap (up A 151 ((A 151).set i.toNatClampNeg v)) F P) else none := rfl
set_option maxRecDepth 100000 in
theorem hpS_64 (A : Nat → List Int32) (F : Nat → Int32) (P : Nat → Nat) (i v : Int32) : am_as (heap A F P) 0 153 i v = bif am_in i (A 153).length then some (heap (up A 153 ((A 153).set i.toNatClampNeg v)) F P) else none := rfl
set_option maxRecDepth 100000 in
theorem hpS_65 (A : Nat → List Int32) (F : Nat → Int32) (P : Nat → Nat) (i v : Int32) : am_as (heap A F P) 0 155 i v = bif am_in i (A 155).length then some (heap (up A 155 ((A 155).set i.toNatClampNeg v)) F P) else none := rfl
set_option maxRecDepth 100000 in
theorem hpS_66 (A : Nat → List Int32) (F : Nat → Int32) (P : Nat → Nat) (i v : Int32) : am_as (heap A F P) 0 157 i v = bif am_in i (A 157).length then some (heap (up A 157 ((A 157).set i.toNatClampNeg v)) F P) else none := rfl
set_option maxRecDepth 100000 in
theorem hpS_67 (A : Nat → List Int32) (F : Nat → Int32) (P : Nat → Nat) (i v : Int32) : am_as (heap A F P) 0 159 i v = bif am_in i (A 159).length then some (heap (up A 159 ((A 159).set i.toNatClampNeg v)) F P) else none := rfl
set_option maxRecDepth 100000 in
theorem hpS_68 (A : Nat → List Int32) (F : Nat → Int32) (P : Nat → Nat) (i v : Int32) : am_as (heap A F P) 0 161 i v = bif am_in i (A 161).length then some (heap (up A 161 ((A 161).set i.toNatClampNeg v)) F P) else none := rfl
set_option maxRecDepth 100000 in
theorem hpS_69 (A : Nat → List Int32) (F : Nat → Int32) (P : Nat → Nat) (i v : Int32) : am_as (heap A F P) 0 163 i v = bif am_in i (A 163).length then some (heap (up A 163 ((A 163).set i.toNatClampNeg v)) F P) else none := rfl
set_option maxRecDepth 100000 in
theorem hpS_70 (A : Nat → List Int32) (F : Nat → Int32) (P : Nat → Nat) (i v : Int32) : am_as (heap A F P) 0 166 i v = bif am_in i (A 166).length then some (heap (up A 166 ((A 166).set i.toNatClampNeg v)) F P) else none := rfl
set_option maxRecDepth 100000 in
theorem hpS_71 (A : Nat → List Int32) (F : Nat → Int32) (P : Nat → Nat) (i v : Int32) : am_as (heap A F P) 0 168 i v = bif am_in i (A 168).length then some (heap (up A 168 ((A 168).set i.toNatClampNeg v)) F P) else none := rfl
set_option maxRecDepth 100000 in
theorem hpS_72 (A : Nat → List Int32) (F : Nat → Int32) (P : Nat → Nat) (i v : Int32) : am_as (heap A F P) 0 170 i v = bif am_in i (A 170).length then some (heap (up A 170 ((A 170).set i.toNatClampNeg v)) F P) else none := rfl
set_option maxRecDepth 100000 in
theorem hpS_73 (A : Nat → List Int32) (F : Nat → Int32) (P : Nat → Nat) (i v : Int32) : am_as (heap A F P) 0 172 i v = bif am_in i (A 172).length then some (heap (up A 172 ((A 172).set i.toNatClampNeg v)) F P) else none := rfl
set_option maxRecDepth 100000 in
theorem hpS_74 (A : Nat → List Int32) (F : Nat → Int32) (P : Nat → Nat) (i v : Int32) : am_as (heap A F P) 0 174 i v = bif am_in i (A 174).length then some (heap (up A 174 ((A 174).set i.toNatClampNeg v)) F P) else none := rfl
set_option maxRecDepth 100000 in
theorem hpS_75 (A : Nat → List Int32) (F : Nat → Int32) (P : Nat → Nat) (i v : Int32) : am_as (heap A F P) 0 176 i v = bif am_in i (A 176).length then some (heap (up A 176 ((A 176).set i.toNatClampNeg v)) F P) else none := rfl
set_option maxRecDepth 100000 in
theorem hpS_76 (A : Nat → List Int32) (F : Nat → Int32) (P : Nat → Nat) (i v : Int32) : am_as (heap A F P) 0 178 i v = bif am_in i (A 178).length then some (heap (up A 178 ((A 178).set i.toNatClampNeg v)) F P) else none := rfl
set_option maxRecDepth 100000 in
theorem hpS_77 (A : Nat → List Int32) (F : Nat → Int32) (P : Nat → Nat) (i v : Int32) : am_as (heap A F P) 0 180 i v = bif am_in i (A 180).length then some (heap (up A 180 ((A 180).set i.toNatClampNeg v)) F P) else none := rfl
set_option maxRecDepth 100000 in
theorem hpS_78 (A : Nat → List Int32) (F : Nat → Int32) (P : Nat → Nat) (i v : Int32) : am_as (heap A F P) 0 182 i v = bif am_in i (A 182).length then some (heap (up A 182 ((A 182).set i.toNatClampNeg v)) F P) else none := rfl
set_option maxRecDepth 100000 in
theorem hpS_79 (A : Nat → List Int32) (F : Nat → Int32) (P : Nat → Nat) (i v : Int32) : am_as (heap A F P) 1 185 i v = bif am_in i (A 185).length then some (heap (up A 185 ((A 185).set i.toNatClampNeg v)) F P) else none := rfl
set_option maxRecDepth 100000 in
theorem hpS_80 (A : Nat → List Int32) (F : Nat → Int32) (P : Nat → Nat) (i v : Int32) : am_as (heap A F P) 0 187 i v = bif am_in i (A 187).length then some (heap (up A 187 ((A 187).set i.toNatClampNeg v)) F P) else none := rfl
set_option maxRecDepth 100000 in
theorem hpS_81 (A : Nat → List Int32) (F : Nat → Int32) (P : Nat → Nat) (i v : Int32) : am_as (heap A F P) 0 189 i v = bif am_in i (A 189).length then some (heap (up A 189 ((A 189).set i.toNatClampNeg v)) F P) else none := rfl
set_option maxRecDepth 100000 in
theorem hpS_82 (A : Nat → List Int32) (F : Nat → Int32) (P : Nat → Nat) (i v : Int32) : am_as (heap A F P) 0 191 i v = bif am_in i (A 191).length then some (heap (up A 191 ((A 191).set i.toNatClampNeg v)) F P) else none := rfl
set_option maxRecDepth 100000 in
theorem hpS_83 (A : Nat → List Int32) (F : Nat → Int32) (P : Nat → Nat) (i v : Int32) : am_as (heap A F P) 0 193 i v = bif am_in i (A 193).length then some (heap (up A 193 ((A 193).set i.toNatClampNeg v)) F P) else none := rfl
set_option maxRecDepth 100000 in
theorem hpS_84 (A : Nat → List Int32) (F : Nat → Int32) (P : Nat → Nat) (i v : Int32) : am_as (heap A F P) 0 194 i v = bif am_in i (A 194).length then some (heap (up A 194 ((A 194).set i.toNatClampNeg v)) F P) else none := rfl
set_option maxRecDepth 100000 in
theorem hpS_85 (A : Nat → List Int32) (F : Nat → Int32) (P : Nat → Nat) (i v : Int32) : am_as (heap A F P) 1 195 i v = bif am_in i (A 195).length then some (heap (up A 195 ((A 195).set i.toNatClampNeg v)) F P) else none := rfl
set_option maxRecDepth 100000 in
theorem hpS_86 (A : Nat → List Int32) (F : Nat → Int32) (P : Nat → Nat) (i v : Int32) : am_as (heap A F P) 0 196 i v = bif am_in i (A 196).length then some (heap (up A 196 ((A 196).set i.toNatClampNeg v)) F P) else none := rfl
set_option maxRecDepth 100000 in
theorem hpS_87 (A : Nat → List Int32) (F : Nat → Int32) (P : Nat → Nat) (i v : Int32) : am_as (heap A F P) 0 197 i v = bif am_in i (A 197).length then some (heap (up A 197 ((A 197).set i.toNatClampNeg v)) F P) else none := rfl
set_option maxRecDepth 100000 in
theorem hpS_88 (A : Nat → List Int32) (F : Nat → Int32) (P : Nat → Nat) (i v : Int32) : am_as (heap A F P) 0 198 i v = bif am_in i (A 198).length then some (heap (up A 198 ((A 198).set i.toNatClampNeg v)) F P) else none := rfl
set_option maxRecDepth 100000 in
theorem hpS_89 (A : Nat → List Int32) (F : Nat → Int32) (P : Nat → Nat) (i v : Int32) : am_as (heap A F P) 0 199 i v = bif am_in i (A 199).length then some (heap (up A 199 ((A 199).set i.toNatClampNeg v)) F P) else none := rfl
set_option maxRecDepth 100000 in
theorem hpS_90 (A : Nat → List Int32) (F : Nat → Int32) (P : Nat → Nat) (i v : Int32) : am_as (heap A F P) 0 200 i v = bif am_in i (A 200).length then some (heap (up A 200 ((A 200).set i.toNatClampNeg v)) F P) else none := rfl
set_option maxRecDepth 100000 in
theorem hpS_91 (A : Nat → List Int32) (F : Nat → Int32) (P : Nat → Nat) (i v : Int32) : am_as (heap A F P) 0 201 i v = bif am_in i (A 201).length then some (heap (up A 201 ((A 201).set i.toNatClampNeg v)) F P) else none := rfl
set_option maxRecDepth 100000 in
theorem hpS_92 (A : Nat → List Int32) (F : Nat → Int32) (P : Nat → Nat) (i v : Int32) : am_as (heap A F P) 0 202 i v = bif am_in i (A 202).length then some (heap (up A 202 ((A 202).set i.toNatClampNeg v)) F P) else none := rfl
set_option maxRecDepth 100000 in
theorem hpS_93 (A : Nat → List Int32) (F : Nat → Int32) (P : Nat → Nat) (i v : Int32) : am_as (heap A F P) 0 203 i v = bif am_in i (A 203).length then some (heap (up A 203 ((A 203).set i.toNatClampNeg v)) F P) else none := rfl
set_option maxRecDepth 100000 in
theorem hpS_94 (A : Nat → List Int32) (F : Nat → Int32) (P : Nat → Nat) (i v : Int32) : am_as (heap A F P) 0 204 i v = bif am_in i (A 204).length then some (heap (up A 204 ((A 204).set i.toNatClampNeg v)) F P) else none := rfl
set_option maxRecDepth 100000 in
theorem hpS_95 (A : Nat → List Int32) (F : Nat → Int32) (P : Nat → Nat) (i v : Int32) : am_as (heap A F P) 0 205 i v = bif am_in i (A 205).length then some (heap (up A 205 ((A 205).set i.toNatClampNeg v)) F P) else none := rfl
theorem hpS : (∀ (A : Nat → List Int32) (F : Nat → Int32) (P : Nat → Nat) (i v : Int32), am_as (heap A F P) 0 5 i v = bif am_in i (A 5).length then some (heap (up A 5 ((A 5).set i.toNatClampNeg v)) F P) else none) ∧ (∀ (A : Nat → List Int32) (F : Nat → Int32) (P : Nat → Nat) (i v : Int32), am_as (heap A F P) 0 7 i v = bif am_in i (A 7).length then some (heap (up A 7 ((A 7).set i.toNatClampNeg v)) F P) else none) ∧ (∀ (A : Nat → List Int32) (F : Nat → Int32) (P : Nat → Nat) (i v : Int32), am_as (heap A F P) 0 10 i v = bif am_in i (A 10).length then some (heap (up A 10 ((A 10).set i.toNatClampNeg v)) F P) else none) ∧ (∀ (A : Nat → List Int32) (F : Nat → Int32) (P : Nat → Nat) (i v : Int32), am_as (heap A F P) 0 12 i v = bif am_in i (A 12).length then some (heap (up A 12 ((A 12).set i.toNatClampNeg v)) F P) else none) ∧ (∀ (A : Nat → List Int32) (F : Nat → Int32) (P : Nat → Nat) (i v : Int32), am_as (heap A F P) 0 14 i v = bif am_in i (A 14).length then some (heap (up A 14 ((A 14).set i.toNatClampNeg v)) F P) else none) ∧ (∀ (A : Nat → List Int32) (F : Nat → Int32) (P : Nat → Nat) (i v : Int32), am_as (heap A F P) 0 16 i v = bif am_in i (A 16).length then some (heap (up A 16 ((A 16).set i.toNatClampNeg v)) F P) else none) ∧ (∀ (A : Nat → List Int32) (F : Nat → Int32) (P : Nat → Nat) (i v : Int32), am_as (heap A F P) 0 18 i v = bif am_in i (A 18).length then some (heap (up A 18 ((A 18).set i.toNatClampNeg v)) F P) else none) ∧ (∀ (A : Nat → List Int32) (F : Nat → Int32) (P : Nat → Nat) (i v : Int32), am_as (heap A F P) 0 21 i v = bif am_in i (A 21).length then some (heap (up A 21 ((A 21).set i.toNatClampNeg v)) F P) else none) ∧ (∀ (A : Nat → List Int32) (F : Nat → Int32) (P : Nat → Nat) (i v : Int32), am_as (heap A F P) 0 23 i v = bif am_in i (A 23).length then some (heap (up A 23 ((A 23).set i.toNatClampNeg v)) F P) else none) ∧ (∀ (A : Nat → List Int32) (F : Nat → Int32) (P : Nat → Nat) (i v : Int32), am_as (heap A F P) 0 25 i v = bif am_in i (A 25).length then some (heap (up A 25 ((A 25).set i.toNatClampNeg v)) F P) else none) ∧ (∀ (A : Nat → List Int32) (F : Nat → Int32) (P : Nat → Nat) (i v : Int32), am_as (heap A F P) 0 27 i v = bif am_in i (A 27).length then some (heap (up A 27 ((A 27).set i.toNatClampNeg v)) F P) else none) ∧ (∀ (A : Nat → List Int32) (F : Nat → Int32) (P : Nat → Nat) (i v : Int32), am_as (heap A F P) 0 29 i v = bif am_in i (A 29).length then some (heap (up A 29 ((A 29).set i.toNatClampNeg v)) F P) else none) ∧ (∀ (A : Nat → List Int32) (F : Nat → Int32) (P : Nat → Nat) (i v : Int32), am_as (heap A F P) 0 31 i v = bif am_in i (A 31).length then some (heap (up A 31 ((A 31).set i.toNatClampNeg v)) F P) else none) ∧ (∀ (A : Nat → List Int32) (F : Nat → Int32) (P : Nat → Nat) (i v : Int32), am_as (heap A F P) 0 33 i v = bif am_in i (A 33).length then some (heap (up A 33 ((A 33).set i.toNatClampNeg v)) F P) else none) ∧ (∀ (A : Nat → List Int32) (F : Nat → Int32) (P : Nat → Nat) (i v : Int32), am_as (heap A F P) 0 39 i v = bif am_in i (A 39).length then some (heap (up A 39 ((A 39).set i.toNatClampNeg v)) F P) else none) ∧ (∀ (A : Nat → List Int32) (F : Nat → Int32) (P : Nat → Nat) (i v : Int32), am_as (heap A F P) 0 41 i v = bif am_in i (A 41).length then some (heap (up A 41 ((A 41).set i.toNatClampNeg v)) F P) else none) ∧ (∀ (A : Nat → List Int32) (F : Nat → Int32) (P : Nat → Nat) (i v : Int32), am_as (heap A F P) 0 44 i v = bif am_in i (A 44).length then some (heap (up A 44 ((A 44).set i.toNatClampNeg v)) F P) else none) ∧ (∀ (A : Nat → List Int32) (F : Nat → Int32) (P : Nat → Nat) (i v : Int32), am_as (heap A F P) 0 46 i v = bif am_in i (A 46).length then some (heap (up A 46 ((A 46).set i.toNatClampNeg v)) F P) else none) ∧ (∀ (A : Nat → List Int32) (F : Nat → Int32) (P : Nat → Nat) (i v : Int32), am_as (heap A F P) 0 48 i v = bif am_in i (A 48).length then some (heap (up A 48 ((A 48).set i.toNatClampNeg v)) F P) else none) ∧ (∀ (A : Nat → List Int32) (F : Nat → Int32) (P : Nat → Nat) (i v : Int32), am_as (heap A F P) 0 50 i v = bif am_in i (A 50).length then some (heap (up A 50 ((A 50).set i.toNatClampNeg v)) F P) else none) ∧ (∀ (A : Nat → List Int32) (F : Nat → Int32) (P : Nat → Nat) (i v : Int32), am_as (heap A F P) 0 52 i v = bif am_in i (A 52).length then some (heap (up A 52 ((A 52).set i.toNatClampNeg v)) F P) else none) ∧ (∀ (A : Nat → List Int32) (F : Nat → Int32) (P : Nat → Nat) (i v : Int32), am_as (heap A F P) 0 55 i v = bif am_in i (A 55).length then some (heap (up A 55 ((A 55).set i.toNatClampNeg v)) F P) else none) ∧ (∀ (A : Nat → List Int32) (F : Nat → Int32) (P : Nat → Nat) (i v : Int32), am_as (heap A F P) 0 57 i v = bif am_in i (A 57).length then some (heap (up A 57 ((A 57).set i.toNatClampNeg v)) F P) else none) ∧ (∀ (A : Nat → List Int32) (F : Nat → Int32) (P : Nat → Nat) (i v : Int32), am_as (heap A F P) 0 59 i v = bif am_in i (A 59).length then some (heap (up A 59 ((A 59).set i.toNatClampNeg v)) F P) else none) ∧ (∀ (A : Nat → List Int32) (F : Nat → Int32) (P : Nat → Nat) (i v : Int32), am_as (heap A F P) 0 61 i v = bif am_in i (A 61).length then some (heap (up A 61 ((A 61).set i.toNatClampNeg v)) F P) else none) ∧ (∀ (A : Nat → List Int32) (F : Nat → Int32) (P : Nat → Nat) (i v : Int32), am_as (heap A F P) 0 63 i v = bif am_in i (A 63).length then some (heap (up A 63 ((A 63).set i.toNatClampNeg v)) F P) else none) ∧ (∀ (A : Nat → List Int32) (F : Nat → Int32) (P : Nat → Nat) (i v : Int32), am_as (heap A F P) 0 65 i v = bif am_in i (A 65).length then some (heap (up A 65 ((A 65).set i.toNatClampNeg v)) F P) else none) ∧ (∀ (A : Nat → List Int32) (F : Nat → Int32) (P : Nat → Nat) (i v : Int32), am_as (heap A F P) 0 67 i v = bif am_in i (A 67).length then some (heap (up A 67 ((A 67).set i.toNatClampNeg v)) F P) else none) ∧ (∀ (A : Nat → List Int32) (F : Nat → Int32) (P : Nat → Nat) (i v : Int32), am_as (heap A F P) 0 71 i v = bif am_in i (A 71).length then some (heap (up A 71 ((A 71).set i.toNatClampNeg v)) F P) else none) ∧ (∀ (A : Nat → List Int32) (F : Nat → Int32) (P : Nat → Nat) (i v : Int32), am_as (heap A F P) 0 73 i v = bif am_in i (A 73).length then some (heap (up A 73 ((A 73).set i.toNatClampNeg v)) F P) else none) ∧ (∀ (A : Nat → List Int32) (F : Nat → Int32) (P : Nat → Nat) (i v : Int32), am_as (heap A F P) 0 76 i v = bif am_in i (A 76).length then some (heap (up A 76 ((A 76).set i.toNatClampNeg v)) F P) else none) ∧ (∀ (A : Nat → List Int32) (F : Nat → Int32) (P : Nat → Nat) (i v : Int32), am_as (heap A F P) 0 78 i v = bif am_in i (A 78).length then some (heap (up A 78 ((A 78).set i.toNatClampNeg v)) F P) else none) ∧ (∀ (A : Nat → List Int32) (F : Nat → Int32) (P : Nat → Nat) (i v : Int32), am_as (heap A F P) 0 80 i v = bif am_in i (A 80).length then some (heap (up A 80 ((A 80).set i.toNatClampNeg v)) F P) else none) ∧ (∀ (A : Nat → List Int32) (F : Nat → Int32) (P : Nat → Nat) (i v : Int32), am_as (heap A F P) 0 82 i v = bif am_in i (A 82).length then some (heap (up A 82 ((A 82).set i.toNatClampNeg v)) F P) else none) ∧ (∀ (A : Nat → List Int32) (F : Nat → Int32) (P : Nat → Nat) (i v : Int32), am_as (heap A F P) 0 84 i v = bif am_in i (A 84).length then some (heap (up A 84 ((A 84).set i.toNatClampNeg v)) F P) else none) ∧ (∀ (A : Nat → List Int32) (F : Nat → Int32) (P : Nat → Nat) (i v : Int32), am_as (heap A F P) 0 87 i v = bif am_in i (A 87).length then some (heap (up A 87 ((A 87).set i.toNatClampNeg v)) F P) else none) ∧ (∀ (A : Nat → List Int32) (F : Nat → Int32) (P : Nat → Nat) (i v : Int32), am_as (heap A F P) 0 89 i v = bif am_in i (A 89).length then some (heap (up A 89 ((A 89).set i.toNatClampNeg v)) F P) else none) ∧ (∀ (A : Nat → List Int32) (F : Nat → Int32) (P : Nat → Nat) (i v : Int32), am_as (heap A F P) 0 91 i v = bif am_in i (A 91).length then some (heap (up A 91 ((A 91).set i.toNatClampNeg v)) F P) else none) ∧ (∀ (A : Nat → List Int32) (F : Nat → Int32) (P : Nat → Nat) (i v : Int32), am_as (heap A F P) 0 93 i v = bif am_in i (A 93).length then some (heap (up A 93 ((A 93).set i.toNatClampNeg v)) F P) else none) ∧ (∀ (A : Nat → List Int32) (F : Nat → Int32) (P : Nat → Nat) (i v : Int32), am_as (heap A F P) 0 95 i v = bif am_in i (A 95).length then some (heap (up A 95 ((A 95).set i.toNatClampNeg v)) F P) else none) ∧ (∀ (A : Nat → List Int32) (F : Nat → Int32) (P : Nat → Nat) (i v : Int32), am_as (heap A F P) 0 97 i v = bif am_in i (A 97).length then some (heap (up A 97 ((A 97).set i.toNatClampNeg v)) F P) else none) ∧ (∀ (A : Nat → List Int32) (F : Nat → Int32) (P : Nat → Nat) (i v : Int32), am_as (heap A F P) 0 99 i v = bif am_in i (A 99).length then some (heap (up A 99 ((A 99).set i.toNatClampNeg v)) F P) else none) ∧ (∀ (A : Nat → List Int32) (F : Nat → Int32) (P : Nat → Nat) (i v : Int32), am_as (heap A F P) 0 103 i v = bif am_in i (A 103).length then some (heap (up A 103 ((A 103).set i.toNatClampNeg v)) F P) else none) ∧ (∀ (A : Nat → List Int32) (F : Nat → Int32) (P : Nat → Nat) (i v : Int32), am_as (heap A F P) 0 105 i v = bif am_in i (A 105).length then some (heap (up A 105 ((A 105).set i.toNatClampNeg v)) F P) else none) ∧ (∀ (A : Nat → List Int32) (F : Nat → Int32) (P : Nat → Nat) (i v : Int32), am_as (heap A F P) 0 108 i v = bif am_in i (A 108).length then some (heap (up A 108 ((A 108).set i.toNatClampNeg v)) F P) else none) ∧ (∀ (A : Nat → List Int32) (F : Nat → Int32) (P : Nat → Nat) (i v : Int32), am_as (heap A F P) 0 110 i v = bif am_in i (A 110).length then some (heap (up A 110 ((A 110).set i.toNatClampNeg v)) F P) else none) ∧ (∀ (A : Nat → List Int32) (F : Nat → Int32) (P : Nat → Nat) (i v : Int32), am_as (heap A F P) 0 112 i v = bif am_in i (A 112).length then some (heap (up A 112 ((A 112).set i.toNatClampNeg v)) F P) else none) ∧ (∀ (A : Nat → List Int32) (F : Nat → Int32) (P : Nat → Nat) (i v : Int32), am_as (heap A F P) 0 114 i v = bif am_in i (A 114).length then some (heap (up A 114 ((A 114).set i.toNatClampNeg v)) F P) else none) ∧ (∀ (A : Nat → List Int32) (F : Nat → Int32) (P : Nat → Nat) (i v : Int32), am_as (heap A F P) 0 116 i v = bif am_in i (A 116).length then some (heap (up A 116 ((A 116).set i.toNatClampNeg v)) F P) else none) ∧ (∀ (A : Nat → List Int32) (F : Nat → Int32) (P : Nat → Nat) (i v : Int32), am_as (heap A F P) 0 119 i v = bif am_in i (A 119).length then some (heap (up A 119 ((A 119).set i.toNatClampNeg v)) F P) else none) ∧ (∀ (A : Nat → List Int32) (F : Nat → Int32) (P : Nat → Nat) (i v : Int32), am_as (heap A F P) 0 121 i v = bif am_in i (A 121).length then some (heap (up A 121 ((A 121).set i.toNatClampNeg v)) F P) else none) ∧ (∀ (A : Nat → List Int32) (F : Nat → Int32) (P : Nat → Nat) (i v : Int32), am_as (heap A F P) 0 123 i v = bif am_in i (A 123).length then some (heap (up A 123 ((A 123).set i.toNatClampNeg v)) F P) else none) ∧ (∀ (A : Nat → List Int32) (F : Nat → Int32) (P : Nat → Nat) (i v : Int32), am_as (heap A F P) 0 125 i v = bif am_in i (A 125).length then some (heap (up A 125 ((A 125).set i.toNatClampNeg v)) F P) else none) ∧ (∀ (A : Nat → List Int32) (F : Nat → Int32) (P : Nat → Nat) (i v : Int32), am_as (heap A F P) 0 127 i v = bif am_in i (A 127).length then some (heap (up A 127 ((A 127).set i.toNatClampNeg v)) F P) else none) ∧ (∀ (A : Nat → List Int32) (F : Nat → Int32) (P : Nat → Nat) (i v : Int32), am_as (heap A F P) 0 129 i v = bif am_in i (A 129).length then some (heap (up A 129 ((A 129).set i.toNatClampNeg v)) F P) else none) ∧ (∀ (A : Nat → List Int32) (F : Nat → Int32) (P : Nat → Nat) (i v : Int32), am_as (heap A F P) 0 131 i v = bif am_in i (A 131).length then some (heap (up A 131 ((A 131).set i.toNatClampNeg v)) F P) else none) ∧ (∀ (A : Nat → List Int32) (F : Nat → Int32) (P : Nat → Nat) (i v : Int32), am_as (heap A F P) 0 135 i v = bif am_in i (A 135).length then some (heap (up A 135 ((A 135).set i.toNatClampNeg v)) F P) else none) ∧ (∀ (A : Nat → List Int32) (F : Nat → Int32) (P : Nat → Nat) (i v : Int32), am_as (heap A F P) 0 137 i v = bif am_in i (A 137).length then some (heap (up A 137 ((A 137).set i.toNatClampNeg v)) F P) else none) ∧ (∀ (A : Nat → List Int32) (F : Nat → Int32) (P : Nat → Nat) (i v : Int32), am_as (heap A F P) 0 140 i v = bif am_in i (A 140).length then some (heap (up A 140 ((A 140).set i.toNatClampNeg v)) F P) else none) ∧ (∀ (A : Nat → List Int32) (F : Nat → Int32) (P : Nat → Nat) (i v : Int32), am_as (heap A F P) 0 142 i v = bif am_in i (A 142).length then some (heap (up A 142 ((A 142).set i.toNatClampNeg v)) F P) else none) ∧ (∀ (A : Nat → List Int32) (F : Nat → Int32) (P : Nat → Nat) (i v : Int32), am_as (heap A F P) 0 144 i v = bif am_in i (A 144).length then some (heap (up A 144 ((A 144).set i.toNatClampNeg v)) F P) else none) ∧ (∀ (A : Nat → List Int32) (F : Nat → Int32) (P : Nat → Nat) (i v : Int32), am_as (heap A F P) 0 146 i v = bif am_in i (A 146).length then some (heap (up A 146 ((A 146).set i.toNatClampNeg v)) F P) else none) ∧ (∀ (A : Nat → List Int32) (F : Nat → Int32) (P : Nat → Nat) (i v : Int32), am_as (heap A F P) 0 148 i v = bif am_in i (A 148).length then some (heap (up A 148 ((A 148).set i.toNatClampNeg v)) F P) else none) ∧ (∀ (A : Nat → List Int32) (F : Nat → Int32) (P : Nat → Nat) (i v : Int32), am_as (heap A F P) 0 151 i v = bif am_in i (A 151).length then some (heap (up A 151 ((A 151).set i.toNatClampNeg v)) F P) else none) ∧ (∀ (A : Nat → List Int32) (F : Nat → Int32) (P : Nat → Nat) (i v : Int32), am_as (heap A F P) 0 153 i v = bif am_in i (A 153).length then some (heap (up A 153 ((A 153).set i.toNatClampNeg v)) F P) else none) ∧ (∀ (A : Nat → List Int32) (F : Nat → Int32) (P : Nat → Nat) (i v : Int32), am_as (heap A F P) 0 155 i v = bif am_in i (A 155).length then some (heap (up A 155 ((A 155).set i.toNatClampNeg v)) F P) else none) ∧ (∀ (A : Nat → List Int32) (F : Nat → Int32) (P : Nat → Nat) (i v : Int32), am_as (heap A F P) 0 157 i v = bif am_in i (A 157).length then some (heap (up A 157 ((A 157).set i.toNatClampNeg v)) F P) else none) ∧ (∀ (A : Nat → List Int32) (F : Nat → Int32) (P : Nat → Nat) (i v : Int32), am_as (heap A F P) 0 159 i v = bif am_in i (A 159).length then some (heap (up A 159 ((A 159).set i.toNatClampNeg v)) F P) else none) ∧ (∀ (A : Nat → List Int32) (F : Nat → Int32) (P : Nat → Nat) (i v : Int32), am_as (heap A F P) 0 161 i v = bif am_in i (A 161).length then some (heap (up A 161 ((A 161).set i.toNatClampNeg v)) F P) else none) ∧ (∀ (A : Nat → List Int32) (F : Nat → Int32) (P : Nat → Nat) (i v : Int32), am_as (heap A F P) 0 163 i v = bif am_in i (A 163).length then some (heap (up A 163 ((A 163).set i.toNatClampNeg v)) F P) else none) ∧ (∀ (A : Nat → List Int32) (F : Nat → Int32) (P : Nat → Nat) (i v : Int32), am_as (heap A F P) 0 166 i v = bif am_in i (A 166).length then some (heap (up A 166 ((A 166).set i.toNatClampNeg v)) F P) else none) ∧ (∀ (A : Nat → List Int32) (F : Nat → Int32) (P : Nat → Nat) (i v : Int32), am_as (heap A F P) 0 168 i v = bif am_in i (A 168).length then some (heap (up A 168 ((A 168).set i.toNatClampNeg v)) F P) else none) ∧ (∀ (A : Nat → List Int32) (F : Nat → Int32) (P : Nat → Nat) (i v : Int32), am_as (heap A F P) 0 170 i v = bif am_in i (A 170).length then some (heap (up A 170 ((A 170).set i.toNatClampNeg v)) F P) else none) ∧ (∀ (A : Nat → List Int32) (F : Nat → Int32) (P : Nat → Nat) (i v : Int32), am_as (heap A F P) 0 172 i v = bif am_in i (A 172).length then some (heap (up A 172 ((A 172).set i.toNatClampNeg v)) F P) else none) ∧ (∀ (A : Nat → List Int32) (F : Nat → Int32) (P : Nat → Nat) (i v : Int32), am_as (heap A F P) 0 174 i v = bif am_in i (A 174).length then some (heap (up A 174 ((A 174).set i.toNatClampNeg v)) F P) else none) ∧ (∀ (A : Nat → List Int32) (F : Nat → Int32) (P : Nat → Nat) (i v : Int32), am_as (heap A F P) 0 176 i v = bif am_in i (A 176).length then some (heap (up A 176 ((A 176).set i.toNatClampNeg v)) F P) else none) ∧ (∀ (A : Nat → List Int32) (F : Nat → Int32) (P : Nat → Nat) (i v : Int32), am_as (heap A F P) 0 178 i v = bif am_in i (A 178).length then some (heap (up A 178 ((A 178).set i.toNatClampNeg v)) F P) else none) ∧ (∀ (A : Nat → List Int32) (F : Nat → Int32) (P : Nat → Nat) (i v : Int32), am_as (heap A F P) 0 180 i v = bif am_in i (A 180).length then some (heap (up A 180 ((A 180).set i.toNatClampNeg v)) F P) else none) ∧ (∀ (A : Nat → List Int32) (F : Nat → Int32) (P : Nat → Nat) (i v : Int32), am_as (heap A F P) 0 182 i v = bif am_in i (A 182).length then some (heap (up A 182 ((A 182).set i.toNatClampNeg v)) F P) else none) ∧ (∀ (A : Nat → List Int32) (F : Nat → Int32) (P : Nat → Nat) (i v : Int32), am_as (heap A F P) 1 185 i v = bif am_in i (A 185).length then some (heap (up A 185 ((A 185).set i.toNatClampNeg v)) F P) else none) ∧ (∀ (A : Nat → List Int32) (F : Nat → Int32) (P : Nat → Nat) (i v : Int32), am_as (heap A F P) 0 187 i v = bif am_in i (A 187).length then some (heap (up A 187 ((A 187).set i.toNatClampNeg v)) F P) else none) ∧ (∀ (A : Nat → List Int32) (F : Nat → Int32) (P : Nat → Nat) (i v : Int32), am_as (heap A F P) 0 189 i v = bif am_in i (A 189).length then some (heap (up A 189 ((A 189).set i.toNatClampNeg v)) F P) else none) ∧ (∀ (A : Nat → List Int32) (F : Nat → Int32) (P : Nat → Nat) (i v : Int32), am_as (heap A F P) 0 191 i v = bif am_in i (A 191).length then some (heap (up A 191 ((A 191).set i.toNatClampNeg v)) F P) else none) ∧ (∀ (A : Nat → List Int32) (F : Nat → Int32) (P : Nat → Nat) (i v : Int32), am_as (heap A F P) 0 193 i v = bif am_in i (A 193).length then some (heap (up A 193 ((A 193).set i.toNatClampNeg v)) F P) else none) ∧ (∀ (A : Nat → List Int32) (F : Nat → Int32) (P : Nat → Nat) (i v : Int32), am_as (heap A F P) 0 194 i v = bif am_in i (A 194).length then some (heap (up A 194 ((A 194).set i.toNatClampNeg v)) F P) else none) ∧ (∀ (A : Nat → List Int32) (F : Nat → Int32) (P : Nat → Nat) (i v : Int32), am_as (heap A F P) 1 195 i v = bif am_in i (A 195).length then some (heap (up A 195 ((A 195).set i.toNatClampNeg v)) F P) else none) ∧ (∀ (A : Nat → List Int32) (F : Nat → Int32) (P : Nat → Nat) (i v : Int32), am_as (heap A F P) 0 196 i v = bif am_in i (A 196).length then some (heap (up A 196 ((A 196).set i.toNatClampNeg v)) F P) else none) ∧ (∀ (A : Nat → List Int32) (F : Nat → Int32) (P : Nat → Nat) (i v : Int32), am_as (heap A F P) 0 197 i v = bif am_in i (A 197).length then some (heap (up A 197 ((A 197).set i.toNatClampNeg v)) F P) else none) ∧ (∀ (A : Nat → List Int32) (F : Nat → Int32) (P : Nat → Nat) (i v : Int32), am_as (heap A F P) 0 198 i v = bif am_in i (A 198).length then some (heap (up A 198 ((A 198).set i.toNatClampNeg v)) F P) else none) ∧ (∀ (A : Nat → List Int32) (F : Nat → Int32) (P : Nat → Nat) (i v : Int32), am_as (heap A F P) 0 199 i v = bif am_in i (A 199).length then some (heap (up A 199 ((A 199).set i.toNatClampNeg v)) F P) else none) ∧ (∀ (A : Nat → List Int32) (F : Nat → Int32) (P : Nat → Nat) (i v : Int32), am_as (heap A F P) 0 200 i v = bif am_in i (A 200).length then some (heap (up A 200 ((A 200).set i.toNatClampNeg v)) F P) else none) ∧ (∀ (A : Nat → List Int32) (F : Nat → Int32) (P : Nat → Nat) (i v : Int32), am_as (heap A F P) 0 201 i v = bif am_in i (A 201).length then some (heap (up A 201 ((A 201).set i.toNatClampNeg v)) F P) else none) ∧ (∀ (A : Nat → List Int32) (F : Nat → Int32) (P : Nat → Nat) (i v : Int32), am_as (heap A F P) 0 202 i v = bif am_in i (A 202).length then some (heap (up A 202 ((A 202).set i.toNatClampNeg v)) F P) else none) ∧ (∀ (A : Nat → List Int32) (F : Nat → Int32) (P : Nat → Nat) (i v : Int32), am_as (heap A F P) 0 203 i v = bif am_in i (A 203).length then some (heap (up A 203 ((A 203).set i.toNatClampNeg v)) F P) else none) ∧ (∀ (A : Nat → List Int32) (F : Nat → Int32) (P : Nat → Nat) (i v : Int32), am_as (heap A F P) 0 204 i v = bif am_in i (A 204).length then some (heap (up A 204 ((A 204).set i.toNatClampNeg v)) F P) else none) ∧ (∀ (A : Nat → List Int32) (F : Nat → Int32) (P : Nat → Nat) (i v : Int32), am_as (heap A F P) 0 205 i v = bif am_in i (A 205).length then some (heap (up A 205 ((A 205).set i.toNatClampNeg v)) F P) else none) := ⟨hpS_0, hpS_1, hpS_2, hpS_3, hpS_4, hpS_5, hpS_6, hpS_7, hpS_8, hpS_9, hpS_10, hpS_11, hpS_12, hpS_13, hpS_14, hpS_15, hpS_16, hpS_17, hpS_18, hpS_19, hpS_20, hpS_21, hpS_22, hpS_23, hpS_24, hpS_25, hpS_26, hpS_27, hpS_28, hpS_29, hpS_30, hpS_31, hpS_32, hpS_33, hpS_34, hpS_35, hpS_36, hpS_37, hpS_38, hpS_39, hpS_40, hpS_41, hpS_42, hpS_43, hpS_44, hpS_45, hpS_46, hpS_47, hpS_48, hpS_49, hpS_50, hpS_51, hpS_52, hpS_53, hpS_54, hpS_55, hpS_56, hpS_57, hpS_58, hpS_59, hpS_60, hpS_61, hpS_62, hpS_63, hpS_64, hpS_65, hpS_66, hpS_67, hpS_68, hpS_69, hpS_70, hpS_71, hpS_72, hpS_73, hpS_74, hpS_75, hpS_76, hpS_77, hpS_78, hpS_79, hpS_80, hpS_81, hpS_82, hpS_83, hpS_84, hpS_85, hpS_86, hpS_87, hpS_88, hpS_89, hpS_90, hpS_91, hpS_92, hpS_93, hpS_94, hpS_95⟩

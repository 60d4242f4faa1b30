/-! where all lies: the references that never change -/
def m_refs : List (Nat × Nat × MRef) := [(0, 0, (9, 0, 1)), (0, 3, (5, 0, 19)), (0, 4, (3, 0, 20)), (0, 5, (10, 0, 24)), (0, 6, (0, 0, 30)), (0, 7, (4, 0, 45)), (0, 8, (1, 0, 47)), (0, 9, (7, 0, 170)), (0, 10, (2, 0, 174)), (0, 11, (20, 6, 176)), (1, 0, (22, 1600, 2)), (3, 5, (20, 6, 4)), (3, 6, (20, 36, 5)), (3, 7, (3, 0, 6)), (3, 8, (20, 1600, 10)), (6, 2, (20, 6, 7)), (6, 3, (20, 6, 8)), (6, 4, (20, 36, 9)), (11, 5, (20, 6, 12)), (11, 6, (20, 36, 13)), (11, 7, (3, 0, 14)), (11, 8, (20, 1600, 18)), (14, 2, (20, 6, 15)), (14, 3, (20, 6, 16)), (14, 4, (20, 36, 17)), (19, 0, (9, 0, 1)), (20, 2, (20, 6, 21)), (20, 3, (20, 6, 22)), (20, 4, (20, 36, 23)), (24, 0, (6, 0, 25)), (25, 0, (20, 100, 26)), (25, 1, (20, 24, 27)), (25, 2, (20, 6, 28)), (25, 3, (20, 6, 29)), (30, 0, (3, 0, 20)), (30, 1, (10, 0, 24)), (30, 2, (3, 0, 31)), (30, 3, (3, 0, 35)), (30, 4, (3, 0, 39)), (30, 5, (20, 6, 43)), (30, 6, (20, 1260, 44)), (31, 2, (20, 6, 32)), (31, 3, (20, 6, 33)), (31, 4, (20, 36, 34)), (35, 2, (20, 6, 36)), (35, 3, (20, 6, 37)), (35, 4, (20, 36, 38)), (39, 2, (20, 6, 40)), (39, 3, (20, 6, 41)), (39, 4, (20, 36, 42)), (45, 0, (20, 40, 46)), (47, 0, (25, 20, 48)), (47, 1, (26, 20, 49)), (48, 0, (3, 0, 50)), (48, 1, (3, 0, 56)), (48, 2, (3, 0, 62)), (48, 3, (3, 0, 68)), (48, 4, (3, 0, 74)), (48, 5, (3, 0, 80)), (48, 6, (3, 0, 86)), (48, 7, (3, 0, 92)), (48, 8, (3, 0, 98)), (48, 9, (3, 0, 104)), (48, 10, (3, 0, 110)), (48, 11, (3, 0, 116)), (48, 12, (3, 0, 122)), (48, 13, (3, 0, 128)), (48, 14, (3, 0, 134)), (48, 15, (3, 0, 140)), (48, 16, (3, 0, 146)), (48, 17, (3, 0, 152)), (48, 18, (3, 0, 158)), (48, 19, (3, 0, 164)), (49, 0, (4, 0, 54)), (49, 1, (4, 0, 60)), (49, 2, (4, 0, 66)), (49, 3, (4, 0, 72)), (49, 4, (4, 0, 78)), (49, 5, (4, 0, 84)), (49, 6, (4, 0, 90)), (49, 7, (4, 0, 96)), (49, 8, (4, 0, 102)), (49, 9, (4, 0, 108)), (49, 10, (4, 0, 114)), (49, 11, (4, 0, 120)), (49, 12, (4, 0, 126)), (49, 13, (4, 0, 132)), (49, 14, (4, 0, 138)), (49, 15, (4, 0, 144)), (49, 16, (4, 0, 150)), (49, 17, (4, 0, 156)), (49, 18, (4, 0, 162)), (49, 19, (4, 0, 168)), (50, 2, (20, 6, 51)), (50, 3, (20, 6, 52)), (50, 4, (20, 36, 53)), (54, 0, (20, 40, 55)), (56, 2, (20, 6, 57)), (56, 3, (20, 6, 58)), (56, 4, (20, 36, 59)), (60, 0, (20, 40, 61)), (62, 2, (20, 6, 63)), (62, 3, (20, 6, 64)), (62, 4, (20, 36, 65)), (66, 0, (20, 40, 67)), (68, 2, (20, 6, 69)), (68, 3, (20, 6, 70)), (68, 4, (20, 36, 71)), (72, 0, (20, 40, 73)), (74, 2, (20, 6, 75)), (74, 3, (20, 6, 76)), (74, 4, (20, 36, 77)), (78, 0, (20, 40, 79)), (80, 2, (20, 6, 81)), (80, 3, (20, 6, 82)), (80, 4, (20, 36, 83)), (84, 0, (20, 40, 85)), (86, 2, (20, 6, 87)), (86, 3, (20, 6, 88)), (86, 4, (20, 36, 89)), (90, 0, (20, 40, 91)), (92, 2, (20, 6, 93)), (92, 3, (20, 6, 94)), (92, 4, (20, 36, 95)), (96, 0, (20, 40, 97)), (98, 2, (20, 6, 99)), (98, 3, (20, 6, 100)), (98, 4, (20, 36, 101)), (102, 0, (20, 40, 103)), (104, 2, (20, 6, 105)), (104, 3, (20, 6, 106)), (104, 4, (20, 36, 107)), (108, 0, (20, 40, 109)), (110, 2, (20, 6, 111)), (110, 3, (20, 6, 112)), (110, 4, (20, 36, 113)), (114, 0, (20, 40, 115)), (116, 2, (20, 6, 117)), (116, 3, (20, 6, 118)), (116, 4, (20, 36, 119)), (120, 0, (20, 40, 121)), (122, 2, (20, 6, 123)), (122, 3, (20, 6, 124)), (122, 4, (20, 36, 125)), (126, 0, (20, 40, 127)), (128, 2, (20, 6, 129)), (128, 3, (20, 6, 130)), (128, 4, (20, 36, 131)), (132, 0, (20, 40, 133)), (134, 2, (20, 6, 135)), (134, 3, (20, 6, 136)), (134, 4, (20, 36, 137)), (138, 0, (20, 40, 139)), (140, 2, (20, 6, 141)), (140, 3, (20, 6, 142)), (140, 4, (20, 36, 143)), (144, 0, (20, 40, 145)), (146, 2, (20, 6, 147)), (146, 3, (20, 6, 148)), (146, 4, (20, 36, 149)), (150, 0, (20, 40, 151)), (152, 2, (20, 6, 153)), (152, 3, (20, 6, 154)), (152, 4, (20, 36, 155)), (156, 0, (20, 40, 157)), (158, 2, (20, 6, 159)), (158, 3, (20, 6, 160)), (158, 4, (20, 36, 161)), (162, 0, (20, 40, 163)), (164, 2, (20, 6, 165)), (164, 3, (20, 6, 166)), (164, 4, (20, 36, 167)), (168, 0, (20, 40, 169)), (170, 0, (20, 16, 171)), (170, 1, (20, 16, 172)), (170, 2, (20, 16, 173)), (174, 0, (22, 100, 175)), (177, 0, (20, 1600, 178)), (177, 9, (20, 6, 179)), (177, 11, (23, 5, 180)), (177, 12, (23, 2, 181)), (177, 13, (23, 5, 182)), (177, 14, (23, 4, 183)), (177, 15, (23, 5, 184)), (177, 16, (23, 3, 185)), (177, 17, (23, 3, 186)), (177, 18, (23, 5, 187)), (177, 19, (23, 5, 188)), (177, 20, (23, 5, 189)), (177, 21, (23, 4, 190)), (177, 22, (23, 4, 191)), (177, 23, (23, 4, 192)), (177, 24, (23, 6, 193)), (177, 25, (23, 5, 194)), (177, 26, (23, 3, 195)), (177, 27, (23, 5, 196)), (177, 28, (23, 5, 197)), (177, 29, (23, 2, 198)), (177, 30, (23, 3, 199)), (177, 31, (23, 3, 200)), (177, 32, (23, 3, 201)), (177, 33, (23, 3, 202)), (177, 34, (23, 3, 203)), (177, 36, (20, 4, 204)), (177, 37, (20, 4, 205)), (177, 38, (21, 12, 206)), (177, 39, (20, 12, 207)), (177, 40, (20, 6, 208)), (177, 41, (20, 42, 209)), (177, 44, (20, 4, 210)), (177, 45, (20, 4, 211)), (177, 46, (20, 3200, 212)), (177, 51, (20, 176, 213)), (177, 52, (20, 55, 214)), (177, 57, (20, 36, 215)), (177, 58, (20, 384, 216)), (177, 60, (20, 48, 217)), (177, 61, (20, 5580, 218)), (177, 62, (24, 31, 219)), (177, 64, (20, 7, 220)), (177, 65, (20, 3520, 221)), (177, 69, (23, 5, 222)), (177, 70, (23, 4, 223)), (177, 71, (23, 5, 224)), (177, 72, (23, 5, 225)), (177, 73, (23, 4, 226)), (177, 74, (23, 5, 227)), (177, 75, (23, 3, 228)), (177, 76, (23, 3, 229)), (177, 77, (23, 2, 230)), (177, 78, (23, 3, 231)), (177, 79, (23, 3, 232)), (177, 80, (23, 3, 233)), (177, 81, (23, 3, 234)), (177, 82, (23, 5, 235)), (177, 83, (23, 4, 236)), (177, 84, (23, 3, 237)), (177, 85, (23, 4, 238)), (177, 86, (23, 6, 239)), (177, 87, (23, 5, 240)), (177, 88, (23, 3, 241)), (177, 89, (23, 3, 242)), (177, 90, (23, 5, 243)), (177, 91, (20, 1700, 244)), (177, 93, (20, 1700, 245)), (177, 97, (21, 1700, 246)), (177, 101, (20, 100, 247))]
/-- the references that never change -/
def RF (R : Nat → Nat → Option MRef) : Prop := ∀ q ∈ m_refs, R q.1 q.2.1 = some q.2.2
theorem r_0_0 {R : Nat → Nat → Option MRef} (h : RF R) : R 0 0 = some (9, 0, 1) := h _ (List.mem_of_getElem? (i := 0) rfl)
theorem r_0_3 {R : Nat → Nat → Option MRef} (h : RF R) : R 0 3 = some (5, 0, 19) := h _ (List.mem_of_getElem? (i := 1) rfl)
theorem r_0_4 {R : Nat → Nat → Option MRef} (h : RF R) : R 0 4 = some (3, 0, 20) := h _ (List.mem_of_getElem? (i := 2) rfl)
theorem r_0_5 {R : Nat → Nat → Option MRef} (h : RF R) : R 0 5 = some (10, 0, 24) := h _ (List.mem_of_getElem? (i := 3) rfl)
theorem r_0_6 {R : Nat → Nat → Option MRef} (h : RF R) : R 0 6 = some (0, 0, 30) := h _ (List.mem_of_getElem? (i := 4) rfl)
theorem r_0_7 {R : Nat → Nat → Option MRef} (h : RF R) : R 0 7 = some (4, 0, 45) := h _ (List.mem_of_getElem? (i := 5) rfl)
theorem r_0_8 {R : Nat → Nat → Option MRef} (h : RF R) : R 0 8 = some (1, 0, 47) := h _ (List.mem_of_getElem? (i := 6) rfl)
theorem r_0_9 {R : Nat → Nat → Option MRef} (h : RF R) : R 0 9 = some (7, 0, 170) := h _ (List.mem_of_getElem? (i := 7) rfl)
theorem r_0_10 {R : Nat → Nat → Option MRef} (h : RF R) : R 0 10 = some (2, 0, 174) := h _ (List.mem_of_getElem? (i := 8) rfl)
theorem r_0_11 {R : Nat → Nat → Option MRef} (h : RF R) : R 0 11 = some (20, 6, 176) := h _ (List.mem_of_getElem? (i := 9) rfl)
theorem r_1_0 {R : Nat → Nat → Option MRef} (h : RF R) : R 1 0 = some (22, 1600, 2) := h _ (List.mem_of_getElem? (i := 10) rfl)
theorem r_3_5 {R : Nat → Nat → Option MRef} (h : RF R) : R 3 5 = some (20, 6, 4) := h _ (List.mem_of_getElem? (i := 11) rfl)
theorem r_3_6 {R : Nat → Nat → Option MRef} (h : RF R) : R 3 6 = some (20, 36, 5) := h _ (List.mem_of_getElem? (i := 12) rfl)
theorem r_3_7 {R : Nat → Nat → Option MRef} (h : RF R) : R 3 7 = some (3, 0, 6) := h _ (List.mem_of_getElem? (i := 13) rfl)
theorem r_3_8 {R : Nat → Nat → Option MRef} (h : RF R) : R 3 8 = some (20, 1600, 10) := h _ (List.mem_of_getElem? (i := 14) rfl)
theorem r_6_2 {R : Nat → Nat → Option MRef} (h : RF R) : R 6 2 = some (20, 6, 7) := h _ (List.mem_of_getElem? (i := 15) rfl)
theorem r_6_3 {R : Nat → Nat → Option MRef} (h : RF R) : R 6 3 = some (20, 6, 8) := h _ (List.mem_of_getElem? (i := 16) rfl)
theorem r_6_4 {R : Nat → Nat → Option MRef} (h : RF R) : R 6 4 = some (20, 36, 9) := h _ (List.mem_of_getElem? (i := 17) rfl)
theorem r_11_5 {R : Nat → Nat → Option MRef} (h : RF R) : R 11 5 = some (20, 6, 12) := h _ (List.mem_of_getElem? (i := 18) rfl)
theorem r_11_6 {R : Nat → Nat → Option MRef} (h : RF R) : R 11 6 = some (20, 36, 13) := h _ (List.mem_of_getElem? (i := 19) rfl)
theorem r_11_7 {R : Nat → Nat → Option MRef} (h : RF R) : R 11 7 = some (3, 0, 14) := h _ (List.mem_of_getElem? (i := 20) rfl)
theorem r_11_8 {R : Nat → Nat → Option MRef} (h : RF R) : R 11 8 = some (20, 1600, 18) := h _ (List.mem_of_getElem? (i := 21) rfl)
theorem r_14_2 {R : Nat → Nat → Option MRef} (h : RF R) : R 14 2 = some (20, 6, 15) := h _ (List.mem_of_getElem? (i := 22) rfl)
theorem r_14_3 {R : Nat → Nat → Option MRef} (h : RF R) : R 14 3 = some (20, 6, 16) := h _ (List.mem_of_getElem? (i := 23) rfl)
theorem r_14_4 {R : Nat → Nat → Option MRef} (h : RF R) : R 14 4 = some (20, 36, 17) := h _ (List.mem_of_getElem? (i := 24) rfl)
theorem r_19_0 {R : Nat → Nat → Option MRef} (h : RF R) : R 19 0 = some (9, 0, 1) := h _ (List.mem_of_getElem? (i := 25) rfl)
theorem r_20_2 {R : Nat → Nat → Option MRef} (h : RF R) : R 20 2 = some (20, 6, 21) := h _ (List.mem_of_getElem? (i := 26) rfl)
theorem r_20_3 {R : Nat → Nat → Option MRef} (h : RF R) : R 20 3 = some (20, 6, 22) := h _ (List.mem_of_getElem? (i := 27) rfl)
theorem r_20_4 {R : Nat → Nat → Option MRef} (h : RF R) : R 20 4 = some (20, 36, 23) := h _ (List.mem_of_getElem? (i := 28) rfl)
theorem r_24_0 {R : Nat → Nat → Option MRef} (h : RF R) : R 24 0 = some (6, 0, 25) := h _ (List.mem_of_getElem? (i := 29) rfl)
theorem r_25_0 {R : Nat → Nat → Option MRef} (h : RF R) : R 25 0 = some (20, 100, 26) := h _ (List.mem_of_getElem? (i := 30) rfl)
theorem r_25_1 {R : Nat → Nat → Option MRef} (h : RF R) : R 25 1 = some (20, 24, 27) := h _ (List.mem_of_getElem? (i := 31) rfl)
theorem r_25_2 {R : Nat → Nat → Option MRef} (h : RF R) : R 25 2 = some (20, 6, 28) := h _ (List.mem_of_getElem? (i := 32) rfl)
theorem r_25_3 {R : Nat → Nat → Option MRef} (h : RF R) : R 25 3 = some (20, 6, 29) := h _ (List.mem_of_getElem? (i := 33) rfl)
theorem r_30_0 {R : Nat → Nat → Option MRef} (h : RF R) : R 30 0 = some (3, 0, 20) := h _ (List.mem_of_getElem? (i := 34) rfl)
theorem r_30_1 {R : Nat → Nat → Option MRef} (h : RF R) : R 30 1 = some (10, 0, 24) := h _ (List.mem_of_getElem? (i := 35) rfl)
theorem r_30_2 {R : Nat → Nat → Option MRef} (h : RF R) : R 30 2 = some (3, 0, 31) := h _ (List.mem_of_getElem? (i := 36) rfl)
theorem r_30_3 {R : Nat → Nat → Option MRef} (h : RF R) : R 30 3 = some (3, 0, 35) := h _ (List.mem_of_getElem? (i := 37) rfl)
theorem r_30_4 {R : Nat → Nat → Option MRef} (h : RF R) : R 30 4 = some (3, 0, 39) := h _ (List.mem_of_getElem? (i := 38) rfl)
theorem r_30_5 {R : Nat → Nat → Option MRef} (h : RF R) : R 30 5 = some (20, 6, 43) := h _ (List.mem_of_getElem? (i := 39) rfl)
theorem r_30_6 {R : Nat → Nat → Option MRef} (h : RF R) : R 30 6 = some (20, 1260, 44) := h _ (List.mem_of_getElem? (i := 40) rfl)
theorem r_31_2 {R : Nat → Nat → Option MRef} (h : RF R) : R 31 2 = some (20, 6, 32) := h _ (List.mem_of_getElem? (i := 41) rfl)
theorem r_31_3 {R : Nat → Nat → Option MRef} (h : RF R) : R 31 3 = some (20, 6, 33) := h _ (List.mem_of_getElem? (i := 42) rfl)
theorem r_31_4 {R : Nat → Nat → Option MRef} (h : RF R) : R 31 4 = some (20, 36, 34) := h _ (List.mem_of_getElem? (i := 43) rfl)
theorem r_35_2 {R : Nat → Nat → Option MRef} (h : RF R) : R 35 2 = some (20, 6, 36) := h _ (List.mem_of_getElem? (i := 44) rfl)
theorem r_35_3 {R : Nat → Nat → Option MRef} (h : RF R) : R 35 3 = some (20, 6, 37) := h _ (List.mem_of_getElem? (i := 45) rfl)
theorem r_35_4 {R : Nat → Nat → Option MRef} (h : RF R) : R 35 4 = some (20, 36, 38) := h _ (List.mem_of_getElem? (i := 46) rfl)
theorem r_39_2 {R : Nat → Nat → Option MRef} (h : RF R) : R 39 2 = some (20, 6, 40) := h _ (List.mem_of_getElem? (i := 47) rfl)
theorem r_39_3 {R : Nat → Nat → Option MRef} (h : RF R) : R 39 3 = some (20, 6, 41) := h _ (List.mem_of_getElem? (i := 48) rfl)
theorem r_39_4 {R : Nat → Nat → Option MRef} (h : RF R) : R 39 4 = some (20, 36, 42) := h _ (List.mem_of_getElem? (i := 49) rfl)
theorem r_45_0 {R : Nat → Nat → Option MRef} (h : RF R) : R 45 0 = some (20, 40, 46) := h _ (List.mem_of_getElem? (i := 50) rfl)
theorem r_47_0 {R : Nat → Nat → Option MRef} (h : RF R) : R 47 0 = some (25, 20, 48) := h _ (List.mem_of_getElem? (i := 51) rfl)
theorem r_47_1 {R : Nat → Nat → Option MRef} (h : RF R) : R 47 1 = some (26, 20, 49) := h _ (List.mem_of_getElem? (i := 52) rfl)
theorem r_48_0 {R : Nat → Nat → Option MRef} (h : RF R) : R 48 0 = some (3, 0, 50) := h _ (List.mem_of_getElem? (i := 53) rfl)
theorem r_48_1 {R : Nat → Nat → Option MRef} (h : RF R) : R 48 1 = some (3, 0, 56) := h _ (List.mem_of_getElem? (i := 54) rfl)
theorem r_48_2 {R : Nat → Nat → Option MRef} (h : RF R) : R 48 2 = some (3, 0, 62) := h _ (List.mem_of_getElem? (i := 55) rfl)
theorem r_48_3 {R : Nat → Nat → Option MRef} (h : RF R) : R 48 3 = some (3, 0, 68) := h _ (List.mem_of_getElem? (i := 56) rfl)
theorem r_48_4 {R : Nat → Nat → Option MRef} (h : RF R) : R 48 4 = some (3, 0, 74) := h _ (List.mem_of_getElem? (i := 57) rfl)
theorem r_48_5 {R : Nat → Nat → Option MRef} (h : RF R) : R 48 5 = some (3, 0, 80) := h _ (List.mem_of_getElem? (i := 58) rfl)
theorem r_48_6 {R : Nat → Nat → Option MRef} (h : RF R) : R 48 6 = some (3, 0, 86) := h _ (List.mem_of_getElem? (i := 59) rfl)
theorem r_48_7 {R : Nat → Nat → Option MRef} (h : RF R) : R 48 7 = some (3, 0, 92) := h _ (List.mem_of_getElem? (i := 60) rfl)
theorem r_48_8 {R : Nat → Nat → Option MRef} (h : RF R) : R 48 8 = some (3, 0, 98) := h _ (List.mem_of_getElem? (i := 61) rfl)
theorem r_48_9 {R : Nat → Nat → Option MRef} (h : RF R) : R 48 9 = some (3, 0, 104) := h _ (List.mem_of_getElem? (i := 62) rfl)
theorem r_48_10 {R : Nat → Nat → Option MRef} (h : RF R) : R 48 10 = some (3, 0, 110) := h _ (List.mem_of_getElem? (i := 63) rfl)
theorem r_48_11 {R : Nat → Nat → Option MRef} (h : RF R) : R 48 11 = some (3, 0, 116) := h _ (List.mem_of_getElem? (i := 64) rfl)
theorem r_48_12 {R : Nat → Nat → Option MRef} (h : RF R) : R 48 12 = some (3, 0, 122) := h _ (List.mem_of_getElem? (i := 65) rfl)
theorem r_48_13 {R : Nat → Nat → Option MRef} (h : RF R) : R 48 13 = some (3, 0, 128) := h _ (List.mem_of_getElem? (i := 66) rfl)
theorem r_48_14 {R : Nat → Nat → Option MRef} (h : RF R) : R 48 14 = some (3, 0, 134) := h _ (List.mem_of_getElem? (i := 67) rfl)
theorem r_48_15 {R : Nat → Nat → Option MRef} (h : RF R) : R 48 15 = some (3, 0, 140) := h _ (List.mem_of_getElem? (i := 68) rfl)
theorem r_48_16 {R : Nat → Nat → Option MRef} (h : RF R) : R 48 16 = some (3, 0, 146) := h _ (List.mem_of_getElem? (i := 69) rfl)
theorem r_48_17 {R : Nat → Nat → Option MRef} (h : RF R) : R 48 17 = some (3, 0, 152) := h _ (List.mem_of_getElem? (i := 70) rfl)
theorem r_48_18 {R : Nat → Nat → Option MRef} (h : RF R) : R 48 18 = some (3, 0, 158) := h _ (List.mem_of_getElem? (i := 71) rfl)
theorem r_48_19 {R : Nat → Nat → Option MRef} (h : RF R) : R 48 19 = some (3, 0, 164) := h _ (List.mem_of_getElem? (i := 72) rfl)
theorem r_49_0 {R : Nat → Nat → Option MRef} (h : RF R) : R 49 0 = some (4, 0, 54) := h _ (List.mem_of_getElem? (i := 73) rfl)
theorem r_49_1 {R : Nat → Nat → Option MRef} (h : RF R) : R 49 1 = some (4, 0, 60) := h _ (List.mem_of_getElem? (i := 74) rfl)
theorem r_49_2 {R : Nat → Nat → Option MRef} (h : RF R) : R 49 2 = some (4, 0, 66) := h _ (List.mem_of_getElem? (i := 75) rfl)
theorem r_49_3 {R : Nat → Nat → Option MRef} (h : RF R) : R 49 3 = some (4, 0, 72) := h _ (List.mem_of_getElem? (i := 76) rfl)
theorem r_49_4 {R : Nat → Nat → Option MRef} (h : RF R) : R 49 4 = some (4, 0, 78) := h _ (List.mem_of_getElem? (i := 77) rfl)
theorem r_49_5 {R : Nat → Nat → Option MRef} (h : RF R) : R 49 5 = some (4, 0, 84) := h _ (List.mem_of_getElem? (i := 78) rfl)
theorem r_49_6 {R : Nat → Nat → Option MRef} (h : RF R) : R 49 6 = some (4, 0, 90) := h _ (List.mem_of_getElem? (i := 79) rfl)
theorem r_49_7 {R : Nat → Nat → Option MRef} (h : RF R) : R 49 7 = some (4, 0, 96) := h _ (List.mem_of_getElem? (i := 80) rfl)
theorem r_49_8 {R : Nat → Nat → Option MRef} (h : RF R) : R 49 8 = some (4, 0, 102) := h _ (List.mem_of_getElem? (i := 81) rfl)
theorem r_49_9 {R : Nat → Nat → Option MRef} (h : RF R) : R 49 9 = some (4, 0, 108) := h _ (List.mem_of_getElem? (i := 82) rfl)
theorem r_49_10 {R : Nat → Nat → Option MRef} (h : RF R) : R 49 10 = some (4, 0, 114) := h _ (List.mem_of_getElem? (i := 83) rfl)
theorem r_49_11 {R : Nat → Nat → Option MRef} (h : RF R) : R 49 11 = some (4, 0, 120) := h _ (List.mem_of_getElem? (i := 84) rfl)
theorem r_49_12 {R : Nat → Nat → Option MRef} (h : RF R) : R 49 12 = some (4, 0, 126) := h _ (List.mem_of_getElem? (i := 85) rfl)
theorem r_49_13 {R : Nat → Nat → Option MRef} (h : RF R) : R 49 13 = some (4, 0, 132) := h _ (List.mem_of_getElem? (i := 86) rfl)
theorem r_49_14 {R : Nat → Nat → Option MRef} (h : RF R) : R 49 14 = some (4, 0, 138) := h _ (List.mem_of_getElem? (i := 87) rfl)
theorem r_49_15 {R : Nat → Nat → Option MRef} (h : RF R) : R 49 15 = some (4, 0, 144) := h _ (List.mem_of_getElem? (i := 88) rfl)
theorem r_49_16 {R : Nat → Nat → Option MRef} (h : RF R) : R 49 16 = some (4, 0, 150) := h _ (List.mem_of_getElem? (i := 89) rfl)
theorem r_49_17 {R : Nat → Nat → Option MRef} (h : RF R) : R 49 17 = some (4, 0, 156) := h _ (List.mem_of_getElem? (i := 90) rfl)
theorem r_49_18 {R : Nat → Nat → Option MRef} (h : RF R) : R 49 18 = some (4, 0, 162) := h _ (List.mem_of_getElem? (i := 91) rfl)
theorem r_49_19 {R : Nat → Nat → Option MRef} (h : RF R) : R 49 19 = some (4, 0, 168) := h _ (List.mem_of_getElem? (i := 92) rfl)
theorem r_50_2 {R : Nat → Nat → Option MRef} (h : RF R) : R 50 2 = some (20, 6, 51) := h _ (List.mem_of_getElem? (i := 93) rfl)
theorem r_50_3 {R : Nat → Nat → Option MRef} (h : RF R) : R 50 3 = some (20, 6, 52) := h _ (List.mem_of_getElem? (i := 94) rfl)
theorem r_50_4 {R : Nat → Nat → Option MRef} (h : RF R) : R 50 4 = some (20, 36, 53) := h _ (List.mem_of_getElem? (i := 95) rfl)
theorem r_54_0 {R : Nat → Nat → Option MRef} (h : RF R) : R 54 0 = some (20, 40, 55) := h _ (List.mem_of_getElem? (i := 96) rfl)
theorem r_56_2 {R : Nat → Nat → Option MRef} (h : RF R) : R 56 2 = some (20, 6, 57) := h _ (List.mem_of_getElem? (i := 97) rfl)
theorem r_56_3 {R : Nat → Nat → Option MRef} (h : RF R) : R 56 3 = some (20, 6, 58) := h _ (List.mem_of_getElem? (i := 98) rfl)
theorem r_56_4 {R : Nat → Nat → Option MRef} (h : RF R) : R 56 4 = some (20, 36, 59) := h _ (List.mem_of_getElem? (i := 99) rfl)
theorem r_60_0 {R : Nat → Nat → Option MRef} (h : RF R) : R 60 0 = some (20, 40, 61) := h _ (List.mem_of_getElem? (i := 100) rfl)
theorem r_62_2 {R : Nat → Nat → Option MRef} (h : RF R) : R 62 2 = some (20, 6, 63) := h _ (List.mem_of_getElem? (i := 101) rfl)
theorem r_62_3 {R : Nat → Nat → Option MRef} (h : RF R) : R 62 3 = some (20, 6, 64) := h _ (List.mem_of_getElem? (i := 102) rfl)
theorem r_62_4 {R : Nat → Nat → Option MRef} (h : RF R) : R 62 4 = some (20, 36, 65) := h _ (List.mem_of_getElem? (i := 103) rfl)
theorem r_66_0 {R : Nat → Nat → Option MRef} (h : RF R) : R 66 0 = some (20, 40, 67) := h _ (List.mem_of_getElem? (i := 104) rfl)
theorem r_68_2 {R : Nat → Nat → Option MRef} (h : RF R) : R 68 2 = some (20, 6, 69) := h _ (List.mem_of_getElem? (i := 105) rfl)
theorem r_68_3 {R : Nat → Nat → Option MRef} (h : RF R) : R 68 3 = some (20, 6, 70) := h _ (List.mem_of_getElem? (i := 106) rfl)
theorem r_68_4 {R : Nat → Nat → Option MRef} (h : RF R) : R 68 4 = some (20, 36, 71) := h _ (List.mem_of_getElem? (i := 107) rfl)
theorem r_72_0 {R : Nat → Nat → Option MRef} (h : RF R) : R 72 0 = some (20, 40, 73) := h _ (List.mem_of_getElem? (i := 108) rfl)
theorem r_74_2 {R : Nat → Nat → Option MRef} (h : RF R) : R 74 2 = some (20, 6, 75) := h _ (List.mem_of_getElem? (i := 109) rfl)
theorem r_74_3 {R : Nat → Nat → Option MRef} (h : RF R) : R 74 3 = some (20, 6, 76) := h _ (List.mem_of_getElem? (i := 110) rfl)
theorem r_74_4 {R : Nat → Nat → Option MRef} (h : RF R) : R 74 4 = some (20, 36, 77) := h _ (List.mem_of_getElem? (i := 111) rfl)
theorem r_78_0 {R : Nat → Nat → Option MRef} (h : RF R) : R 78 0 = some (20, 40, 79) := h _ (List.mem_of_getElem? (i := 112) rfl)
theorem r_80_2 {R : Nat → Nat → Option MRef} (h : RF R) : R 80 2 = some (20, 6, 81) := h _ (List.mem_of_getElem? (i := 113) rfl)
theorem r_80_3 {R : Nat → Nat → Option MRef} (h : RF R) : R 80 3 = some (20, 6, 82) := h _ (List.mem_of_getElem? (i := 114) rfl)
theorem r_80_4 {R : Nat → Nat → Option MRef} (h : RF R) : R 80 4 = some (20, 36, 83) := h _ (List.mem_of_getElem? (i := 115) rfl)
theorem r_84_0 {R : Nat → Nat → Option MRef} (h : RF R) : R 84 0 = some (20, 40, 85) := h _ (List.mem_of_getElem? (i := 116) rfl)
theorem r_86_2 {R : Nat → Nat → Option MRef} (h : RF R) : R 86 2 = some (20, 6, 87) := h _ (List.mem_of_getElem? (i := 117) rfl)
theorem r_86_3 {R : Nat → Nat → Option MRef} (h : RF R) : R 86 3 = some (20, 6, 88) := h _ (List.mem_of_getElem? (i := 118) rfl)
theorem r_86_4 {R : Nat → Nat → Option MRef} (h : RF R) : R 86 4 = some (20, 36, 89) := h _ (List.mem_of_getElem? (i := 119) rfl)
theorem r_90_0 {R : Nat → Nat → Option MRef} (h : RF R) : R 90 0 = some (20, 40, 91) := h _ (List.mem_of_getElem? (i := 120) rfl)
theorem r_92_2 {R : Nat → Nat → Option MRef} (h : RF R) : R 92 2 = some (20, 6, 93) := h _ (List.mem_of_getElem? (i := 121) rfl)
theorem r_92_3 {R : Nat → Nat → Option MRef} (h : RF R) : R 92 3 = some (20, 6, 94) := h _ (List.mem_of_getElem? (i := 122) rfl)
theorem r_92_4 {R : Nat → Nat → Option MRef} (h : RF R) : R 92 4 = some (20, 36, 95) := h _ (List.mem_of_getElem? (i := 123) rfl)
theorem r_96_0 {R : Nat → Nat → Option MRef} (h : RF R) : R 96 0 = some (20, 40, 97) := h _ (List.mem_of_getElem? (i := 124) rfl)
theorem r_98_2 {R : Nat → Nat → Option MRef} (h : RF R) : R 98 2 = some (20, 6, 99) := h _ (List.mem_of_getElem? (i := 125) rfl)
theorem r_98_3 {R : Nat → Nat → Option MRef} (h : RF R) : R 98 3 = some (20, 6, 100) := h _ (List.mem_of_getElem? (i := 126) rfl)
theorem r_98_4 {R : Nat → Nat → Option MRef} (h : RF R) : R 98 4 = some (20, 36, 101) := h _ (List.mem_of_getElem? (i := 127) rfl)
theorem r_102_0 {R : Nat → Nat → Option MRef} (h : RF R) : R 102 0 = some (20, 40, 103) := h _ (List.mem_of_getElem? (i := 128) rfl)
theorem r_104_2 {R : Nat → Nat → Option MRef} (h : RF R) : R 104 2 = some (20, 6, 105) := h _ (List.mem_of_getElem? (i := 129) rfl)
theorem r_104_3 {R : Nat → Nat → Option MRef} (h : RF R) : R 104 3 = some (20, 6, 106) := h _ (List.mem_of_getElem? (i := 130) rfl)
theorem r_104_4 {R : Nat → Nat → Option MRef} (h : RF R) : R 104 4 = some (20, 36, 107) := h _ (List.mem_of_getElem? (i := 131) rfl)
theorem r_108_0 {R : Nat → Nat → Option MRef} (h : RF R) : R 108 0 = some (20, 40, 109) := h _ (List.mem_of_getElem? (i := 132) rfl)
theorem r_110_2 {R : Nat → Nat → Option MRef} (h : RF R) : R 110 2 = some (20, 6, 111) := h _ (List.mem_of_getElem? (i := 133) rfl)
theorem r_110_3 {R : Nat → Nat → Option MRef} (h : RF R) : R 110 3 = some (20, 6, 112) := h _ (List.mem_of_getElem? (i := 134) rfl)
theorem r_110_4 {R : Nat → Nat → Option MRef} (h : RF R) : R 110 4 = some (20, 36, 113) := h _ (List.mem_of_getElem? (i := 135) rfl)
theorem r_114_0 {R : Nat → Nat → Option MRef} (h : RF R) : R 114 0 = some (20, 40, 115) := h _ (List.mem_of_getElem? (i := 136) rfl)
theorem r_116_2 {R : Nat → Nat → Option MRef} (h : RF R) : R 116 2 = some (20, 6, 117) := h _ (List.mem_of_getElem? (i := 137) rfl)
theorem r_116_3 {R : Nat → Nat → Option MRef} (h : RF R) : R 116 3 = some (20, 6, 118) := h _ (List.mem_of_getElem? (i := 138) rfl)
theorem r_116_4 {R : Nat → Nat → Option MRef} (h : RF R) : R 116 4 = some (20, 36, 119) := h _ (List.mem_of_getElem? (i := 139) rfl)
theorem r_120_0 {R : Nat → Nat → Option MRef} (h : RF R) : R 120 0 = some (20, 40, 121) := h _ (List.mem_of_getElem? (i := 140) rfl)
theorem r_122_2 {R : Nat → Nat → Option MRef} (h : RF R) : R 122 2 = some (20, 6, 123) := h _ (List.mem_of_getElem? (i := 141) rfl)
theorem r_122_3 {R : Nat → Nat → Option MRef} (h : RF R) : R 122 3 = some (20, 6, 124) := h _ (List.mem_of_getElem? (i := 142) rfl)
theorem r_122_4 {R : Nat → Nat → Option MRef} (h : RF R) : R 122 4 = some (20, 36, 125) := h _ (List.mem_of_getElem? (i := 143) rfl)
theorem r_126_0 {R : Nat → Nat → Option MRef} (h : RF R) : R 126 0 = some (20, 40, 127) := h _ (List.mem_of_getElem? (i := 144) rfl)
theorem r_128_2 {R : Nat → Nat → Option MRef} (h : RF R) : R 128 2 = some (20, 6, 129) := h _ (List.mem_of_getElem? (i := 145) rfl)
theorem r_128_3 {R : Nat → Nat → Option MRef} (h : RF R) : R 128 3 = some (20, 6, 130) := h _ (List.mem_of_getElem? (i := 146) rfl)
theorem r_128_4 {R : Nat → Nat → Option MRef} (h : RF R) : R 128 4 = some (20, 36, 131) := h _ (List.mem_of_getElem? (i := 147) rfl)
theorem r_132_0 {R : Nat → Nat → Option MRef} (h : RF R) : R 132 0 = some (20, 40, 133) := h _ (List.mem_of_getElem? (i := 148) rfl)
theorem r_134_2 {R : Nat → Nat → Option MRef} (h : RF R) : R 134 2 = some (20, 6, 135) := h _ (List.mem_of_getElem? (i := 149) rfl)
theorem r_134_3 {R : Nat → Nat → Option MRef} (h : RF R) : R 134 3 = some (20, 6, 136) := h _ (List.mem_of_getElem? (i := 150) rfl)
theorem r_134_4 {R : Nat → Nat → Option MRef} (h : RF R) : R 134 4 = some (20, 36, 137) := h _ (List.mem_of_getElem? (i := 151) rfl)
theorem r_138_0 {R : Nat → Nat → Option MRef} (h : RF R) : R 138 0 = some (20, 40, 139) := h _ (List.mem_of_getElem? (i := 152) rfl)
theorem r_140_2 {R : Nat → Nat → Option MRef} (h : RF R) : R 140 2 = some (20, 6, 141) := h _ (List.mem_of_getElem? (i := 153) rfl)
theorem r_140_3 {R : Nat → Nat → Option MRef} (h : RF R) : R 140 3 = some (20, 6, 142) := h _ (List.mem_of_getElem? (i := 154) rfl)
theorem r_140_4 {R : Nat → Nat → Option MRef} (h : RF R) : R 140 4 = some (20, 36, 143) := h _ (List.mem_of_getElem? (i := 155) rfl)
theorem r_144_0 {R : Nat → Nat → Option MRef} (h : RF R) : R 144 0 = some (20, 40, 145) := h _ (List.mem_of_getElem? (i := 156) rfl)
theorem r_146_2 {R : Nat → Nat → Option MRef} (h : RF R) : R 146 2 = some (20, 6, 147) := h _ (List.mem_of_getElem? (i := 157) rfl)
theorem r_146_3 {R : Nat → Nat → Option MRef} (h : RF R) : R 146 3 = some (20, 6, 148) := h _ (List.mem_of_getElem? (i := 158) rfl)
theorem r_146_4 {R : Nat → Nat → Option MRef} (h : RF R) : R 146 4 = some (20, 36, 149) := h _ (List.mem_of_getElem? (i := 159) rfl)
theorem r_150_0 {R : Nat → Nat → Option MRef} (h : RF R) : R 150 0 = some (20, 40, 151) := h _ (List.mem_of_getElem? (i := 160) rfl)
theorem r_152_2 {R : Nat → Nat → Option MRef} (h : RF R) : R 152 2 = some (20, 6, 153) := h _ (List.mem_of_getElem? (i := 161) rfl)
theorem r_152_3 {R : Nat → Nat → Option MRef} (h : RF R) : R 152 3 = some (20, 6, 154) := h _ (List.mem_of_getElem? (i := 162) rfl)
theorem r_152_4 {R : Nat → Nat → Option MRef} (h : RF R) : R 152 4 = some (20, 36, 155) := h _ (List.mem_of_getElem? (i := 163) rfl)
theorem r_156_0 {R : Nat → Nat → Option MRef} (h : RF R) : R 156 0 = some (20, 40, 157) := h _ (List.mem_of_getElem? (i := 164) rfl)
theorem r_158_2 {R : Nat → Nat → Option MRef} (h : RF R) : R 158 2 = some (20, 6, 159) := h _ (List.mem_of_getElem? (i := 165) rfl)
theorem r_158_3 {R : Nat → Nat → Option MRef} (h : RF R) : R 158 3 = some (20, 6, 160) := h _ (List.mem_of_getElem? (i := 166) rfl)
theorem r_158_4 {R : Nat → Nat → Option MRef} (h : RF R) : R 158 4 = some (20, 36, 161) := h _ (List.mem_of_getElem? (i := 167) rfl)
theorem r_162_0 {R : Nat → Nat → Option MRef} (h : RF R) : R 162 0 = some (20, 40, 163) := h _ (List.mem_of_getElem? (i := 168) rfl)
theorem r_164_2 {R : Nat → Nat → Option MRef} (h : RF R) : R 164 2 = some (20, 6, 165) := h _ (List.mem_of_getElem? (i := 169) rfl)
theorem r_164_3 {R : Nat → Nat → Option MRef} (h : RF R) : R 164 3 = some (20, 6, 166) := h _ (List.mem_of_getElem? (i := 170) rfl)
theorem r_164_4 {R : Nat → Nat → Option MRef} (h : RF R) : R 164 4 = some (20, 36, 167) := h _ (List.mem_of_getElem? (i := 171) rfl)
theorem r_168_0 {R : Nat → Nat → Option MRef} (h : RF R) : R 168 0 = some (20, 40, 169) := h _ (List.mem_of_getElem? (i := 172) rfl)
theorem r_170_0 {R : Nat → Nat → Option MRef} (h : RF R) : R 170 0 = some (20, 16, 171) := h _ (List.mem_of_getElem? (i := 173) rfl)
theorem r_170_1 {R : Nat → Nat → Option MRef} (h : RF R) : R 170 1 = some (20, 16, 172) := h _ (List.mem_of_getElem? (i := 174) rfl)
theorem r_170_2 {R : Nat → Nat → Option MRef} (h : RF R) : R 170 2 = some (20, 16, 173) := h _ (List.mem_of_getElem? (i := 175) rfl)
theorem r_174_0 {R : Nat → Nat → Option MRef} (h : RF R) : R 174 0 = some (22, 100, 175) := h _ (List.mem_of_getElem? (i := 176) rfl)
theorem r_177_0 {R : Nat → Nat → Option MRef} (h : RF R) : R 177 0 = some (20, 1600, 178) := h _ (List.mem_of_getElem? (i := 177) rfl)
theorem r_177_9 {R : Nat → Nat → Option MRef} (h : RF R) : R 177 9 = some (20, 6, 179) := h _ (List.mem_of_getElem? (i := 178) rfl)
theorem r_177_11 {R : Nat → Nat → Option MRef} (h : RF R) : R 177 11 = some (23, 5, 180) := h _ (List.mem_of_getElem? (i := 179) rfl)
theorem r_177_12 {R : Nat → Nat → Option MRef} (h : RF R) : R 177 12 = some (23, 2, 181) := h _ (List.mem_of_getElem? (i := 180) rfl)
theorem r_177_13 {R : Nat → Nat → Option MRef} (h : RF R) : R 177 13 = some (23, 5, 182) := h _ (List.mem_of_getElem? (i := 181) rfl)
theorem r_177_14 {R : Nat → Nat → Option MRef} (h : RF R) : R 177 14 = some (23, 4, 183) := h _ (List.mem_of_getElem? (i := 182) rfl)
theorem r_177_15 {R : Nat → Nat → Option MRef} (h : RF R) : R 177 15 = some (23, 5, 184) := h _ (List.mem_of_getElem? (i := 183) rfl)
theorem r_177_16 {R : Nat → Nat → Option MRef} (h : RF R) : R 177 16 = some (23, 3, 185) := h _ (List.mem_of_getElem? (i := 184) rfl)
theorem r_177_17 {R : Nat → Nat → Option MRef} (h : RF R) : R 177 17 = some (23, 3, 186) := h _ (List.mem_of_getElem? (i := 185) rfl)
theorem r_177_18 {R : Nat → Nat → Option MRef} (h : RF R) : R 177 18 = some (23, 5, 187) := h _ (List.mem_of_getElem? (i := 186) rfl)
theorem r_177_19 {R : Nat → Nat → Option MRef} (h : RF R) : R 177 19 = some (23, 5, 188) := h _ (List.mem_of_getElem? (i := 187) rfl)
theorem r_177_20 {R : Nat → Nat → Option MRef} (h : RF R) : R 177 20 = some (23, 5, 189) := h _ (List.mem_of_getElem? (i := 188) rfl)
theorem r_177_21 {R : Nat → Nat → Option MRef} (h : RF R) : R 177 21 = some (23, 4, 190) := h _ (List.mem_of_getElem? (i := 189) rfl)
theorem r_177_22 {R : Nat → Nat → Option MRef} (h : RF R) : R 177 22 = some (23, 4, 191) := h _ (List.mem_of_getElem? (i := 190) rfl)
theorem r_177_23 {R : Nat → Nat → Option MRef} (h : RF R) : R 177 23 = some (23, 4, 192) := h _ (List.mem_of_getElem? (i := 191) rfl)
theorem r_177_24 {R : Nat → Nat → Option MRef} (h : RF R) : R 177 24 = some (23, 6, 193) := h _ (List.mem_of_getElem? (i := 192) rfl)
theorem r_177_25 {R : Nat → Nat → Option MRef} (h : RF R) : R 177 25 = some (23, 5, 194) := h _ (List.mem_of_getElem? (i := 193) rfl)
theorem r_177_26 {R : Nat → Nat → Option MRef} (h : RF R) : R 177 26 = some (23, 3, 195) := h _ (List.mem_of_getElem? (i := 194) rfl)
theorem r_177_27 {R : Nat → Nat → Option MRef} (h : RF R) : R 177 27 = some (23, 5, 196) := h _ (List.mem_of_getElem? (i := 195) rfl)
theorem r_177_28 {R : Nat → Nat → Option MRef} (h : RF R) : R 177 28 = some (23, 5, 197) := h _ (List.mem_of_getElem? (i := 196) rfl)
theorem r_177_29 {R : Nat → Nat → Option MRef} (h : RF R) : R 177 29 = some (23, 2, 198) := h _ (List.mem_of_getElem? (i := 197) rfl)
theorem r_177_30 {R : Nat → Nat → Option MRef} (h : RF R) : R 177 30 = some (23, 3, 199) := h _ (List.mem_of_getElem? (i := 198) rfl)
theorem r_177_31 {R : Nat → Nat → Option MRef} (h : RF R) : R 177 31 = some (23, 3, 200) := h _ (List.mem_of_getElem? (i := 199) rfl)
theorem r_177_32 {R : Nat → Nat → Option MRef} (h : RF R) : R 177 32 = some (23, 3, 201) := h _ (List.mem_of_getElem? (i := 200) rfl)
theorem r_177_33 {R : Nat → Nat → Option MRef} (h : RF R) : R 177 33 = some (23, 3, 202) := h _ (List.mem_of_getElem? (i := 201) rfl)
theorem r_177_34 {R : Nat → Nat → Option MRef} (h : RF R) : R 177 34 = some (23, 3, 203) := h _ (List.mem_of_getElem? (i := 202) rfl)
theorem r_177_36 {R : Nat → Nat → Option MRef} (h : RF R) : R 177 36 = some (20, 4, 204) := h _ (List.mem_of_getElem? (i := 203) rfl)
theorem r_177_37 {R : Nat → Nat → Option MRef} (h : RF R) : R 177 37 = some (20, 4, 205) := h _ (List.mem_of_getElem? (i := 204) rfl)
theorem r_177_38 {R : Nat → Nat → Option MRef} (h : RF R) : R 177 38 = some (21, 12, 206) := h _ (List.mem_of_getElem? (i := 205) rfl)
theorem r_177_39 {R : Nat → Nat → Option MRef} (h : RF R) : R 177 39 = some (20, 12, 207) := h _ (List.mem_of_getElem? (i := 206) rfl)
theorem r_177_40 {R : Nat → Nat → Option MRef} (h : RF R) : R 177 40 = some (20, 6, 208) := h _ (List.mem_of_getElem? (i := 207) rfl)
theorem r_177_41 {R : Nat → Nat → Option MRef} (h : RF R) : R 177 41 = some (20, 42, 209) := h _ (List.mem_of_getElem? (i := 208) rfl)
theorem r_177_44 {R : Nat → Nat → Option MRef} (h : RF R) : R 177 44 = some (20, 4, 210) := h _ (List.mem_of_getElem? (i := 209) rfl)
theorem r_177_45 {R : Nat → Nat → Option MRef} (h : RF R) : R 177 45 = some (20, 4, 211) := h _ (List.mem_of_getElem? (i := 210) rfl)
theorem r_177_46 {R : Nat → Nat → Option MRef} (h : RF R) : R 177 46 = some (20, 3200, 212) := h _ (List.mem_of_getElem? (i := 211) rfl)
theorem r_177_51 {R : Nat → Nat → Option MRef} (h : RF R) : R 177 51 = some (20, 176, 213) := h _ (List.mem_of_getElem? (i := 212) rfl)
theorem r_177_52 {R : Nat → Nat → Option MRef} (h : RF R) : R 177 52 = some (20, 55, 214) := h _ (List.mem_of_getElem? (i := 213) rfl)
theorem r_177_57 {R : Nat → Nat → Option MRef} (h : RF R) : R 177 57 = some (20, 36, 215) := h _ (List.mem_of_getElem? (i := 214) rfl)
theorem r_177_58 {R : Nat → Nat → Option MRef} (h : RF R) : R 177 58 = some (20, 384, 216) := h _ (List.mem_of_getElem? (i := 215) rfl)
theorem r_177_60 {R : Nat → Nat → Option MRef} (h : RF R) : R 177 60 = some (20, 48, 217) := h _ (List.mem_of_getElem? (i := 216) rfl)
theorem r_177_61 {R : Nat → Nat → Option MRef} (h : RF R) : R 177 61 = some (20, 5580, 218) := h _ (List.mem_of_getElem? (i := 217) rfl)
theorem r_177_62 {R : Nat → Nat → Option MRef} (h : RF R) : R 177 62 = some (24, 31, 219) := h _ (List.mem_of_getElem? (i := 218) rfl)
theorem r_177_64 {R : Nat → Nat → Option MRef} (h : RF R) : R 177 64 = some (20, 7, 220) := h _ (List.mem_of_getElem? (i := 219) rfl)
theorem r_177_65 {R : Nat → Nat → Option MRef} (h : RF R) : R 177 65 = some (20, 3520, 221) := h _ (List.mem_of_getElem? (i := 220) rfl)
theorem r_177_69 {R : Nat → Nat → Option MRef} (h : RF R) : R 177 69 = some (23, 5, 222) := h _ (List.mem_of_getElem? (i := 221) rfl)
theorem r_177_70 {R : Nat → Nat → Option MRef} (h : RF R) : R 177 70 = some (23, 4, 223) := h _ (List.mem_of_getElem? (i := 222) rfl)
theorem r_177_71 {R : Nat → Nat → Option MRef} (h : RF R) : R 177 71 = some (23, 5, 224) := h _ (List.mem_of_getElem? (i := 223) rfl)
theorem r_177_72 {R : Nat → Nat → Option MRef} (h : RF R) : R 177 72 = some (23, 5, 225) := h _ (List.mem_of_getElem? (i := 224) rfl)
theorem r_177_73 {R : Nat → Nat → Option MRef} (h : RF R) : R 177 73 = some (23, 4, 226) := h _ (List.mem_of_getElem? (i := 225) rfl)
theorem r_177_74 {R : Nat → Nat → Option MRef} (h : RF R) : R 177 74 = some (23, 5, 227) := h _ (List.mem_of_getElem? (i := 226) rfl)
theorem r_177_75 {R : Nat → Nat → Option MRef} (h : RF R) : R 177 75 = some (23, 3, 228) := h _ (List.mem_of_getElem? (i := 227) rfl)
theorem r_177_76 {R : Nat → Nat → Option MRef} (h : RF R) : R 177 76 = some (23, 3, 229) := h _ (List.mem_of_getElem? (i := 228) rfl)
theorem r_177_77 {R : Nat → Nat → Option MRef} (h : RF R) : R 177 77 = some (23, 2, 230) := h _ (List.mem_of_getElem? (i := 229) rfl)
theorem r_177_78 {R : Nat → Nat → Option MRef} (h : RF R) : R 177 78 = some (23, 3, 231) := h _ (List.mem_of_getElem? (i := 230) rfl)
theorem r_177_79 {R : Nat → Nat → Option MRef} (h : RF R) : R 177 79 = some (23, 3, 232) := h _ (List.mem_of_getElem? (i := 231) rfl)
theorem r_177_80 {R : Nat → Nat → Option MRef} (h : RF R) : R 177 80 = some (23, 3, 233) := h _ (List.mem_of_getElem? (i := 232) rfl)
theorem r_177_81 {R : Nat → Nat → Option MRef} (h : RF R) : R 177 81 = some (23, 3, 234) := h _ (List.mem_of_getElem? (i := 233) rfl)
theorem r_177_82 {R : Nat → Nat → Option MRef} (h : RF R) : R 177 82 = some (23, 5, 235) := h _ (List.mem_of_getElem? (i := 234) rfl)
theorem r_177_83 {R : Nat → Nat → Option MRef} (h : RF R) : R 177 83 = some (23, 4, 236) := h _ (List.mem_of_getElem? (i := 235) rfl)
theorem r_177_84 {R : Nat → Nat → Option MRef} (h : RF R) : R 177 84 = some (23, 3, 237) := h _ (List.mem_of_getElem? (i := 236) rfl)
theorem r_177_85 {R : Nat → Nat → Option MRef} (h : RF R) : R 177 85 = some (23, 4, 238) := h _ (List.mem_of_getElem? (i := 237) rfl)
theorem r_177_86 {R : Nat → Nat → Option MRef} (h : RF R) : R 177 86 = some (23, 6, 239) := h _ (List.mem_of_getElem? (i := 238) rfl)
theorem r_177_87 {R : Nat → Nat → Option MRef} (h : RF R) : R 177 87 = some (23, 5, 240) := h _ (List.mem_of_getElem? (i := 239) rfl)
theorem r_177_88 {R : Nat → Nat → Option MRef} (h : RF R) : R 177 88 = some (23, 3, 241) := h _ (List.mem_of_getElem? (i := 240) rfl)
theorem r_177_89 {R : Nat → Nat → Option MRef} (h : RF R) : R 177 89 = some (23, 3, 242) := h _ (List.mem_of_getElem? (i := 241) rfl)
theorem r_177_90 {R : Nat → Nat → Option MRef} (h : RF R) : R 177 90 = some (23, 5, 243) := h _ (List.mem_of_getElem? (i := 242) rfl)
theorem r_177_91 {R : Nat → Nat → Option MRef} (h : RF R) : R 177 91 = some (20, 1700, 244) := h _ (List.mem_of_getElem? (i := 243) rfl)
theorem r_177_93 {R : Nat → Nat → Option MRef} (h : RF R) : R 177 93 = some (20, 1700, 245) := h _ (List.mem_of_getElem? (i := 244) rfl)
theorem r_177_97 {R : Nat → Nat → Option MRef} (h : RF R) : R 177 97 = some (21, 1700, 246) := h _ (List.mem_of_getElem? (i := 245) rfl)
theorem r_177_101 {R : Nat → Nat → Option MRef} (h : RF R) : R 177 101 = some (20, 100, 247) := h _ (List.mem_of_getElem? (i := 246) rfl)
theorem ly_6 {R : Nat → Nat → Option MRef} (h : RF R) : LayR R 6 := ⟨r_6_2 h, r_6_3 h, r_6_4 h⟩
theorem ly_14 {R : Nat → Nat → Option MRef} (h : RF R) : LayR R 14 := ⟨r_14_2 h, r_14_3 h, r_14_4 h⟩
theorem ly_20 {R : Nat → Nat → Option MRef} (h : RF R) : LayR R 20 := ⟨r_20_2 h, r_20_3 h, r_20_4 h⟩
theorem ly_31 {R : Nat → Nat → Option MRef} (h : RF R) : LayR R 31 := ⟨r_31_2 h, r_31_3 h, r_31_4 h⟩
theorem ly_35 {R : Nat → Nat → Option MRef} (h : RF R) : LayR R 35 := ⟨r_35_2 h, r_35_3 h, r_35_4 h⟩
theorem ly_39 {R : Nat → Nat → Option MRef} (h : RF R) : LayR R 39 := ⟨r_39_2 h, r_39_3 h, r_39_4 h⟩
theorem lg_45 {R : Nat → Nat → Option MRef} (h : RF R) : LogR R 45 := r_45_0 h
theorem ly_50 {R : Nat → Nat → Option MRef} (h : RF R) : LayR R 50 := ⟨r_50_2 h, r_50_3 h, r_50_4 h⟩
theorem lg_54 {R : Nat → Nat → Option MRef} (h : RF R) : LogR R 54 := r_54_0 h
theorem ly_56 {R : Nat → Nat → Option MRef} (h : RF R) : LayR R 56 := ⟨r_56_2 h, r_56_3 h, r_56_4 h⟩
theorem lg_60 {R : Nat → Nat → Option MRef} (h : RF R) : LogR R 60 := r_60_0 h
theorem ly_62 {R : Nat → Nat → Option MRef} (h : RF R) : LayR R 62 := ⟨r_62_2 h, r_62_3 h, r_62_4 h⟩
theorem lg_66 {R : Nat → Nat → Option MRef} (h : RF R) : LogR R 66 := r_66_0 h
theorem ly_68 {R : Nat → Nat → Option MRef} (h : RF R) : LayR R 68 := ⟨r_68_2 h, r_68_3 h, r_68_4 h⟩
theorem lg_72 {R : Nat → Nat → Option MRef} (h : RF R) : LogR R 72 := r_72_0 h
theorem ly_74 {R : Nat → Nat → Option MRef} (h : RF R) : LayR R 74 := ⟨r_74_2 h, r_74_3 h, r_74_4 h⟩
theorem lg_78 {R : Nat → Nat → Option MRef} (h : RF R) : LogR R 78 := r_78_0 h
theorem ly_80 {R : Nat → Nat → Option MRef} (h : RF R) : LayR R 80 := ⟨r_80_2 h, r_80_3 h, r_80_4 h⟩
theorem lg_84 {R : Nat → Nat → Option MRef} (h : RF R) : LogR R 84 := r_84_0 h
theorem ly_86 {R : Nat → Nat → Option MRef} (h : RF R) : LayR R 86 := ⟨r_86_2 h, r_86_3 h, r_86_4 h⟩
theorem lg_90 {R : Nat → Nat → Option MRef} (h : RF R) : LogR R 90 := r_90_0 h
theorem ly_92 {R : Nat → Nat → Option MRef} (h : RF R) : LayR R 92 := ⟨r_92_2 h, r_92_3 h, r_92_4 h⟩
theorem lg_96 {R : Nat → Nat → Option MRef} (h : RF R) : LogR R 96 := r_96_0 h
theorem ly_98 {R : Nat → Nat → Option MRef} (h : RF R) : LayR R 98 := ⟨r_98_2 h, r_98_3 h, r_98_4 h⟩
theorem lg_102 {R : Nat → Nat → Option MRef} (h : RF R) : LogR R 102 := r_102_0 h
theorem ly_104 {R : Nat → Nat → Option MRef} (h : RF R) : LayR R 104 := ⟨r_104_2 h, r_104_3 h, r_104_4 h⟩
theorem lg_108 {R : Nat → Nat → Option MRef} (h : RF R) : LogR R 108 := r_108_0 h
theorem ly_110 {R : Nat → Nat → Option MRef} (h : RF R) : LayR R 110 := ⟨r_110_2 h, r_110_3 h, r_110_4 h⟩
theorem lg_114 {R : Nat → Nat → Option MRef} (h : RF R) : LogR R 114 := r_114_0 h
theorem ly_116 {R : Nat → Nat → Option MRef} (h : RF R) : LayR R 116 := ⟨r_116_2 h, r_116_3 h, r_116_4 h⟩
theorem lg_120 {R : Nat → Nat → Option MRef} (h : RF R) : LogR R 120 := r_120_0 h
theorem ly_122 {R : Nat → Nat → Option MRef} (h : RF R) : LayR R 122 := ⟨r_122_2 h, r_122_3 h, r_122_4 h⟩
theorem lg_126 {R : Nat → Nat → Option MRef} (h : RF R) : LogR R 126 := r_126_0 h
theorem ly_128 {R : Nat → Nat → Option MRef} (h : RF R) : LayR R 128 := ⟨r_128_2 h, r_128_3 h, r_128_4 h⟩
theorem lg_132 {R : Nat → Nat → Option MRef} (h : RF R) : LogR R 132 := r_132_0 h
theorem ly_134 {R : Nat → Nat → Option MRef} (h : RF R) : LayR R 134 := ⟨r_134_2 h, r_134_3 h, r_134_4 h⟩
theorem lg_138 {R : Nat → Nat → Option MRef} (h : RF R) : LogR R 138 := r_138_0 h
theorem ly_140 {R : Nat → Nat → Option MRef} (h : RF R) : LayR R 140 := ⟨r_140_2 h, r_140_3 h, r_140_4 h⟩
theorem lg_144 {R : Nat → Nat → Option MRef} (h : RF R) : LogR R 144 := r_144_0 h
theorem ly_146 {R : Nat → Nat → Option MRef} (h : RF R) : LayR R 146 := ⟨r_146_2 h, r_146_3 h, r_146_4 h⟩
theorem lg_150 {R : Nat → Nat → Option MRef} (h : RF R) : LogR R 150 := r_150_0 h
theorem ly_152 {R : Nat → Nat → Option MRef} (h : RF R) : LayR R 152 := ⟨r_152_2 h, r_152_3 h, r_152_4 h⟩
theorem lg_156 {R : Nat → Nat → Option MRef} (h : RF R) : LogR R 156 := r_156_0 h
theorem ly_158 {R : Nat → Nat → Option MRef} (h : RF R) : LayR R 158 := ⟨r_158_2 h, r_158_3 h, r_158_4 h⟩
theorem lg_162 {R : Nat → Nat → Option MRef} (h : RF R) : LogR R 162 := r_162_0 h
theorem ly_164 {R : Nat → Nat → Option MRef} (h : RF R) : LayR R 164 := ⟨r_164_2 h, r_164_3 h, r_164_4 h⟩
theorem lg_168 {R : Nat → Nat → Option MRef} (h : RF R) : LogR R 168 := r_168_0 h
def SlopeR (R : Nat → Nat → Option MRef) (k : Nat) : Prop := R k 5 = some (20, 6, k + 1) ∧ R k 6 = some (20, 36, k + 2) ∧ R k 7 = some (3, 0, k + 3) ∧ R k 8 = some (20, 1600, k + 7) ∧ LayR R (k + 3)
theorem sl_3 {R : Nat → Nat → Option MRef} (h : RF R) : SlopeR R 3 := ⟨r_3_5 h, r_3_6 h, r_3_7 h, r_3_8 h, ly_6 h⟩
theorem sl_11 {R : Nat → Nat → Option MRef} (h : RF R) : SlopeR R 11 := ⟨r_11_5 h, r_11_6 h, r_11_7 h, r_11_8 h, ly_14 h⟩
theorem sl_of {R : Nat → Nat → Option MRef} (h : RF R) {k : Nat} (hk : k = 3 ∨ k = 11) : SlopeR R k := by rcases hk with rfl | rfl; exact sl_3 h; exact sl_11 h
theorem hist_of {R : Nat → Nat → Option MRef} (h : RF R) : ∀ j, j < 20 → R 48 j = some (3, 0, 50 + 6 * j) ∧ R 49 j = some (4, 0, 54 + 6 * j) ∧ LayR R (50 + 6 * j) ∧ LogR R (54 + 6 * j) := by
  intro j hj
  match j, hj with
  | 0, _ => exact ⟨r_48_0 h, r_49_0 h, ly_50 h, lg_54 h⟩
  | 1, _ => exact ⟨r_48_1 h, r_49_1 h, ly_56 h, lg_60 h⟩
  | 2, _ => exact ⟨r_48_2 h, r_49_2 h, ly_62 h, lg_66 h⟩
  | 3, _ => exact ⟨r_48_3 h, r_49_3 h, ly_68 h, lg_72 h⟩
  | 4, _ => exact ⟨r_48_4 h, r_49_4 h, ly_74 h, lg_78 h⟩
  | 5, _ => exact ⟨r_48_5 h, r_49_5 h, ly_80 h, lg_84 h⟩
  | 6, _ => exact ⟨r_48_6 h, r_49_6 h, ly_86 h, lg_90 h⟩
  | 7, _ => exact ⟨r_48_7 h, r_49_7 h, ly_92 h, lg_96 h⟩
  | 8, _ => exact ⟨r_48_8 h, r_49_8 h, ly_98 h, lg_102 h⟩
  | 9, _ => exact ⟨r_48_9 h, r_49_9 h, ly_104 h, lg_108 h⟩
  | 10, _ => exact ⟨r_48_10 h, r_49_10 h, ly_110 h, lg_114 h⟩
  | 11, _ => exact ⟨r_48_11 h, r_49_11 h, ly_116 h, lg_120 h⟩
  | 12, _ => exact ⟨r_48_12 h, r_49_12 h, ly_122 h, lg_126 h⟩
  | 13, _ => exact ⟨r_48_13 h, r_49_13 h, ly_128 h, lg_132 h⟩
  | 14, _ => exact ⟨r_48_14 h, r_49_14 h, ly_134 h, lg_138 h⟩
  | 15, _ => exact ⟨r_48_15 h, r_49_15 h, ly_140 h, lg_144 h⟩
  | 16, _ => exact ⟨r_48_16 h, r_49_16 h, ly_146 h, lg_150 h⟩
  | 17, _ => exact ⟨r_48_17 h, r_49_17 h, ly_152 h, lg_156 h⟩
  | 18, _ => exact ⟨r_48_18 h, r_49_18 h, ly_158 h, lg_162 h⟩
  | 19, _ => exact ⟨r_48_19 h, r_49_19 h, ly_164 h, lg_168 h⟩
  | j + 20, hj => exact absurd hj (by omega)

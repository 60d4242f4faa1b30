/-! classes by number, field links, constants: checked against the tables' words -/
def m_cn : Nat → String := fun c => match c with
  | 0 => RX0
  | 1 => RX1
  | 2 => RX2
  | 3 => RX3
  | 4 => RX4
  | 5 => RX5
  | 6 => RX6
  | 7 => RX7
  | 8 => RX8
  | 9 => RX9
  | 10 => RX10
  | 11 => RX11
  | 12 => RX12
  | 13 => "WalkFenceLaw"
  | 14 => "java/lang/Integer"
  | 15 => "java/lang/Math"
  | 16 => "java/util/Arrays"
  | 17 => "java/lang/System"
  | 18 => "java/lang/String"
  | 19 => "java/lang/StringLatin1"
  | _ => ""
def m_T : Nat → u_T := fun c => match c with
  | 0 => TX0
  | 1 => TX1
  | 2 => TX2
  | 3 => TX3
  | 4 => TX4
  | 5 => TX5
  | 6 => TX6
  | 7 => TX7
  | 8 => TX8
  | 9 => TX9
  | 10 => TX10
  | 11 => TX11
  | 12 => TX12
  | _ => TX0
def m_ty : Nat → Nat → FieldType := fun c => match c with
  | 0 => tyX0
  | 1 => tyX1
  | 2 => tyX2
  | 3 => tyX3
  | 4 => tyX4
  | 5 => tyX5
  | 6 => tyX6
  | 7 => tyX7
  | 8 => tyX8
  | 9 => tyX9
  | 10 => tyX10
  | 11 => tyX11
  | 12 => tyX12
  | _ => tyX0
def m_nf : Nat → Nat := fun c => match c with
  | 0 => 18
  | 1 => 4
  | 2 => 2
  | 3 => 5
  | 4 => 3
  | 5 => 13
  | 6 => 4
  | 7 => 4
  | 8 => 13
  | 9 => 2
  | 10 => 2
  | 11 => 13
  | 12 => 103
  | _ => 0
/-- what is known of a class by its number -/
def m_cls (c : Nat) : Prop := vwCl[c]? = some (m_cn c, m_T c, m_nf c) ∧ (∀ w ∈ u_ws (m_cn c) (m_T c) (m_nf c), w ∈ tw) ∧ (∀ k, k < m_nf c → parseFieldDescriptor (m_T c k).2.2.1 = some (m_ty c k)) ∧ (∀ a, a < m_nf c → ∀ b, b < m_nf c → a ≠ b → (m_T c a).2.1 ≠ (m_T c b).2.1) ∧ ∀ k, k < m_nf c → (m_T c k).1 = m_cn c
theorem m_cls0 : m_cls 0 := ⟨rfl, inX0, tyX0_ok, nmX0, by decide +kernel⟩
theorem m_cls1 : m_cls 1 := ⟨rfl, inX1, tyX1_ok, nmX1, by decide +kernel⟩
theorem m_cls2 : m_cls 2 := ⟨rfl, inX2, tyX2_ok, nmX2, by decide +kernel⟩
theorem m_cls3 : m_cls 3 := ⟨rfl, inX3, tyX3_ok, nmX3, by decide +kernel⟩
theorem m_cls4 : m_cls 4 := ⟨rfl, inX4, tyX4_ok, nmX4, by decide +kernel⟩
theorem m_cls5 : m_cls 5 := ⟨rfl, inX5, tyX5_ok, nmX5, by decide +kernel⟩
theorem m_cls6 : m_cls 6 := ⟨rfl, inX6, tyX6_ok, nmX6, by decide +kernel⟩
theorem m_cls7 : m_cls 7 := ⟨rfl, inX7, tyX7_ok, nmX7, by decide +kernel⟩
theorem m_cls8 : m_cls 8 := ⟨rfl, inX8, tyX8_ok, nmX8, by decide +kernel⟩
theorem m_cls9 : m_cls 9 := ⟨rfl, inX9, tyX9_ok, nmX9, by decide +kernel⟩
theorem m_cls10 : m_cls 10 := ⟨rfl, inX10, tyX10_ok, nmX10, by decide +kernel⟩
theorem m_cls11 : m_cls 11 := ⟨rfl, inX11, tyX11_ok, nmX11, by decide +kernel⟩
theorem m_cls12 : m_cls 12 := ⟨rfl, inX12, tyX12_ok, nmX12, by decide +kernel⟩
theorem m_cls_of {c : Nat} (h : c < 13) : m_cls c := by
  match c, h with
  | 0, _ => exact m_cls0
  | 1, _ => exact m_cls1
  | 2, _ => exact m_cls2
  | 3, _ => exact m_cls3
  | 4, _ => exact m_cls4
  | 5, _ => exact m_cls5
  | 6, _ => exact m_cls6
  | 7, _ => exact m_cls7
  | 8, _ => exact m_cls8
  | 9, _ => exact m_cls9
  | 10, _ => exact m_cls10
  | 11, _ => exact m_cls11
  | 12, _ => exact m_cls12
  | k + 13, h => exact absurd h (by omega)
/-- field links: the class that asks, its pool's place, the class that has it, the field's number -/
def m_fq0 : List (Nat × Nat × Nat × Nat) := [(0, 12, 0, 2), (0, 18, 0, 3), (0, 21, 0, 4), (0, 24, 0, 5), (0, 28, 0, 6), (0, 31, 0, 7), (0, 35, 0, 0), (0, 38, 0, 1), (0, 60, 10, 1), (0, 64, 8, 1), (0, 73, 8, 2), (0, 85, 0, 8), (0, 88, 0, 9), (0, 91, 0, 10), (0, 98, 0, 11), (0, 114, 8, 3)]
def m_fq1 : List (Nat × Nat × Nat × Nat) := [(0, 132, 3, 1), (0, 147, 0, 12), (0, 150, 0, 13), (0, 153, 0, 14), (0, 172, 0, 15), (0, 175, 0, 16), (0, 178, 0, 17), (1, 11, 1, 0), (1, 19, 1, 1), (1, 25, 1, 3), (1, 29, 1, 2), (2, 11, 2, 0), (2, 15, 2, 1), (2, 19, 3, 0), (2, 32, 8, 1), (2, 37, 8, 2)]
def m_fq2 : List (Nat × Nat × Nat × Nat) := [(2, 44, 8, 3), (2, 64, 9, 1), (2, 85, 3, 1), (3, 9, 3, 2), (3, 15, 3, 3), (3, 18, 3, 4), (3, 27, 3, 0), (3, 31, 3, 1), (4, 9, 4, 0), (4, 15, 4, 1), (4, 19, 4, 2), (5, 9, 5, 2), (5, 15, 5, 0), (5, 19, 5, 4), (5, 36, 8, 0), (5, 39, 5, 6)]
def m_fq3 : List (Nat × Nat × Nat × Nat) := [(5, 42, 5, 9), (5, 66, 5, 7), (5, 78, 5, 11), (5, 82, 5, 12), (5, 85, 5, 3), (5, 97, 5, 5), (5, 100, 8, 10), (5, 103, 5, 1), (5, 106, 5, 8), (5, 109, 9, 1), (5, 141, 9, 0), (5, 148, 5, 10), (5, 151, 8, 3), (5, 154, 8, 6), (5, 167, 8, 1), (5, 170, 8, 2)]
def m_fq4 : List (Nat × Nat × Nat × Nat) := [(5, 173, 8, 5), (5, 176, 8, 7), (5, 204, 8, 9), (5, 207, 8, 12), (5, 210, 8, 11), (5, 213, 8, 4), (5, 216, 8, 8), (6, 11, 6, 0), (6, 15, 6, 1), (6, 18, 6, 2), (6, 21, 6, 3), (7, 9, 7, 0), (7, 15, 7, 1), (7, 18, 7, 2), (7, 21, 9, 1), (7, 41, 7, 3)]
def m_fq5 : List (Nat × Nat × Nat × Nat) := [(8, 9, 8, 5), (8, 15, 8, 6), (8, 21, 8, 7), (8, 25, 8, 8), (8, 28, 8, 0), (8, 32, 8, 1), (8, 35, 8, 2), (8, 38, 8, 3), (8, 41, 8, 4), (8, 44, 8, 9), (8, 47, 8, 10), (8, 50, 8, 11), (8, 53, 8, 12), (9, 9, 9, 0), (9, 15, 9, 1), (10, 12, 10, 0)]
def m_fq6 : List (Nat × Nat × Nat × Nat) := [(10, 18, 10, 1), (10, 22, 6, 1), (10, 32, 3, 0), (10, 41, 8, 10), (10, 44, 8, 9), (10, 47, 8, 8), (10, 63, 8, 3), (10, 74, 3, 1), (10, 85, 8, 1), (10, 122, 8, 2), (10, 125, 8, 12), (10, 128, 8, 11), (10, 137, 6, 2), (10, 140, 6, 3), (11, 12, 11, 0), (11, 19, 11, 1)]
def m_fq7 : List (Nat × Nat × Nat × Nat) := [(11, 23, 11, 2), (11, 31, 11, 3), (11, 38, 11, 4), (11, 47, 11, 5), (11, 56, 11, 6), (11, 63, 11, 7), (11, 70, 11, 8), (11, 77, 11, 9), (11, 84, 11, 10), (11, 88, 11, 11), (11, 92, 11, 12), (11, 96, 9, 1), (11, 111, 10, 1), (11, 112, 8, 7), (11, 119, 7, 3), (11, 122, 8, 0)]
def m_fq8 : List (Nat × Nat × Nat × Nat) := [(11, 125, 5, 1), (11, 128, 5, 2), (11, 131, 8, 1), (11, 134, 8, 2), (11, 137, 8, 3), (11, 140, 3, 0), (11, 150, 3, 1), (11, 161, 4, 2), (11, 162, 1, 3), (11, 167, 8, 6), (11, 184, 3, 2), (11, 233, 0, 9), (11, 236, 0, 10), (11, 239, 0, 11), (11, 257, 0, 12), (11, 260, 0, 13)]
def m_fq9 : List (Nat × Nat × Nat × Nat) := [(11, 263, 0, 14), (11, 269, 0, 15), (11, 272, 0, 16), (11, 275, 0, 17), (11, 294, 8, 4), (11, 312, 5, 3), (11, 323, 2, 1), (11, 324, 2, 0), (11, 328, 0, 2), (12, 7, 12, 0), (12, 13, 12, 8), (12, 17, 12, 9), (12, 20, 12, 11), (12, 24, 12, 12), (12, 27, 12, 13), (12, 30, 12, 14)]
def m_fq10 : List (Nat × Nat × Nat × Nat) := [(12, 33, 12, 15), (12, 36, 12, 16), (12, 39, 12, 17), (12, 42, 12, 18), (12, 45, 12, 19), (12, 48, 12, 20), (12, 51, 12, 21), (12, 54, 12, 22), (12, 57, 12, 23), (12, 60, 12, 24), (12, 63, 12, 25), (12, 66, 12, 26), (12, 69, 12, 27), (12, 72, 12, 28), (12, 75, 12, 29), (12, 78, 12, 30)]
def m_fq11 : List (Nat × Nat × Nat × Nat) := [(12, 81, 12, 31), (12, 84, 12, 32), (12, 87, 12, 33), (12, 90, 12, 34), (12, 93, 12, 36), (12, 96, 12, 37), (12, 99, 12, 38), (12, 103, 12, 39), (12, 106, 12, 40), (12, 109, 12, 41), (12, 112, 12, 44), (12, 115, 12, 45), (12, 118, 12, 46), (12, 121, 12, 51), (12, 124, 12, 52), (12, 127, 12, 57)]
def m_fq12 : List (Nat × Nat × Nat × Nat) := [(12, 130, 12, 58), (12, 133, 12, 60), (12, 136, 12, 61), (12, 139, 12, 62), (12, 143, 12, 64), (12, 146, 12, 65), (12, 149, 12, 68), (12, 153, 12, 69), (12, 156, 12, 70), (12, 159, 12, 71), (12, 162, 12, 72), (12, 165, 12, 73), (12, 168, 12, 74), (12, 171, 12, 75), (12, 174, 12, 76), (12, 177, 12, 77)]
def m_fq13 : List (Nat × Nat × Nat × Nat) := [(12, 180, 12, 78), (12, 183, 12, 79), (12, 186, 12, 80), (12, 189, 12, 81), (12, 192, 12, 82), (12, 195, 12, 83), (12, 198, 12, 84), (12, 201, 12, 85), (12, 204, 12, 86), (12, 207, 12, 87), (12, 210, 12, 88), (12, 213, 12, 89), (12, 216, 12, 90), (12, 219, 12, 91), (12, 222, 12, 93), (12, 225, 12, 97)]
def m_fq14 : List (Nat × Nat × Nat × Nat) := [(12, 228, 12, 101), (12, 231, 12, 1), (12, 234, 12, 5), (12, 237, 12, 6), (12, 240, 12, 2), (12, 243, 12, 3), (12, 254, 12, 4), (12, 274, 12, 10), (12, 285, 12, 35), (12, 292, 12, 50), (12, 315, 12, 92), (12, 318, 12, 94), (12, 321, 12, 95), (12, 324, 12, 96), (12, 333, 12, 47), (12, 336, 12, 48)]
def m_fq15 : List (Nat × Nat × Nat × Nat) := [(12, 354, 12, 42), (12, 363, 12, 7), (12, 369, 12, 49), (12, 373, 12, 43), (12, 376, 12, 66), (12, 379, 12, 59), (12, 398, 12, 98), (12, 412, 12, 53), (12, 415, 12, 54), (12, 423, 12, 55), (12, 430, 12, 56), (12, 530, 12, 63), (12, 542, 12, 67), (12, 634, 12, 99), (12, 637, 12, 100), (12, 653, 12, 102)]
def m_flds : List (Nat × Nat × Nat × Nat) := m_fq0 ++ (m_fq1 ++ (m_fq2 ++ (m_fq3 ++ (m_fq4 ++ (m_fq5 ++ (m_fq6 ++ (m_fq7 ++ (m_fq8 ++ (m_fq9 ++ (m_fq10 ++ (m_fq11 ++ (m_fq12 ++ (m_fq13 ++ (m_fq14 ++ (m_fq15)))))))))))))))
def m_fw (q : Nat × Nat × Nat × Nat) : Cond := .fieldLink (m_cn q.1) q.2.1 (m_T q.2.2.1 q.2.2.2).1 (m_T q.2.2.1 q.2.2.2).2.1 (m_T q.2.2.1 q.2.2.2).2.2.1
set_option maxRecDepth 100000 in
theorem m_flds_ok : ∀ q ∈ m_flds, q.2.2.1 < 13 ∧ q.2.2.2 < m_nf q.2.2.1 := by decide +kernel
theorem tw_ps {ws : List Cond} (ps : List Nat) (hp : ws.map some = ps.map (fun i => tables_1[i]?)) (h : ws.all goodWord = true) : ∀ w ∈ ws, w ∈ tw := by
  intro w hw
  have h1 : some w ∈ ps.map (fun i => tables_1[i]?) := by rw [← hp]; exact List.mem_map_of_mem hw
  obtain ⟨i, -, hi⟩ := List.mem_map.mp h1
  exact tw_of (List.mem_of_getElem? hi) (List.all_eq_true.mp h w hw)
set_option maxRecDepth 100000 in
theorem m_fl_0 : ∀ w ∈ m_fq0.map m_fw, w ∈ tw := tw_ps [261, 263, 264, 265, 266, 267, 259, 260, 245, 95, 102, 268, 269, 271, 273, 108] (by decide +kernel) (by decide +kernel)
set_option maxRecDepth 100000 in
theorem m_fl_1 : ∀ w ∈ m_fq1.map m_fw, w ∈ tw := tw_ps [72, 275, 277, 279, 281, 283, 285, 353, 354, 356, 355, 393, 395, 65, 93, 99] (by decide +kernel) (by decide +kernel)
set_option maxRecDepth 100000 in
theorem m_fl_2 : ∀ w ∈ m_fq2.map m_fw, w ∈ tw := tw_ps [105, 41, 70, 73, 75, 76, 64, 68, 330, 331, 332, 172, 169, 176, 90, 178] (by decide +kernel) (by decide +kernel)
set_option maxRecDepth 100000 in
theorem m_fl_3 : ∀ w ∈ m_fq3.map m_fw, w ∈ tw := tw_ps [181, 179, 183, 184, 174, 177, 129, 170, 180, 42, 37, 182, 109, 117, 97, 103] (by decide +kernel) (by decide +kernel)
set_option maxRecDepth 100000 in
theorem m_fl_4 : ∀ w ∈ m_fq4.map m_fw, w ∈ tw := tw_ps [114, 120, 126, 135, 132, 111, 123, 226, 227, 229, 231, 373, 374, 375, 38, 376] (by decide +kernel) (by decide +kernel)
set_option maxRecDepth 100000 in
theorem m_fl_5 : ∀ w ∈ m_fq5.map m_fw, w ∈ tw := tw_ps [113, 115, 118, 121, 89, 92, 98, 104, 110, 124, 127, 130, 133, 36, 40, 242] (by decide +kernel) (by decide +kernel)
set_option maxRecDepth 100000 in
theorem m_fl_6 : ∀ w ∈ m_fq6.map m_fw, w ∈ tw := tw_ps [243, 228, 66, 128, 125, 122, 106, 69, 94, 100, 134, 131, 230, 232, 402, 403] (by decide +kernel) (by decide +kernel)
set_option maxRecDepth 100000 in
theorem m_fl_7 : ∀ w ∈ m_fq7.map m_fw, w ∈ tw := tw_ps [404, 405, 406, 407, 408, 409, 410, 411, 412, 413, 414, 39, 244, 119, 377, 91] (by decide +kernel) (by decide +kernel)
set_option maxRecDepth 100000 in
theorem m_fl_8 : ∀ w ∈ m_fq8.map m_fw, w ∈ tw := tw_ps [171, 173, 96, 101, 107, 67, 71, 333, 357, 116, 74, 270, 272, 274, 276, 278] (by decide +kernel) (by decide +kernel)
set_option maxRecDepth 100000 in
theorem m_fl_9 : ∀ w ∈ m_fq9.map m_fw, w ∈ tw := tw_ps [280, 282, 284, 286, 112, 175, 396, 394, 262, 1161, 1169, 1170, 1172, 1173, 1174, 1175] (by decide +kernel) (by decide +kernel)
set_option maxRecDepth 100000 in
theorem m_fl_10 : ∀ w ∈ m_fq10.map m_fw, w ∈ tw := tw_ps [1176, 1177, 1178, 1179, 1180, 1181, 1182, 1183, 1184, 1185, 1186, 1187, 1188, 1189, 1190, 1191] (by decide +kernel) (by decide +kernel)
set_option maxRecDepth 100000 in
theorem m_fl_11 : ∀ w ∈ m_fq11.map m_fw, w ∈ tw := tw_ps [1192, 1193, 1194, 1195, 1197, 1198, 1199, 1200, 1201, 1202, 1205, 1206, 1207, 1212, 1213, 1218] (by decide +kernel) (by decide +kernel)
set_option maxRecDepth 100000 in
theorem m_fl_12 : ∀ w ∈ m_fq12.map m_fw, w ∈ tw := tw_ps [1219, 1221, 1222, 1223, 1225, 1226, 1229, 1230, 1231, 1232, 1233, 1234, 1235, 1236, 1237, 1238] (by decide +kernel) (by decide +kernel)
set_option maxRecDepth 100000 in
theorem m_fl_13 : ∀ w ∈ m_fq13.map m_fw, w ∈ tw := tw_ps [1239, 1240, 1241, 1242, 1243, 1244, 1245, 1246, 1247, 1248, 1249, 1250, 1251, 1252, 1254, 1258] (by decide +kernel) (by decide +kernel)
set_option maxRecDepth 100000 in
theorem m_fl_14 : ∀ w ∈ m_fq14.map m_fw, w ∈ tw := tw_ps [1262, 1162, 1166, 1167, 1163, 1164, 1165, 1171, 1196, 1211, 1253, 1255, 1256, 1257, 1208, 1209] (by decide +kernel) (by decide +kernel)
set_option maxRecDepth 100000 in
theorem m_fl_15 : ∀ w ∈ m_fq15.map m_fw, w ∈ tw := tw_ps [1203, 1168, 1210, 1204, 1227, 1220, 1259, 1214, 1215, 1216, 1217, 1224, 1228, 1260, 1261, 1263] (by decide +kernel) (by decide +kernel)
theorem m_flds_tw : ∀ w ∈ m_flds.map m_fw, w ∈ tw := by
  intro w hw
  unfold m_flds at hw
  simp only [List.map_append, List.mem_append] at hw
  rcases hw with hw | hw | hw | hw | hw | hw | hw | hw | hw | hw | hw | hw | hw | hw | hw | hw
  · exact m_fl_0 w hw
  · exact m_fl_1 w hw
  · exact m_fl_2 w hw
  · exact m_fl_3 w hw
  · exact m_fl_4 w hw
  · exact m_fl_5 w hw
  · exact m_fl_6 w hw
  · exact m_fl_7 w hw
  · exact m_fl_8 w hw
  · exact m_fl_9 w hw
  · exact m_fl_10 w hw
  · exact m_fl_11 w hw
  · exact m_fl_12 w hw
  · exact m_fl_13 w hw
  · exact m_fl_14 w hw
  · exact m_fl_15 w hw
def m_cI : List (Nat × Nat × Int32) := [(14, 265, 1431655765), (14, 266, 858993459), (14, 267, 252645135), (6, 49, 1000000), (6, 52, -1000000), (14, 264, 65536), (11, 351, 1103515245), (11, 352, 2147483647), (5, 77, 63552), (5, 81, 131104)]
def m_cJ : List (Nat × Nat × Int64) := [(6, 47, 1000000), (6, 50, -1000000), (11, 307, -1000000000000000), (11, 360, -1), (12, 288, 27), (12, 290, 97), (12, 485, 5), (12, 616, 1000000), (12, 618, -1000000), (12, 421, 9), (12, 493, 2), (12, 551, 1103515245), (12, 553, 12345), (12, 555, 2147483648), (12, 557, 64), (12, 640, -1000000000000000), (12, 628, -1)]
set_option maxRecDepth 100000 in
theorem m_cI_tw : ∀ w ∈ m_cI.map (fun q => Cond.constant (m_cn q.1) q.2.1 q.2.2), w ∈ tw := in_tw (by decide +kernel)
set_option maxRecDepth 100000 in
theorem m_cJ_tw : ∀ w ∈ m_cJ.map (fun q => Cond.constantLong (m_cn q.1) q.2.1 q.2.2), w ∈ tw := in_tw (by decide +kernel)

/-! the tables of links and methods: by program -/
def smLF : sm_L4 := [(0, 10, 0, 0), (0, 19, 0, 1), (0, 37, 0, 3), (0, 120, 4, 8), (0, 67, 0, 7), (0, 60, 0, 6), (0, 149, 8, 13), (0, 152, 8, 11), (0, 145, 8, 6), (0, 135, 8, 14), (0, 53, 0, 5), (0, 180, 7, 10), (0, 124, 1, 7), (0, 28, 0, 2), (9, 199, 9, 0), (9, 22, 9, 6), (9, 202, 9, 1), (9, 7, 9, 2), (9, 13, 9, 3), (9, 16, 9, 4), (9, 19, 9, 5), (9, 192, 9, 7), (9, 25, 9, 8), (9, 28, 9, 9), (9, 31, 9, 10), (9, 34, 9, 11), (9, 37, 9, 12), (9, 216, 9, 13), (9, 55, 9, 19), (9, 40, 9, 14), (9, 43, 9, 15), (9, 46, 9, 16), (9, 49, 9, 17), (9, 52, 9, 18), (9, 58, 9, 23), (9, 225, 9, 20), (9, 61, 9, 24), (9, 228, 9, 22), (9, 64, 9, 25), (9, 67, 9, 26), (9, 73, 9, 28), (9, 231, 9, 21), (9, 76, 9, 32), (9, 245, 9, 30), (9, 79, 9, 33), (9, 82, 9, 34), (9, 85, 9, 35), (9, 248, 9, 31), (9, 88, 9, 36), (9, 251, 9, 29), (9, 70, 9, 27), (9, 284, 9, 47), (9, 288, 9, 39), (9, 91, 9, 40), (9, 94, 9, 41), (9, 97, 9, 42), (9, 100, 9, 43), (9, 106, 9, 45), (9, 291, 9, 54), (9, 294, 9, 52), (9, 103, 9, 44), (9, 109, 9, 46), (9, 124, 9, 59), (9, 297, 9, 50), (9, 300, 9, 51), (9, 127, 9, 60), (9, 133, 9, 62), (9, 130, 9, 61), (9, 112, 9, 55), (9, 303, 9, 48), (9, 115, 9, 56), (9, 118, 9, 57), (9, 121, 9, 58), (9, 306, 9, 49), (9, 137, 9, 63), (9, 327, 9, 53), (9, 140, 9, 64), (9, 143, 9, 65), (9, 167, 9, 77), (9, 170, 9, 78), (9, 173, 9, 79), (9, 176, 9, 80), (9, 179, 9, 81), (9, 182, 9, 82), (9, 185, 9, 83), (9, 378, 9, 38), (9, 381, 9, 37), (9, 164, 9, 76), (9, 421, 9, 66), (9, 424, 9, 69), (9, 146, 9, 70), (9, 149, 9, 71), (9, 427, 9, 67), (9, 430, 9, 68), (9, 152, 9, 72), (9, 155, 9, 73), (9, 158, 9, 74), (9, 161, 9, 75), (6, 21, 6, 2), (6, 29, 8, 11), (6, 17, 6, 0), (6, 33, 1, 7), (6, 11, 6, 1), (6, 69, 8, 1), (6, 75, 8, 2), (6, 78, 8, 3), (6, 81, 8, 4), (8, 47, 8, 6), (8, 50, 8, 11), (8, 39, 8, 12), (8, 53, 8, 13), (8, 57, 8, 15), (8, 27, 8, 7), (8, 30, 8, 8), (8, 33, 8, 9), (8, 36, 8, 10), (8, 43, 8, 0), (8, 11, 8, 1), (8, 15, 8, 2), (8, 18, 8, 3), (8, 21, 8, 4), (8, 24, 8, 5), (5, 43, 5, 10), (5, 50, 5, 9), (5, 54, 5, 5), (5, 72, 8, 15), (5, 24, 5, 6), (5, 27, 5, 7), (5, 30, 5, 8), (5, 80, 8, 13), (5, 37, 5, 1), (5, 83, 2, 0), (5, 88, 2, 1), (5, 20, 5, 4), (5, 17, 5, 3), (5, 33, 5, 0), (5, 13, 5, 2), (5, 114, 2, 2), (5, 117, 2, 3), (5, 134, 2, 4), (4, 31, 4, 4), (4, 35, 4, 7), (4, 38, 4, 8), (4, 41, 4, 9), (4, 15, 4, 2), (4, 27, 4, 0), (4, 49, 2, 0), (4, 52, 2, 1), (4, 11, 4, 1), (4, 18, 4, 3), (4, 21, 4, 5), (4, 24, 4, 6), (4, 74, 2, 2), (4, 77, 2, 3), (4, 80, 2, 4), (2, 30, 2, 6), (2, 11, 2, 0), (2, 15, 2, 1), (2, 18, 2, 2), (2, 21, 2, 3), (2, 24, 2, 4), (2, 27, 2, 5), (7, 32, 7, 7), (7, 36, 7, 8), (7, 40, 7, 9), (7, 43, 7, 6), (7, 46, 7, 10), (7, 11, 7, 0), (7, 17, 7, 1), (7, 70, 8, 2), (7, 73, 8, 3), (7, 76, 8, 4), (7, 79, 8, 1), (7, 20, 7, 2), (7, 23, 7, 3), (7, 26, 7, 4), (7, 29, 7, 5), (1, 43, 1, 7), (1, 11, 1, 0), (1, 15, 1, 1), (1, 18, 1, 2), (1, 21, 1, 3), (1, 24, 1, 4), (1, 27, 1, 5), (1, 30, 1, 6), (3, 25, 3, 3), (3, 21, 3, 1), (3, 33, 2, 0), (3, 38, 2, 1), (3, 11, 3, 2), (3, 59, 2, 2), (3, 62, 2, 3), (3, 65, 2, 4), (3, 17, 3, 0)]
def smLP : sm_L4 := [(9, 199, 9, 0), (9, 202, 9, 1), (9, 192, 9, 7), (9, 216, 9, 13), (9, 225, 9, 20), (9, 231, 9, 21), (9, 228, 9, 22), (9, 245, 9, 30), (9, 248, 9, 31), (9, 251, 9, 29), (9, 284, 9, 47), (9, 288, 9, 39), (9, 294, 9, 52), (9, 291, 9, 54), (9, 300, 9, 51), (9, 297, 9, 50), (9, 303, 9, 48), (9, 306, 9, 49), (9, 327, 9, 53), (9, 378, 9, 38), (9, 381, 9, 37), (9, 421, 9, 66), (9, 424, 9, 69), (9, 427, 9, 67), (9, 430, 9, 68), (6, 21, 6, 2), (8, 47, 8, 6), (8, 50, 8, 11), (8, 39, 8, 12), (8, 53, 8, 13), (8, 57, 8, 15), (5, 43, 5, 10), (5, 50, 5, 9), (5, 54, 5, 5), (5, 80, 8, 13), (4, 31, 4, 4), (4, 35, 4, 7), (4, 38, 4, 8), (4, 41, 4, 9), (2, 30, 2, 6), (7, 32, 7, 7), (7, 36, 7, 8), (7, 40, 7, 9), (7, 43, 7, 6), (7, 46, 7, 10), (1, 43, 1, 7), (3, 25, 3, 3)]
def smLM : sm_L3 := [(0, 78, 150), (0, 82, 158), (0, 86, 151), (0, 90, 156), (0, 94, 152), (0, 97, 136), (0, 100, 135), (0, 101, 14), (0, 146, 103), (0, 74, 138), (0, 155, 108), (0, 159, 109), (0, 163, 111), (0, 167, 113), (0, 131, 89), (0, 170, 114), (0, 174, 115), (0, 177, 139), (0, 183, 140), (0, 186, 164), (0, 138, 160), (9, 205, 17), (9, 209, 19), (9, 213, 20), (9, 188, 18), (9, 222, 24), (9, 234, 26), (9, 238, 27), (9, 242, 28), (9, 254, 36), (9, 258, 33), (9, 262, 32), (9, 266, 31), (9, 269, 35), (9, 275, 16), (9, 278, 30), (9, 281, 37), (9, 309, 40), (9, 313, 46), (9, 317, 43), (9, 321, 45), (9, 324, 41), (9, 330, 49), (9, 333, 44), (9, 337, 50), (9, 340, 42), (9, 343, 51), (9, 346, 47), (9, 350, 48), (9, 353, 53), (9, 356, 52), (9, 359, 54), (9, 362, 55), (9, 365, 56), (9, 372, 59), (9, 375, 57), (9, 196, 79), (9, 384, 62), (9, 393, 66), (9, 397, 69), (9, 400, 68), (9, 403, 71), (9, 406, 72), (9, 409, 70), (9, 415, 73), (9, 418, 75), (9, 433, 80), (9, 436, 82), (9, 439, 83), (9, 442, 84), (9, 445, 81), (9, 448, 85), (6, 25, 90), (6, 38, 91), (6, 42, 160), (6, 46, 107), (6, 50, 104), (6, 60, 105), (6, 63, 106), (6, 66, 93), (6, 84, 94), (6, 88, 159), (6, 92, 152), (6, 95, 153), (6, 98, 154), (6, 101, 95), (6, 104, 97), (6, 107, 99), (6, 111, 100), (6, 114, 101), (6, 117, 96), (6, 120, 155), (6, 123, 98), (6, 126, 157), (6, 130, 102), (8, 60, 104), (8, 64, 110), (8, 68, 156), (8, 77, 112), (8, 81, 152), (5, 47, 103), (5, 57, 108), (5, 61, 109), (5, 65, 117), (5, 69, 113), (5, 76, 124), (5, 91, 118), (5, 94, 122), (5, 97, 123), (5, 100, 125), (5, 103, 121), (5, 107, 119), (5, 110, 154), (5, 120, 126), (5, 127, 159), (5, 131, 153), (4, 45, 128), (4, 55, 129), (4, 58, 130), (4, 62, 131), (4, 65, 132), (4, 68, 133), (4, 71, 134), (2, 37, 137), (2, 41, 135), (7, 55, 141), (7, 59, 106), (7, 63, 142), (7, 67, 105), (7, 82, 143), (7, 86, 144), (7, 90, 145), (7, 93, 146), (7, 96, 147), (7, 99, 148), (7, 102, 149), (7, 106, 104), (1, 47, 150), (1, 39, 159), (1, 51, 156), (1, 58, 161), (1, 62, 162), (3, 29, 165), (3, 41, 167), (3, 44, 168), (3, 47, 169), (3, 50, 170), (3, 53, 171), (3, 56, 166), (3, 68, 153), (3, 71, 154), (3, 74, 152), (3, 77, 159)]
def smLN : sm_L3 := [(9, 219, 23), (9, 272, 34), (9, 368, 58), (9, 387, 64), (9, 390, 65), (9, 412, 74), (6, 54, 173), (6, 72, 92), (5, 124, 120), (2, 45, 172), (7, 49, 173), (1, 55, 163)]
def smLS : sm_L3 := [(8, 74, 1000), (2, 34, 1001)]
def smP : List sm_I := [f0, f1, f2, f3, f4, f5, f6, f7, f8, f9, f10, f11, f12, f13, f14, f15, f16, f17, f18, f19, f20, f21, f22, f23, f24, f25, f26, f27, f28, f29, f30, f31, f32, f33, f34, f35, f36, f37, f38, f39, f40, f41, f42, f43, f44, f45, f46, f47, f48, f49, f50, f51, f52, f53, f54, f55, f56, f57, f58, f59, f60, f61, f62, f63, f64, f65, f66, f67, f68, f69, f70, f71, f72, f73, f74, f75, f76, f77, f78, f79, f80, f81, f82, f83, f84, f85, f86, f87, f88, f89, f90, f91, f92, f93, f94, f95, f96, f97, f98, f99, f100, f101, f102, f103, f104, f105, f106, f107, f108, f109, f110, f111, f112, f113, f114, f115, f116, f117, f118, f119, f120, f121, f122, f123, f124, f125, f126, f127, f128, f129, f130, f131, f132, f133, f134, f135, f136, f137, f138, f139, f140, f141, f142, f143, f144, f145, f146, f147, f148, f149, f150, f151, f152, f153, f154, f155, f156, f157, f158, f159, f160, f161, f162, f163, f164, f165, f166, f167, f168, f169, f170, f171, f172, f173]
def smT : List Cond := lw_tbl.filter goodWord
theorem smT_in {w : Cond} (h : w ∈ smT) : w ∈ lw_tbl := (List.mem_filter.mp h).1
theorem sm_memr {ws : List Cond} (ps : List Nat) (hp : ws = ps.filterMap (fun i => lw_tbl[i]?)) (hg : ws.all goodWord = true) : ∀ w ∈ ws, w ∈ smT := by
  intro w hw
  have h1 := List.all_eq_true.mp hg w hw
  rw [hp] at hw
  obtain ⟨i, -, hi⟩ := List.mem_filterMap.mp hw
  exact List.mem_filter.mpr ⟨List.mem_of_getElem? hi, h1⟩
theorem sm_mem1 {w : Cond} (i : Nat) (h : lw_tbl[i]? = some w) (hg : goodWord w = true) : w ∈ smT := List.mem_filter.mpr ⟨List.mem_of_getElem? h, hg⟩
theorem sm_good : ∀ w ∈ smT, goodWord w = true := fun _ h => (List.mem_filter.mp h).2
theorem uw0 : ∀ w ∈ u_ws "TypedMill" tF0 9, w ∈ smT := sm_memr [468, 470, 472, 474, 476, 478, 480, 482, 484] (by decide +kernel) (by decide +kernel)
def tY0 : Nat → FieldType := fun k => [.object "TypedMill$Types", .object "TypedMill$Expressions", .object "TypedMill$Typing", .object "TypedMill$Evaluator", .object "TypedMill$CodeWriter", .object "TypedMill$Checker", .object "TypedMill$Machine", .object "TypedMill$Code", .object "TypedMill$Code"].getD k .int
theorem tY0_ok : ∀ k, k < 9 → parseFieldDescriptor (tF0 k).2.2.1 = some (tY0 k) := by decide +kernel
theorem nm0 : ∀ a, a < 9 → ∀ b, b < 9 → a ≠ b → (tF0 a).2.1 ≠ (tF0 b).2.1 := by decide +kernel
theorem uw1 : ∀ w ∈ u_ws "TypedMill$Types" tF1 8, w ∈ smT := sm_memr [168, 170, 172, 174, 176, 178, 180, 182] (by decide +kernel) (by decide +kernel)
def tY1 : Nat → FieldType := fun k => [.array .int, .array .int, .array .int, .array .int, .array .int, .array .int, .array .int, .int].getD k .int
theorem tY1_ok : ∀ k, k < 8 → parseFieldDescriptor (tF1 k).2.2.1 = some (tY1 k) := by decide +kernel
theorem nm1 : ∀ a, a < 8 → ∀ b, b < 8 → a ≠ b → (tF1 a).2.1 ≠ (tF1 b).2.1 := by decide +kernel
theorem uw2 : ∀ w ∈ u_ws "TypedMill$Expressions" tF2 7, w ∈ smT := sm_memr [214, 216, 218, 220, 222, 224, 226] (by decide +kernel) (by decide +kernel)
def tY2 : Nat → FieldType := fun k => [.array .int, .array .int, .array .int, .array .int, .array .int, .array .int, .int].getD k .int
theorem tY2_ok : ∀ k, k < 7 → parseFieldDescriptor (tF2 k).2.2.1 = some (tY2 k) := by decide +kernel
theorem nm2 : ∀ a, a < 7 → ∀ b, b < 7 → a ≠ b → (tF2 a).2.1 ≠ (tF2 b).2.1 := by decide +kernel
theorem uw3 : ∀ w ∈ u_ws "TypedMill$Typing" tF3 4, w ∈ smT := sm_memr [239, 241, 243, 245] (by decide +kernel) (by decide +kernel)
def tY3 : Nat → FieldType := fun k => [.object "TypedMill$Types", .object "TypedMill$Expressions", .array .int, .int].getD k .int
theorem tY3_ok : ∀ k, k < 4 → parseFieldDescriptor (tF3 k).2.2.1 = some (tY3 k) := by decide +kernel
theorem nm3 : ∀ a, a < 4 → ∀ b, b < 4 → a ≠ b → (tF3 a).2.1 ≠ (tF3 b).2.1 := by decide +kernel
theorem uw4 : ∀ w ∈ u_ws "TypedMill$Evaluator" tF4 10, w ∈ smT := sm_memr [266, 268, 270, 272, 274, 276, 278, 280, 282, 284] (by decide +kernel) (by decide +kernel)
def tY4 : Nat → FieldType := fun k => [.object "TypedMill$Expressions", .array .int, .array .int, .array .int, .int, .array .int, .array .int, .int, .int, .boolean].getD k .int
theorem tY4_ok : ∀ k, k < 10 → parseFieldDescriptor (tF4 k).2.2.1 = some (tY4 k) := by decide +kernel
theorem nm4 : ∀ a, a < 10 → ∀ b, b < 10 → a ≠ b → (tF4 a).2.1 ≠ (tF4 b).2.1 := by decide +kernel
theorem uw5 : ∀ w ∈ u_ws "TypedMill$CodeWriter" tF5 11, w ∈ smT := sm_memr [304, 306, 308, 310, 312, 314, 316, 318, 320, 322, 324] (by decide +kernel) (by decide +kernel)
def tY5 : Nat → FieldType := fun k => [.object "TypedMill$Types", .object "TypedMill$Expressions", .array .int, .array .int, .array .boolean, .int, .array .int, .array .int, .array .int, .int, .object "TypedMill$Code"].getD k .int
theorem tY5_ok : ∀ k, k < 11 → parseFieldDescriptor (tF5 k).2.2.1 = some (tY5 k) := by decide +kernel
theorem nm5 : ∀ a, a < 11 → ∀ b, b < 11 → a ≠ b → (tF5 a).2.1 ≠ (tF5 b).2.1 := by decide +kernel
theorem uw6 : ∀ w ∈ u_ws "TypedMill$Checker" tF6 3, w ∈ smT := sm_memr [337, 339, 341] (by decide +kernel) (by decide +kernel)
def tY6 : Nat → FieldType := fun k => [.object "TypedMill$Types", .array .int, .object "TypedMill$Code"].getD k .int
theorem tY6_ok : ∀ k, k < 3 → parseFieldDescriptor (tF6 k).2.2.1 = some (tY6 k) := by decide +kernel
theorem nm6 : ∀ a, a < 3 → ∀ b, b < 3 → a ≠ b → (tF6 a).2.1 ≠ (tF6 b).2.1 := by decide +kernel
theorem uw7 : ∀ w ∈ u_ws "TypedMill$Machine" tF7 11, w ∈ smT := sm_memr [362, 364, 366, 368, 370, 372, 374, 376, 378, 380, 382] (by decide +kernel) (by decide +kernel)
def tY7 : Nat → FieldType := fun k => [.array .int, .array .int, .array .int, .array .int, .array .int, .array .int, .int, .object "TypedMill$Code", .int, .int, .int].getD k .int
theorem tY7_ok : ∀ k, k < 11 → parseFieldDescriptor (tF7 k).2.2.1 = some (tY7 k) := by decide +kernel
theorem nm7 : ∀ a, a < 11 → ∀ b, b < 11 → a ≠ b → (tF7 a).2.1 ≠ (tF7 b).2.1 := by decide +kernel
theorem uw8 : ∀ w ∈ u_ws "TypedMill$Code" tF8 16, w ∈ smT := sm_memr [421, 423, 425, 427, 429, 431, 433, 435, 437, 439, 441, 443, 445, 447, 449, 451] (by decide +kernel) (by decide +kernel)
def tY8 : Nat → FieldType := fun k => [.object "TypedMill$Types", .array .int, .array .int, .array .int, .array .int, .array .int, .int, .array .int, .array .int, .array .int, .array .int, .int, .int, .boolean, .int, .boolean].getD k .int
theorem tY8_ok : ∀ k, k < 16 → parseFieldDescriptor (tF8 k).2.2.1 = some (tY8 k) := by decide +kernel
theorem nm8 : ∀ a, a < 16 → ∀ b, b < 16 → a ≠ b → (tF8 a).2.1 ≠ (tF8 b).2.1 := by decide +kernel
theorem uw9 : ∀ w ∈ u_ws "TypedMillModel" tF9 84, w ∈ smT := sm_memr [1113, 1115, 1117, 1119, 1121, 1123, 1125, 1127, 1129, 1131, 1133, 1135, 1137, 1139, 1141, 1143, 1145, 1147, 1149, 1151, 1153, 1155, 1157, 1159, 1161, 1163, 1165, 1167, 1169, 1171, 1173, 1175, 1177, 1179, 1181, 1183, 1185, 1187, 1189, 1191, 1193, 1195, 1197, 1199, 1201, 1203, 1205, 1207, 1209, 1211, 1213, 1215, 1217, 1219, 1221, 1223, 1225, 1227, 1229, 1231, 1233, 1235, 1237, 1239, 1241, 1243, 1245, 1247, 1249, 1251, 1253, 1255, 1257, 1259, 1261, 1263, 1265, 1267, 1269, 1271, 1273, 1275, 1277, 1279] (by decide +kernel) (by decide +kernel)
def tY9 : Nat → FieldType := fun k => [.int, .int, .array .int, .array .int, .array .int, .array .int, .array .int, .int, .array .int, .array .int, .array .int, .array .int, .array .int, .int, .array .int, .array .int, .array .int, .array .int, .array .int, .array .int, .int, .int, .int, .array .int, .array .int, .array .int, .array .int, .array .int, .array .int, .int, .int, .int, .array .int, .array .int, .array .int, .array .int, .array .int, .boolean, .int, .int, .array .int, .array .int, .array .int, .array .int, .array .int, .array .int, .array .int, .boolean, .int, .int, .int, .int, .int, .int, .int, .array .int, .array .int, .array .int, .array .int, .array .int, .array .int, .array .int, .array .boolean, .array .int, .array .int, .array .int, .int, .int, .int, .int, .array .int, .array .int, .array .int, .array .int, .array .int, .array .int, .array .int, .array .int, .array .int, .array .int, .array .int, .array .int, .array .int, .array .int].getD k .int
theorem tY9_ok : ∀ k, k < 84 → parseFieldDescriptor (tF9 k).2.2.1 = some (tY9 k) := by decide +kernel
theorem nm9 : ∀ a, a < 84 → ∀ b, b < 84 → a ≠ b → (tF9 a).2.1 ≠ (tF9 b).2.1 := by decide +kernel
theorem sm_vCls (ci : Nat) (C : String) (T : u_T) (N : Nat) (h : smCl[ci]? = some (C, T, N)) : (∀ w ∈ u_ws C T N, w ∈ smT) ∧ (∃ ty : Nat → FieldType, ∀ k, k < N → parseFieldDescriptor (T k).2.2.1 = some (ty k)) ∧ ∀ a, a < N → ∀ b, b < N → a ≠ b → (T a).2.1 ≠ (T b).2.1 := by
  match ci, h with
  | 0, h => cases h; exact ⟨uw0, ⟨tY0, tY0_ok⟩, nm0⟩
  | 1, h => cases h; exact ⟨uw1, ⟨tY1, tY1_ok⟩, nm1⟩
  | 2, h => cases h; exact ⟨uw2, ⟨tY2, tY2_ok⟩, nm2⟩
  | 3, h => cases h; exact ⟨uw3, ⟨tY3, tY3_ok⟩, nm3⟩
  | 4, h => cases h; exact ⟨uw4, ⟨tY4, tY4_ok⟩, nm4⟩
  | 5, h => cases h; exact ⟨uw5, ⟨tY5, tY5_ok⟩, nm5⟩
  | 6, h => cases h; exact ⟨uw6, ⟨tY6, tY6_ok⟩, nm6⟩
  | 7, h => cases h; exact ⟨uw7, ⟨tY7, tY7_ok⟩, nm7⟩
  | 8, h => cases h; exact ⟨uw8, ⟨tY8, tY8_ok⟩, nm8⟩
  | 9, h => cases h; exact ⟨uw9, ⟨tY9, tY9_ok⟩, nm9⟩
def sm_lfw (q : Nat × Nat × Nat × Nat) : Cond := match smCl[q.2.2.1]? with
  | some (C, T, _) => .fieldLink (smNm q.1) q.2.1 C (T q.2.2.2).2.1 (T q.2.2.2).2.2.1
  | none => .initialized ""
def sm_lfk (q : Nat × Nat × Nat × Nat) : Bool := match smCl[q.2.2.1]? with
  | some (C, T, N) => decide (q.2.2.2 < N) && decide ((T q.2.2.2).1 = C)
  | none => false
def smLF_0 : sm_L4 := [(0, 10, 0, 0), (0, 19, 0, 1), (0, 37, 0, 3), (0, 120, 4, 8), (0, 67, 0, 7), (0, 60, 0, 6), (0, 149, 8, 13), (0, 152, 8, 11), (0, 145, 8, 6), (0, 135, 8, 14), (0, 53, 0, 5), (0, 180, 7, 10), (0, 124, 1, 7), (0, 28, 0, 2), (9, 199, 9, 0), (9, 22, 9, 6), (9, 202, 9, 1), (9, 7, 9, 2), (9, 13, 9, 3), (9, 16, 9, 4), (9, 19, 9, 5), (9, 192, 9, 7), (9, 25, 9, 8), (9, 28, 9, 9), (9, 31, 9, 10), (9, 34, 9, 11), (9, 37, 9, 12), (9, 216, 9, 13), (9, 55, 9, 19), (9, 40, 9, 14), (9, 43, 9, 15), (9, 46, 9, 16), (9, 49, 9, 17), (9, 52, 9, 18), (9, 58, 9, 23), (9, 225, 9, 20), (9, 61, 9, 24), (9, 228, 9, 22), (9, 64, 9, 25), (9, 67, 9, 26), (9, 73, 9, 28), (9, 231, 9, 21), (9, 76, 9, 32), (9, 245, 9, 30), (9, 79, 9, 33), (9, 82, 9, 34), (9, 85, 9, 35), (9, 248, 9, 31), (9, 88, 9, 36), (9, 251, 9, 29), (9, 70, 9, 27), (9, 284, 9, 47), (9, 288, 9, 39), (9, 91, 9, 40), (9, 94, 9, 41), (9, 97, 9, 42), (9, 100, 9, 43), (9, 106, 9, 45), (9, 291, 9, 54), (9, 294, 9, 52)]
theorem sm_lf0 : ∀ w ∈ smLF_0.map sm_lfw, w ∈ smT := sm_memr [459, 460, 462, 263, 466, 465, 417, 413, 406, 418, 464, 361, 167, 461, 1029, 1035, 1030, 1031, 1032, 1033, 1034, 1036, 1037, 1038, 1039, 1040, 1041, 1042, 1048, 1043, 1044, 1045, 1046, 1047, 1052, 1049, 1053, 1051, 1054, 1055, 1057, 1050, 1061, 1059, 1062, 1063, 1064, 1060, 1065, 1058, 1056, 1076, 1068, 1069, 1070, 1071, 1072, 1074, 1083, 1081] (by decide +kernel) (by decide +kernel)
def smLF_1 : sm_L4 := [(9, 103, 9, 44), (9, 109, 9, 46), (9, 124, 9, 59), (9, 297, 9, 50), (9, 300, 9, 51), (9, 127, 9, 60), (9, 133, 9, 62), (9, 130, 9, 61), (9, 112, 9, 55), (9, 303, 9, 48), (9, 115, 9, 56), (9, 118, 9, 57), (9, 121, 9, 58), (9, 306, 9, 49), (9, 137, 9, 63), (9, 327, 9, 53), (9, 140, 9, 64), (9, 143, 9, 65), (9, 167, 9, 77), (9, 170, 9, 78), (9, 173, 9, 79), (9, 176, 9, 80), (9, 179, 9, 81), (9, 182, 9, 82), (9, 185, 9, 83), (9, 378, 9, 38), (9, 381, 9, 37), (9, 164, 9, 76), (9, 421, 9, 66), (9, 424, 9, 69), (9, 146, 9, 70), (9, 149, 9, 71), (9, 427, 9, 67), (9, 430, 9, 68), (9, 152, 9, 72), (9, 155, 9, 73), (9, 158, 9, 74), (9, 161, 9, 75), (6, 21, 6, 2), (6, 29, 8, 11), (6, 17, 6, 0), (6, 33, 1, 7), (6, 11, 6, 1), (6, 69, 8, 1), (6, 75, 8, 2), (6, 78, 8, 3), (6, 81, 8, 4), (8, 47, 8, 6), (8, 50, 8, 11), (8, 39, 8, 12), (8, 53, 8, 13), (8, 57, 8, 15), (8, 27, 8, 7), (8, 30, 8, 8), (8, 33, 8, 9), (8, 36, 8, 10), (8, 43, 8, 0), (8, 11, 8, 1), (8, 15, 8, 2), (8, 18, 8, 3)]
theorem sm_lf1 : ∀ w ∈ smLF_1.map sm_lfw, w ∈ smT := sm_memr [1073, 1075, 1088, 1079, 1080, 1089, 1091, 1090, 1084, 1077, 1085, 1086, 1087, 1078, 1092, 1082, 1093, 1094, 1106, 1107, 1108, 1109, 1110, 1111, 1112, 1067, 1066, 1105, 1095, 1098, 1099, 1100, 1096, 1097, 1101, 1102, 1103, 1104, 336, 412, 334, 166, 335, 393, 397, 400, 403, 405, 411, 414, 415, 419, 407, 408, 409, 410, 391, 392, 395, 398] (by decide +kernel) (by decide +kernel)
def smLF_2 : sm_L4 := [(8, 21, 8, 4), (8, 24, 8, 5), (5, 43, 5, 10), (5, 50, 5, 9), (5, 54, 5, 5), (5, 72, 8, 15), (5, 24, 5, 6), (5, 27, 5, 7), (5, 30, 5, 8), (5, 80, 8, 13), (5, 37, 5, 1), (5, 83, 2, 0), (5, 88, 2, 1), (5, 20, 5, 4), (5, 17, 5, 3), (5, 33, 5, 0), (5, 13, 5, 2), (5, 114, 2, 2), (5, 117, 2, 3), (5, 134, 2, 4), (4, 31, 4, 4), (4, 35, 4, 7), (4, 38, 4, 8), (4, 41, 4, 9), (4, 15, 4, 2), (4, 27, 4, 0), (4, 49, 2, 0), (4, 52, 2, 1), (4, 11, 4, 1), (4, 18, 4, 3), (4, 21, 4, 5), (4, 24, 4, 6), (4, 74, 2, 2), (4, 77, 2, 3), (4, 80, 2, 4), (2, 30, 2, 6), (2, 11, 2, 0), (2, 15, 2, 1), (2, 18, 2, 2), (2, 21, 2, 3), (2, 24, 2, 4), (2, 27, 2, 5), (7, 32, 7, 7), (7, 36, 7, 8), (7, 40, 7, 9), (7, 43, 7, 6), (7, 46, 7, 10), (7, 11, 7, 0), (7, 17, 7, 1), (7, 70, 8, 2), (7, 73, 8, 3), (7, 76, 8, 4), (7, 79, 8, 1), (7, 20, 7, 2), (7, 23, 7, 3), (7, 26, 7, 4), (7, 29, 7, 5), (1, 43, 1, 7), (1, 11, 1, 0), (1, 15, 1, 1)]
theorem sm_lf2 : ∀ w ∈ smLF_2.map sm_lfw, w ∈ smT := sm_memr [401, 404, 303, 302, 298, 420, 299, 300, 301, 416, 294, 194, 198, 297, 296, 293, 295, 202, 206, 211, 258, 261, 262, 264, 256, 254, 195, 199, 255, 257, 259, 260, 203, 207, 210, 213, 192, 196, 200, 204, 208, 212, 357, 358, 359, 356, 360, 350, 351, 396, 399, 402, 394, 352, 353, 354, 355, 165, 158, 159] (by decide +kernel) (by decide +kernel)
def smLF_3 : sm_L4 := [(1, 18, 1, 2), (1, 21, 1, 3), (1, 24, 1, 4), (1, 27, 1, 5), (1, 30, 1, 6), (3, 25, 3, 3), (3, 21, 3, 1), (3, 33, 2, 0), (3, 38, 2, 1), (3, 11, 3, 2), (3, 59, 2, 2), (3, 62, 2, 3), (3, 65, 2, 4), (3, 17, 3, 0)]
theorem sm_lf3 : ∀ w ∈ smLF_3.map sm_lfw, w ∈ smT := sm_memr [160, 161, 162, 163, 164, 238, 236, 193, 197, 237, 201, 205, 209, 235] (by decide +kernel) (by decide +kernel)
theorem sm_lf_all : smLF = smLF_0 ++ smLF_1 ++ smLF_2 ++ smLF_3 := by decide +kernel
theorem sm_lfk_all : smLF.all sm_lfk = true := by decide +kernel
theorem sm_lf_in {q : Nat × Nat × Nat × Nat} (h : q ∈ smLF) : sm_lfw q ∈ smT := by
  rw [sm_lf_all] at h
  simp only [List.mem_append] at h
  rcases h with ((h | h) | h) | h
  · exact sm_lf0 _ (List.mem_map_of_mem h)
  · exact sm_lf1 _ (List.mem_map_of_mem h)
  · exact sm_lf2 _ (List.mem_map_of_mem h)
  · exact sm_lf3 _ (List.mem_map_of_mem h)
theorem sm_vLF (o i ci k : Nat) (h : (o, i, ci, k) ∈ smLF) : ∃ (C : String) (T : u_T) (N : Nat), smCl[ci]? = some (C, T, N) ∧ k < N ∧ Cond.fieldLink (smNm o) i C (T k).2.1 (T k).2.2.1 ∈ smT ∧ (T k).1 = C := by
  have h1 := sm_lf_in h
  have h2 := List.all_eq_true.mp sm_lfk_all _ h
  unfold sm_lfw at h1
  unfold sm_lfk at h2
  try dsimp only at h1 h2
  cases hc : smCl[ci]? with
  | none => rw [hc] at h2; cases h2
  | some x =>
    obtain ⟨C, T, N⟩ := x
    rw [hc] at h1 h2
    simp only [Bool.and_eq_true, decide_eq_true_eq] at h2
    exact ⟨C, T, N, rfl, h2.1, h1, h2.2⟩
def sm_lpk (q : Nat × Nat × Nat × Nat) : Bool := decide (q ∈ smLF) && match smCl[q.2.2.1]? with
  | some (_, T, _) => !(T q.2.2.2).2.2.2
  | none => true
theorem sm_lpk_all : smLP.all sm_lpk = true := by decide +kernel
theorem sm_vLP (o i ci k : Nat) (h : (o, i, ci, k) ∈ smLP) : (o, i, ci, k) ∈ smLF ∧ ∀ (C : String) (T : u_T) (N : Nat), smCl[ci]? = some (C, T, N) → (T k).2.2.2 = false := by
  have h2 := List.all_eq_true.mp sm_lpk_all _ h
  unfold sm_lpk at h2
  rw [Bool.and_eq_true] at h2
  refine ⟨of_decide_eq_true h2.1, fun C T N hc => ?_⟩
  have h3 := h2.2
  try dsimp only at h3
  rw [hc] at h3
  simpa using h3
def sm_my (x : Nat) : MethodName := match smP[x]? with
  | some g => g.1
  | none => ⟨"", "", ""⟩
def smLM_0 : sm_L3 := [(0, 78, 150), (0, 82, 158), (0, 86, 151), (0, 90, 156), (0, 94, 152), (0, 97, 136), (0, 100, 135), (0, 101, 14), (0, 146, 103), (0, 74, 138), (0, 155, 108), (0, 159, 109), (0, 163, 111), (0, 167, 113), (0, 131, 89), (0, 170, 114), (0, 174, 115), (0, 177, 139), (0, 183, 140), (0, 186, 164), (0, 138, 160), (9, 205, 17), (9, 209, 19), (9, 213, 20), (9, 188, 18), (9, 222, 24), (9, 234, 26), (9, 238, 27), (9, 242, 28), (9, 254, 36), (9, 258, 33), (9, 262, 32), (9, 266, 31), (9, 269, 35), (9, 275, 16), (9, 278, 30), (9, 281, 37), (9, 309, 40), (9, 313, 46), (9, 317, 43)]
theorem sm_lm0 : (∀ w ∈ smLM_0.map (fun q => Cond.methodLink (smNm q.1) q.2.1 (sm_my q.2.2)), w ∈ smT) ∧ (∀ w ∈ smLM_0.map (fun q => Cond.instanceMethod (sm_my q.2.2)), w ∈ smT) ∧ (∀ w ∈ smLM_0.map (fun q => Cond.selects (sm_my q.2.2).cls (sm_my q.2.2) (sm_my q.2.2)), w ∈ smT) := ⟨sm_memr [491, 495, 499, 508, 513, 517, 538, 539, 597, 454, 605, 609, 626, 637, 645, 731, 739, 747, 798, 543, 585, 1021, 1290, 1294, 1017, 1309, 1321, 1325, 1317, 1349, 1341, 1353, 1357, 1361, 1333, 1337, 1345, 1411, 1431, 1435] (by decide +kernel) (by decide +kernel), sm_memr [492, 496, 500, 151, 514, 518, 528, 541, 598, 455, 606, 610, 627, 638, 646, 732, 740, 748, 799, 544, 586, 1023, 1292, 1296, 1019, 1311, 1323, 1327, 1319, 1351, 1343, 1355, 1359, 1363, 1335, 1339, 1347, 1413, 1433, 1437] (by decide +kernel) (by decide +kernel), sm_memr [493, 497, 501, 152, 515, 519, 529, 3, 599, 456, 607, 611, 628, 639, 647, 733, 741, 749, 800, 545, 587, 52, 54, 55, 51, 56, 58, 59, 57, 64, 62, 65, 66, 67, 60, 61, 63, 76, 81, 82] (by decide +kernel) (by decide +kernel)⟩
def smLM_1 : sm_L3 := [(9, 321, 45), (9, 324, 41), (9, 330, 49), (9, 333, 44), (9, 337, 50), (9, 340, 42), (9, 343, 51), (9, 346, 47), (9, 350, 48), (9, 353, 53), (9, 356, 52), (9, 359, 54), (9, 362, 55), (9, 365, 56), (9, 372, 59), (9, 375, 57), (9, 196, 79), (9, 384, 62), (9, 393, 66), (9, 397, 69), (9, 400, 68), (9, 403, 71), (9, 406, 72), (9, 409, 70), (9, 415, 73), (9, 418, 75), (9, 433, 80), (9, 436, 82), (9, 439, 83), (9, 442, 84), (9, 445, 81), (9, 448, 85), (6, 25, 90), (6, 38, 91), (6, 42, 160), (6, 46, 107), (6, 50, 104), (6, 60, 105), (6, 63, 106), (6, 66, 93)]
theorem sm_lm1 : (∀ w ∈ smLM_1.map (fun q => Cond.methodLink (smNm q.1) q.2.1 (sm_my q.2.2)), w ∈ smT) ∧ (∀ w ∈ smLM_1.map (fun q => Cond.instanceMethod (sm_my q.2.2)), w ∈ smT) ∧ (∀ w ∈ smLM_1.map (fun q => Cond.selects (sm_my q.2.2).cls (sm_my q.2.2) (sm_my q.2.2)), w ∈ smT) := ⟨sm_memr [1415, 1387, 1419, 1399, 1423, 1391, 1407, 1427, 1439, 1443, 1447, 1403, 1395, 1451, 1376, 1383, 1025, 1463, 1471, 1512, 1500, 1496, 1504, 1508, 1492, 1485, 1536, 1540, 1544, 1548, 1528, 1532, 649, 658, 726, 653, 657, 663, 667, 671] (by decide +kernel) (by decide +kernel), sm_memr [1417, 1389, 1421, 1401, 1425, 1393, 1409, 1429, 1441, 1445, 1449, 1405, 1397, 1453, 1378, 1385, 1027, 1465, 1473, 1514, 1502, 1498, 1506, 1510, 1494, 1487, 1538, 1542, 1546, 1550, 1530, 1534, 651, 660, 586, 654, 614, 664, 668, 673] (by decide +kernel) (by decide +kernel), sm_memr [77, 70, 78, 73, 79, 71, 75, 80, 83, 84, 85, 74, 72, 86, 68, 69, 53, 87, 88, 95, 92, 91, 93, 94, 90, 89, 98, 99, 100, 101, 96, 97, 13, 14, 587, 655, 615, 665, 669, 15] (by decide +kernel) (by decide +kernel)⟩
def smLM_2 : sm_L3 := [(6, 84, 94), (6, 88, 159), (6, 92, 152), (6, 95, 153), (6, 98, 154), (6, 101, 95), (6, 104, 97), (6, 107, 99), (6, 111, 100), (6, 114, 101), (6, 117, 96), (6, 120, 155), (6, 123, 98), (6, 126, 157), (6, 130, 102), (8, 60, 104), (8, 64, 110), (8, 68, 156), (8, 77, 112), (8, 81, 152), (5, 47, 103), (5, 57, 108), (5, 61, 109), (5, 65, 117), (5, 69, 113), (5, 76, 124), (5, 91, 118), (5, 94, 122), (5, 97, 123), (5, 100, 125), (5, 103, 121), (5, 107, 119), (5, 110, 154), (5, 120, 126), (5, 127, 159), (5, 131, 153), (4, 45, 128), (4, 55, 129), (4, 58, 130), (4, 62, 131)]
theorem sm_lm2 : (∀ w ∈ smLM_2.map (fun q => Cond.methodLink (smNm q.1) q.2.1 (sm_my q.2.2)), w ∈ smT) ∧ (∀ w ∈ smLM_2.map (fun q => Cond.instanceMethod (sm_my q.2.2)), w ∈ smT) ∧ (∀ w ∈ smLM_2.map (fun q => Cond.selects (sm_my q.2.2).cls (sm_my q.2.2) (sm_my q.2.2)), w ∈ smT) := ⟨sm_memr [675, 679, 680, 681, 682, 683, 687, 703, 711, 719, 691, 695, 699, 707, 715, 613, 617, 621, 632, 636, 950, 951, 952, 953, 957, 992, 958, 963, 967, 971, 980, 985, 962, 975, 979, 984, 895, 899, 903, 907] (by decide +kernel) (by decide +kernel), sm_memr [677, 140, 514, 560, 564, 685, 689, 705, 713, 721, 693, 696, 701, 708, 717, 614, 619, 151, 634, 514, 598, 606, 610, 955, 638, 994, 960, 965, 969, 973, 982, 987, 564, 977, 140, 560, 897, 901, 905, 909] (by decide +kernel) (by decide +kernel), sm_memr [16, 141, 515, 561, 565, 17, 18, 21, 22, 24, 19, 697, 20, 709, 23, 615, 11, 152, 12, 515, 599, 607, 611, 42, 639, 50, 43, 44, 45, 46, 48, 49, 565, 47, 141, 561, 35, 36, 37, 38] (by decide +kernel) (by decide +kernel)⟩
def smLM_3 : sm_L3 := [(4, 65, 132), (4, 68, 133), (4, 71, 134), (2, 37, 137), (2, 41, 135), (7, 55, 141), (7, 59, 106), (7, 63, 142), (7, 67, 105), (7, 82, 143), (7, 86, 144), (7, 90, 145), (7, 93, 146), (7, 96, 147), (7, 99, 148), (7, 102, 149), (7, 106, 104), (1, 47, 150), (1, 39, 159), (1, 51, 156), (1, 58, 161), (1, 62, 162), (3, 29, 165), (3, 41, 167), (3, 44, 168), (3, 47, 169), (3, 50, 170), (3, 53, 171), (3, 56, 166), (3, 68, 153), (3, 71, 154), (3, 74, 152), (3, 77, 159)]
theorem sm_lm3 : (∀ w ∈ smLM_3.map (fun q => Cond.methodLink (smNm q.1) q.2.1 (sm_my q.2.2)), w ∈ smT) ∧ (∀ w ∈ smLM_3.map (fun q => Cond.instanceMethod (sm_my q.2.2)), w ∈ smT) ∧ (∀ w ∈ smLM_3.map (fun q => Cond.selects (sm_my q.2.2).cls (sm_my q.2.2) (sm_my q.2.2)), w ∈ smT) := ⟨sm_memr [911, 915, 919, 523, 527, 751, 755, 756, 760, 761, 765, 769, 773, 777, 781, 786, 785, 503, 139, 150, 146, 154, 547, 551, 555, 567, 572, 577, 581, 559, 563, 571, 576] (by decide +kernel) (by decide +kernel), sm_memr [913, 917, 921, 525, 528, 753, 668, 758, 664, 763, 767, 771, 775, 779, 783, 788, 614, 492, 140, 151, 148, 156, 549, 553, 557, 569, 574, 579, 583, 560, 564, 514, 140] (by decide +kernel) (by decide +kernel), sm_memr [39, 40, 41, 2, 529, 25, 669, 26, 665, 27, 28, 29, 30, 31, 32, 33, 615, 493, 141, 152, 0, 1, 4, 5, 6, 7, 8, 9, 10, 561, 565, 515, 141] (by decide +kernel) (by decide +kernel)⟩
theorem sm_lm_all : smLM = smLM_0 ++ smLM_1 ++ smLM_2 ++ smLM_3 := by decide +kernel
def sm_lmk (q : Nat × Nat × Nat) : Bool := match smP[q.2.2]? with
  | some g => (match smCl[sm_Io g]? with
    | some (C, _, _) => decide (C = (sm_Iy g).cls)
    | none => false)
  | none => false
theorem sm_lmk_all : smLM.all sm_lmk = true := by decide +kernel
theorem sm_lm_in {q : Nat × Nat × Nat} (h : q ∈ smLM) : Cond.methodLink (smNm q.1) q.2.1 (sm_my q.2.2) ∈ smT ∧ Cond.instanceMethod (sm_my q.2.2) ∈ smT ∧ Cond.selects (sm_my q.2.2).cls (sm_my q.2.2) (sm_my q.2.2) ∈ smT := by
  rw [sm_lm_all] at h
  simp only [List.mem_append] at h
  rcases h with ((h | h) | h) | h
  · exact ⟨sm_lm0.1 _ (List.mem_map.mpr ⟨q, h, rfl⟩), sm_lm0.2.1 _ (List.mem_map.mpr ⟨q, h, rfl⟩), sm_lm0.2.2 _ (List.mem_map.mpr ⟨q, h, rfl⟩)⟩
  · exact ⟨sm_lm1.1 _ (List.mem_map.mpr ⟨q, h, rfl⟩), sm_lm1.2.1 _ (List.mem_map.mpr ⟨q, h, rfl⟩), sm_lm1.2.2 _ (List.mem_map.mpr ⟨q, h, rfl⟩)⟩
  · exact ⟨sm_lm2.1 _ (List.mem_map.mpr ⟨q, h, rfl⟩), sm_lm2.2.1 _ (List.mem_map.mpr ⟨q, h, rfl⟩), sm_lm2.2.2 _ (List.mem_map.mpr ⟨q, h, rfl⟩)⟩
  · exact ⟨sm_lm3.1 _ (List.mem_map.mpr ⟨q, h, rfl⟩), sm_lm3.2.1 _ (List.mem_map.mpr ⟨q, h, rfl⟩), sm_lm3.2.2 _ (List.mem_map.mpr ⟨q, h, rfl⟩)⟩
theorem sm_vLM (o i x : Nat) (h : (o, i, x) ∈ smLM) : ∃ g : sm_I, smP[x]? = some g ∧ Cond.methodLink (smNm o) i (sm_Iy g) ∈ smT ∧ Cond.instanceMethod (sm_Iy g) ∈ smT ∧ Cond.selects (sm_Iy g).cls (sm_Iy g) (sm_Iy g) ∈ smT ∧ (∃ (T : u_T) (N : Nat), smCl[sm_Io g]? = some ((sm_Iy g).cls, T, N)) := by
  have h1 := sm_lm_in h
  have h2 := List.all_eq_true.mp sm_lmk_all _ h
  unfold sm_lmk at h2
  try dsimp only at h1 h2
  cases hc : smP[x]? with
  | none => rw [hc] at h2; cases h2
  | some g =>
    rw [hc] at h2
    have e : sm_my x = sm_Iy g := by unfold sm_my; rw [hc]
    rw [e] at h1
    try dsimp only at h2
    cases hk : smCl[sm_Io g]? with
    | none => rw [hk] at h2; cases h2
    | some z =>
      obtain ⟨C, T, N⟩ := z
      rw [hk] at h2
      have h3 : C = (sm_Iy g).cls := of_decide_eq_true h2
      exact ⟨g, rfl, h1.1, h1.2.1, h1.2.2, T, N, by rw [h3] at hk; exact hk⟩
theorem sm_lnw : (∀ w ∈ smLN.map (fun q => Cond.methodLink (smNm q.1) q.2.1 (sm_my q.2.2)), w ∈ smT) ∧ (∀ w ∈ smLN.map (fun q => Cond.static (sm_my q.2.2)), w ∈ smT) := ⟨sm_memr [1306, 1365, 1380, 1475, 1478, 1489, 662, 723, 989, 531, 458, 143] (by decide +kernel) (by decide +kernel), sm_memr [1307, 1366, 1381, 1476, 1479, 1490, 137, 724, 990, 532, 137, 144] (by decide +kernel) (by decide +kernel)⟩
theorem sm_lnk_all : smLN.all (fun q => (smP[q.2.2]?).isSome) = true := by decide +kernel
theorem sm_vLN (o i x : Nat) (h : (o, i, x) ∈ smLN) : ∃ g : sm_I, smP[x]? = some g ∧ Cond.methodLink (smNm o) i (sm_Iy g) ∈ smT ∧ Cond.static (sm_Iy g) ∈ smT := by
  have h1 := sm_lnw.1 _ (List.mem_map.mpr ⟨_, h, rfl⟩)
  have h3 := sm_lnw.2 _ (List.mem_map.mpr ⟨_, h, rfl⟩)
  have h2 := List.all_eq_true.mp sm_lnk_all _ h
  try dsimp only at h1 h2 h3
  cases hc : smP[x]? with
  | none => rw [hc] at h2; cases h2
  | some g =>
    have e : sm_my x = sm_Iy g := by unfold sm_my; rw [hc]
    rw [e] at h1 h3
    exact ⟨g, rfl, h1, h3⟩
theorem sm_vLS (o i x : Nat) (h : (o, i, x) ∈ smLS) : ∃ q ∈ smSa, q.1 = x ∧ 0 < x ∧ Cond.fieldLink (smNm o) i q.2.1.1 q.2.1.2 "[I" ∈ smT := by
  simp only [smLS, List.mem_cons, List.not_mem_nil, or_false, Prod.mk.injEq] at h
  rcases h with ⟨rfl, rfl, rfl⟩ | ⟨rfl, rfl, rfl⟩
  · exact ⟨_, List.mem_cons_self, rfl, by decide, sm_mem1 630 (by decide +kernel) (by decide +kernel)⟩
  · exact ⟨_, List.mem_cons_of_mem _ List.mem_cons_self, rfl, by decide, sm_mem1 521 (by decide +kernel) (by decide +kernel)⟩
def sm_shf (T : u_T) (k a : Nat) : Bool := (decide (a ≠ 0) || decide ((T k).2.2.1 = "I")) && (decide (a ≠ 3) || decide ((T k).2.2.1 = "Z")) && (decide (a ≠ 2) || (match parseFieldDescriptor (T k).2.2.1 with
  | some (.object _) => true
  | _ => false))
def sm_shg (T : u_T) (fs : List (Nat × Nat)) (k : Nat) : Bool := match fs[k]? with
  | some (a, _) => sm_shf T k a
  | none => true
def sm_sho (c : Nat) (fs : List (Nat × Nat)) : Bool := match smCl[c]? with
  | some (_, T, N) => decide (fs.length = N) && (List.range fs.length).all (sm_shg T fs)
  | none => false
def sm_sh1 (h : sm_Sh) : Bool := match h with
  | (0, _, _) => true
  | (1, _, _) => true
  | (2, c, fs) => sm_sho c fs
  | _ => false
def sm_shk (sh : List sm_Sh) : Bool := sh.all sm_sh1
def sm_shd (sh : List sm_Sh) : List (Nat × Nat × Nat) := (List.range sh.length).flatMap (fun i => match sh[i]? with
  | some (2, _, fs) => (List.range fs.length).filterMap (fun k => match fs[k]? with
    | some (2, b) => some (b, i, k)
    | _ => none)
  | _ => [])
def sm_shu (sh : List sm_Sh) : Bool := (sm_shd sh).all (fun p => (sm_shd sh).all (fun q => decide (p.1 ≠ q.1) || decide (p = q)))
theorem sm_shd_in {sh : List sm_Sh} {i c k b : Nat} {fs : List (Nat × Nat)} (h : sh[i]? = some (2, c, fs)) (hk : fs[k]? = some (2, b)) : (b, i, k) ∈ sm_shd sh := by
  refine List.mem_flatMap.mpr ⟨i, List.mem_range.mpr (List.getElem?_eq_some_iff.mp h).1, ?_⟩
  rw [h]
  refine List.mem_filterMap.mpr ⟨k, List.mem_range.mpr (List.getElem?_eq_some_iff.mp hk).1, ?_⟩
  rw [hk]
  rfl
theorem sm_vSh {sh : List sm_Sh} (h1 : sm_shk sh = true) (h2 : sm_shu sh = true) : (∀ (i c : Nat) (fs : List (Nat × Nat)), sh[i]? = some (2, c, fs) → ∃ (C : String) (T : u_T) (N : Nat), smCl[c]? = some (C, T, N) ∧ fs.length = N ∧ ∀ (k a b : Nat), fs[k]? = some (a, b) → (a = 0 → (T k).2.2.1 = "I") ∧ (a = 3 → (T k).2.2.1 = "Z") ∧ (a = 2 → (∃ C' : String, parseFieldDescriptor (T k).2.2.1 = some (.object C')) ∧ ∀ (i' c' : Nat) (fs' : List (Nat × Nat)) (k' : Nat), sh[i']? = some (2, c', fs') → fs'[k']? = some (2, b) → i' = i ∧ k' = k)) ∧ (∀ (i : Nat) (h : sm_Sh), sh[i]? = some h → h.1 = 0 ∨ h.1 = 1 ∨ h.1 = 2) := by
  constructor
  · intro i c fs h
    have h3 : sm_sho c fs = true := List.all_eq_true.mp h1 _ (List.mem_of_getElem? h)
    unfold sm_sho at h3
    cases hc : smCl[c]? with
    | none => rw [hc] at h3; cases h3
    | some z =>
      obtain ⟨C, T, N⟩ := z
      rw [hc] at h3
      have h3 : (decide (fs.length = N) && (List.range fs.length).all (sm_shg T fs)) = true := h3
      rw [Bool.and_eq_true] at h3
      refine ⟨C, T, N, rfl, of_decide_eq_true h3.1, fun k a b hk => ?_⟩
      have h4 := List.all_eq_true.mp h3.2 k (List.mem_range.mpr (List.getElem?_eq_some_iff.mp hk).1)
      unfold sm_shg at h4
      rw [hk] at h4
      have h4 : sm_shf T k a = true := h4
      unfold sm_shf at h4
      rw [Bool.and_eq_true, Bool.and_eq_true] at h4
      obtain ⟨⟨h5, h6⟩, h7⟩ := h4
      refine ⟨fun e => ?_, fun e => ?_, fun e => ⟨?_, fun i' c' fs' k' hi' hk' => ?_⟩⟩
      · subst e; simpa using h5
      · subst e; simpa using h6
      · subst e
        have h8 : (match parseFieldDescriptor (T k).2.2.1 with
          | some (.object _) => true
          | _ => false) = true := by simpa using h7
        split at h8
        · rename_i C' he
          exact ⟨C', he⟩
        · cases h8
      · subst e
        have h9 := List.all_eq_true.mp (List.all_eq_true.mp h2 _ (sm_shd_in h hk)) _ (sm_shd_in hi' hk')
        simp at h9
        exact ⟨h9.1.symm, h9.2.symm⟩
  · intro i h hi
    have h3 : sm_sh1 h = true := List.all_eq_true.mp h1 _ (List.mem_of_getElem? hi)
    obtain ⟨a, c, fs⟩ := h
    match a, h3 with
    | 0, _ => exact Or.inl rfl
    | 1, _ => exact Or.inr (Or.inl rfl)
    | 2, _ => exact Or.inr (Or.inr rfl)
    | _ + 3, h3 => cases h3
def sm_PQ (g : sm_I) : Prop := Cond.code (sm_Iy g) (sm_Ib g) (sm_Il g) (sm_Ir g) ∈ smT ∧ Cond.initialized (sm_Iy g).cls ∈ smT ∧ smNm (sm_Io g) = (sm_Iy g).cls ∧ ((sm_Iy g).cls ≠ "java/lang/invoke/MethodHandle" ∧ (sm_Iy g).cls ≠ "java/lang/invoke/VarHandle" ∧ (parseMethodDescriptor (sm_Iy g).desc).map (fun d => d.parameters.length) = some (sm_In g)) ∧ sm_Il g + 19 ≤ 64 ∧ (sm_Ir g = none ∨ sm_Ir g = some .int ∨ sm_Ir g = some .boolean) ∧ sm_okm smP smLF smLP smLM smLN smLS g = true

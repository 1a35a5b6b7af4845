/-! 10: fields, arrays, new cells, calls, throws, a row an instruction, over the heap as a function -/
theorem cl_ws0 : zchk (u_ws RX0 TX0 2) [235, 237] id = true := by decide +kernel
theorem cl_wg0 : (u_ws RX0 TX0 2).all goodWord = true := by decide +kernel
theorem cl_ws1 : zchk (u_ws RX1 TX1 3) [333, 335, 337] id = true := by decide +kernel
theorem cl_wg1 : (u_ws RX1 TX1 3).all goodWord = true := by decide +kernel
theorem cl_ws2 : zchk (u_ws RX2 TX2 3) [305, 307, 309] id = true := by decide +kernel
theorem cl_wg2 : (u_ws RX2 TX2 3).all goodWord = true := by decide +kernel
theorem cl_ws3 : zchk (u_ws RX3 TX3 19) [166, 168, 170, 172, 174, 176, 178, 180, 182, 184, 186, 188, 190, 192, 194, 196, 198, 200, 202] id = true := by decide +kernel
theorem cl_wg3 : (u_ws RX3 TX3 19).all goodWord = true := by decide +kernel
theorem cl_ws4 : zchk (u_ws RX4 TX4 2) [253, 255] id = true := by decide +kernel
theorem cl_wg4 : (u_ws RX4 TX4 2).all goodWord = true := by decide +kernel
theorem cl_ws5 : zchk (u_ws RX5 TX5 5) [216, 218, 220, 222, 224] id = true := by decide +kernel
theorem cl_wg5 : (u_ws RX5 TX5 5).all goodWord = true := by decide +kernel
theorem cl_ws6 : zchk (u_ws RX6 TX6 1) [321] id = true := by decide +kernel
theorem cl_wg6 : (u_ws RX6 TX6 1).all goodWord = true := by decide +kernel
theorem cl_ws7 : zchk (u_ws RX7 TX7 1) [75] id = true := by decide +kernel
theorem cl_wg7 : (u_ws RX7 TX7 1).all goodWord = true := by decide +kernel
theorem cl_ws8 : zchk (u_ws RX8 TX8 11) [355, 357, 359, 361, 363, 365, 367, 369, 371, 373, 375] id = true := by decide +kernel
theorem cl_wg8 : (u_ws RX8 TX8 11).all goodWord = true := by decide +kernel
theorem cl_ws9 : zchk (u_ws RX10 TX10 9) [274, 276, 278, 280, 282, 284, 286, 288, 290] id = true := by decide +kernel
theorem cl_wg9 : (u_ws RX10 TX10 9).all goodWord = true := by decide +kernel
theorem cl_ws10 : zchk (u_ws RX11 TX11 15) [393, 395, 397, 399, 401, 403, 405, 407, 409, 411, 413, 415, 417, 419, 421] id = true := by decide +kernel
theorem cl_wg10 : (u_ws RX11 TX11 15).all goodWord = true := by decide +kernel
theorem cl_ws11 : zchk (u_ws RX12 TX12 11) [899, 901, 903, 905, 907, 909, 911, 913, 915, 917, 919] id = true := by decide +kernel
theorem cl_wg11 : (u_ws RX12 TX12 11).all goodWord = true := by decide +kernel
theorem cl_ws12 : zchk (u_ws RJ4 TJ4 4) [869, 871, 873, 875] id = true := by decide +kernel
theorem cl_wg12 : (u_ws RJ4 TJ4 4).all goodWord = true := by decide +kernel
theorem cl_ws13 : zchk (u_ws RJ0 TJ0 4) [1391, 1393, 1395, 1397] id = true := by decide +kernel
theorem cl_wg13 : (u_ws RJ0 TJ0 4).all goodWord = true := by decide +kernel
def tyC (ci : Nat) : Nat → FieldType := match ci with
  | 0 => tyX0
  | 1 => tyX1
  | 2 => tyX2
  | 3 => tyX3
  | 4 => tyX4
  | 5 => tyX5
  | 6 => tyX6
  | 7 => tyX7
  | 8 => tyX8
  | 9 => tyX10
  | 10 => tyX11
  | 11 => tyX12
  | 12 => tyJ4
  | _ => tyJ0
theorem cl_ok {ci : Nat} {r : vw_C} (h : vwCl[ci]? = some r) : (∀ w ∈ u_ws r.1 r.2.1 r.2.2, w ∈ TBLg) ∧ (∀ a, a < r.2.2 → ∀ b, b < r.2.2 → a ≠ b → (r.2.1 a).2.1 ≠ (r.2.1 b).2.1) ∧ (∀ k, k < r.2.2 → parseFieldDescriptor (r.2.1 k).2.2.1 = some (tyC ci k)) := by
  match ci, h with
  | 0, h => cases h; exact ⟨fun w hw => List.mem_filter.mpr ⟨zchk_mem cl_ws0 w hw, List.all_eq_true.mp cl_wg0 w hw⟩, nmX0, tyX0_ok⟩
  | 1, h => cases h; exact ⟨fun w hw => List.mem_filter.mpr ⟨zchk_mem cl_ws1 w hw, List.all_eq_true.mp cl_wg1 w hw⟩, nmX1, tyX1_ok⟩
  | 2, h => cases h; exact ⟨fun w hw => List.mem_filter.mpr ⟨zchk_mem cl_ws2 w hw, List.all_eq_true.mp cl_wg2 w hw⟩, nmX2, tyX2_ok⟩
  | 3, h => cases h; exact ⟨fun w hw => List.mem_filter.mpr ⟨zchk_mem cl_ws3 w hw, List.all_eq_true.mp cl_wg3 w hw⟩, nmX3, tyX3_ok⟩
  | 4, h => cases h; exact ⟨fun w hw => List.mem_filter.mpr ⟨zchk_mem cl_ws4 w hw, List.all_eq_true.mp cl_wg4 w hw⟩, nmX4, tyX4_ok⟩
  | 5, h => cases h; exact ⟨fun w hw => List.mem_filter.mpr ⟨zchk_mem cl_ws5 w hw, List.all_eq_true.mp cl_wg5 w hw⟩, nmX5, tyX5_ok⟩
  | 6, h => cases h; exact ⟨fun w hw => List.mem_filter.mpr ⟨zchk_mem cl_ws6 w hw, List.all_eq_true.mp cl_wg6 w hw⟩, nmX6, tyX6_ok⟩
  | 7, h => cases h; exact ⟨fun w hw => List.mem_filter.mpr ⟨zchk_mem cl_ws7 w hw, List.all_eq_true.mp cl_wg7 w hw⟩, nmX7, tyX7_ok⟩
  | 8, h => cases h; exact ⟨fun w hw => List.mem_filter.mpr ⟨zchk_mem cl_ws8 w hw, List.all_eq_true.mp cl_wg8 w hw⟩, nmX8, tyX8_ok⟩
  | 9, h => cases h; exact ⟨fun w hw => List.mem_filter.mpr ⟨zchk_mem cl_ws9 w hw, List.all_eq_true.mp cl_wg9 w hw⟩, nmX10, tyX10_ok⟩
  | 10, h => cases h; exact ⟨fun w hw => List.mem_filter.mpr ⟨zchk_mem cl_ws10 w hw, List.all_eq_true.mp cl_wg10 w hw⟩, nmX11, tyX11_ok⟩
  | 11, h => cases h; exact ⟨fun w hw => List.mem_filter.mpr ⟨zchk_mem cl_ws11 w hw, List.all_eq_true.mp cl_wg11 w hw⟩, nmX12, tyX12_ok⟩
  | 12, h => cases h; exact ⟨fun w hw => List.mem_filter.mpr ⟨zchk_mem cl_ws12 w hw, List.all_eq_true.mp cl_wg12 w hw⟩, nmJ4, tyJ4_ok⟩
  | 13, h => cases h; exact ⟨fun w hw => List.mem_filter.mpr ⟨zchk_mem cl_ws13 w hw, List.all_eq_true.mp cl_wg13 w hw⟩, nmJ0, tyJ0_ok⟩
  | k + 14, h => simp [vwCl] at h
def CLp : List (Nat × Nat) := [(228, 41), (325, 46), (294, 44), (63, 37), (241, 42), (206, 40), (313, 45), (69, 38), (341, 47), (259, 43), (55, 36), (841, 24), (849, 26), (1347, 27)]
theorem CLp_ok : (List.range 14).all (fun ci => match vwCl[ci]?, CLp[ci]? with | some r, some q => decide (sx_tbl[q.1]? = some (.instantiable r.1 r.2.2)) && decide (sx_tbl[q.2]? = some (.initialized r.1)) | _, _ => false) = true := by decide +kernel
theorem FL_lt : FLk.all (fun e => match vwCl[e.2.2.1]? with | some r => decide (e.2.2.2 < r.2.2) | none => false) = true := by decide +kernel
def NLk : List (String × Nat × Nat) := [("GhostRooms$History", 9, 3), ("GhostRooms$House", 15, 7), ("GhostRooms$Input", 9, 7), ("GhostRooms$Paths", 9, 7), ("GhostRooms$Script", 9, 7), ("GhostRooms", 9, 3), ("GhostRooms", 12, 5), ("GhostRooms", 15, 0), ("GhostRooms", 20, 4), ("GhostRooms", 23, 9), ("GhostRooms", 46, 2), ("GhostRooms", 53, 6), ("GhostRooms", 71, 1), ("GhostRooms", 80, 8), ("GhostRooms", 89, 7), ("GhostRoomsLaw$World", 21, 12), ("GhostRoomsLaw$World", 8, 11), ("java/lang/StringBuilder", 18, 13), ("java/util/Arrays", 45, 12), ("GhostRoomsLaw", 198, 12), ("GhostRoomsLaw", 27, 10)]
def NLp : List Nat := [299, 68, 246, 318, 346, 62, 205, 227, 240, 258, 293, 312, 324, 340, 378, 848, 840, 1346, 1372, 1337, 54]
def nlw (e : String × Nat × Nat) : Cond := match vwCl[e.2.2]? with | some r => .classLink e.1 e.2.1 r.1 | none => .tt
theorem NL_chk : zchk NLk NLp nlw = true := by decide +kernel
theorem NL_good : NLk.all (fun e => goodWord (nlw e)) = true := by decide +kernel
def XLk : List (String × Nat × Nat × Nat × Nat × Nat) := [("GhostRooms$Actions", 23, 25, 27, 0, 0), ("GhostRooms$Actions", 23, 36, 27, 0, 1), ("GhostRooms$Actions", 23, 42, 27, 0, 2), ("GhostRooms$Actions", 52, 54, 56, 1, 3), ("GhostRooms$Actions", 23, 61, 27, 0, 4), ("GhostRooms$Actions", 23, 66, 27, 0, 5), ("GhostRooms$Actions", 23, 98, 27, 0, 6), ("GhostRooms$Actions", 23, 112, 27, 0, 7), ("GhostRooms$Actions", 23, 118, 27, 0, 8), ("GhostRooms$Actions", 23, 123, 27, 0, 9), ("GhostRooms$Actions", 23, 139, 27, 0, 10), ("GhostRooms$Actions", 23, 141, 27, 0, 11), ("GhostRooms$Actions", 23, 143, 27, 0, 12), ("GhostRooms$Actions", 23, 158, 27, 0, 13), ("GhostRooms$House", 93, 95, 97, 2, 23), ("GhostRooms$House", 93, 100, 97, 2, 24), ("GhostRooms$Tokens", 82, 84, 86, 1, 39), ("GhostRooms", 102, 104, 106, 0, 40), ("GhostRooms", 112, 114, 116, 1, 41), ("GhostRooms", 112, 348, 116, 1, 44)]

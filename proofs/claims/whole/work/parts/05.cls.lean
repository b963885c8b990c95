def wdsOK : List Nat → List Jvm.Cond → Bool
  | [], [] => true
  | i :: is, w :: ws => wdOK i w && wdsOK is ws
  | _, _ => false
theorem wdsOK_mem : ∀ (is : List Nat) (ws : List Jvm.Cond), wdsOK is ws = true → ∀ w ∈ ws, w ∈ ALLW
  | [], [], _, w, h => by cases h
  | [], _ :: _, h, _, _ => by cases h
  | _ :: _, [], h, _, _ => by cases h
  | i :: is, v :: ws, h, w, hw => by
    unfold wdsOK at h
    rw [Bool.and_eq_true] at h
    rcases List.mem_cons.mp hw with rfl | hw
    · exact wdOK_mem h.1
    · exact wdsOK_mem is ws h.2 w hw
set_option maxRecDepth 20000 in
theorem aw_0 : ∀ w ∈ u_ws RX0 TX0 6, w ∈ ALLW := wdsOK_mem [507, 509, 511, 513, 515, 517] _ (by decide +kernel)
set_option maxRecDepth 20000 in
theorem aw_1 : ∀ w ∈ u_ws RX1 TX1 4, w ∈ ALLW := wdsOK_mem [388, 390, 392, 394] _ (by decide +kernel)
set_option maxRecDepth 20000 in
theorem aw_2 : ∀ w ∈ u_ws RX2 TX2 8, w ∈ ALLW := wdsOK_mem [298, 300, 302, 304, 306, 308, 310, 312] _ (by decide +kernel)
set_option maxRecDepth 20000 in
theorem aw_3 : ∀ w ∈ u_ws RX3 TX3 7, w ∈ ALLW := wdsOK_mem [414, 416, 418, 420, 422, 424, 426] _ (by decide +kernel)
set_option maxRecDepth 20000 in
theorem aw_4 : ∀ w ∈ u_ws RX4 TX4 13, w ∈ ALLW := wdsOK_mem [333, 335, 337, 339, 341, 343, 345, 347, 349, 351, 353, 355, 357] _ (by decide +kernel)
set_option maxRecDepth 20000 in
theorem aw_5 : ∀ w ∈ u_ws RX5 TX5 8, w ∈ ALLW := wdsOK_mem [475, 477, 479, 481, 483, 485, 487, 489] _ (by decide +kernel)
set_option maxRecDepth 20000 in
theorem aw_6 : ∀ w ∈ u_ws RX6 TX6 2, w ∈ ALLW := wdsOK_mem [376, 378] _ (by decide +kernel)
set_option maxRecDepth 20000 in
theorem aw_7 : ∀ w ∈ u_ws RX7 TX7 3, w ∈ ALLW := wdsOK_mem [159, 161, 163] _ (by decide +kernel)
set_option maxRecDepth 20000 in
theorem aw_8 : ∀ w ∈ u_ws RX8 TX8 2, w ∈ ALLW := wdsOK_mem [184, 186] _ (by decide +kernel)
set_option maxRecDepth 20000 in
theorem aw_9 : ∀ w ∈ u_ws RX9 TX9 6, w ∈ ALLW := wdsOK_mem [446, 448, 450, 452, 454, 456] _ (by decide +kernel)
set_option maxRecDepth 20000 in
theorem aw_10 : ∀ w ∈ u_ws RX10 TX10 14, w ∈ ALLW := wdsOK_mem [241, 243, 245, 247, 249, 251, 253, 255, 257, 259, 261, 263, 265, 267] _ (by decide +kernel)
set_option maxRecDepth 20000 in
theorem aw_11 : ∀ w ∈ u_ws RX11 TX11 9, w ∈ ALLW := wdsOK_mem [529, 531, 533, 535, 537, 539, 541, 543, 545] _ (by decide +kernel)
set_option maxRecDepth 20000 in
theorem aw_12 : ∀ w ∈ u_ws RX12 TX12 43, w ∈ ALLW := wdsOK_mem [1338, 1340, 1342, 1344, 1346, 1348, 1350, 1352, 1354, 1356, 1358, 1360, 1362, 1364, 1366, 1368, 1370, 1372, 1374, 1376, 1378, 1380, 1382, 1384, 1386, 1388, 1390, 1392, 1394, 1396, 1398, 1400, 1402, 1404, 1406, 1408, 1410, 1412, 1414, 1416, 1418, 1420, 1422] _ (by decide +kernel)
def clsF (c : vw_C) : Prop := (∀ w ∈ u_ws c.1 c.2.1 c.2.2, w ∈ ALLW) ∧ (∃ ty0 : Nat → FieldType, ∀ k, k < c.2.2 → parseFieldDescriptor (c.2.1 k).2.2.1 = some (ty0 k)) ∧ ∀ a, a < c.2.2 → ∀ b, b < c.2.2 → a ≠ b → (c.2.1 a).2.1 ≠ (c.2.1 b).2.1
theorem cls_ok : ∀ (k : Nat) (c : vw_C), vwCl[k]? = some c → clsF c := by
  intro k c h
  match k, h with
  | 0, h => cases h; exact ⟨aw_0, ⟨tyX0, tyX0_ok⟩, nmX0⟩
  | 1, h => cases h; exact ⟨aw_1, ⟨tyX1, tyX1_ok⟩, nmX1⟩
  | 2, h => cases h; exact ⟨aw_2, ⟨tyX2, tyX2_ok⟩, nmX2⟩
  | 3, h => cases h; exact ⟨aw_3, ⟨tyX3, tyX3_ok⟩, nmX3⟩
  | 4, h => cases h; exact ⟨aw_4, ⟨tyX4, tyX4_ok⟩, nmX4⟩
  | 5, h => cases h; exact ⟨aw_5, ⟨tyX5, tyX5_ok⟩, nmX5⟩
  | 6, h => cases h; exact ⟨aw_6, ⟨tyX6, tyX6_ok⟩, nmX6⟩
  | 7, h => cases h; exact ⟨aw_7, ⟨tyX7, tyX7_ok⟩, nmX7⟩
  | 8, h => cases h; exact ⟨aw_8, ⟨tyX8, tyX8_ok⟩, nmX8⟩
  | 9, h => cases h; exact ⟨aw_9, ⟨tyX9, tyX9_ok⟩, nmX9⟩
  | 10, h => cases h; exact ⟨aw_10, ⟨tyX10, tyX10_ok⟩, nmX10⟩
  | 11, h => cases h; exact ⟨aw_11, ⟨tyX11, tyX11_ok⟩, nmX11⟩
  | 12, h => cases h; exact ⟨aw_12, ⟨tyX12, tyX12_ok⟩, nmX12⟩
  | k + 13, h => simp [vwCl] at h

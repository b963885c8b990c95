def wdsOK : List Nat → List Jvm.Cond → Bool
  | [], [] => true
  | i :: is, w :: ws => wdOK i w && wdsOK is ws
  | _, _ => false
theorem wdsOK_mem : ∀ (is : List Nat) (ws : List Jvm.Cond), wdsOK is ws = true → ∀ w ∈ ws, w ∈ ALLW
  | [], [], _, w, h => by cases h
  | [], _ :: _, h, _, _ => by cases h
  | _ :: _, [], h, _, _ => by cases h
  | i :: is, v :: ws, h, w, hw => by
    unfold wdsOK at h
    rw [Bool.and_eq_true] at h
    rcases List.mem_cons.mp hw with rfl | hw
    · exact wdOK_mem h.1
    · exact wdsOK_mem is ws h.2 w hw
set_option maxRecDepth 20000 in
theorem aw_0 : ∀ w ∈ u_ws RX0 TX0 6, w ∈ ALLW := wdsOK_mem [2158, 2160, 2162, 2164, 2166, 2168] _ (by decide +kernel)
set_option maxRecDepth 20000 in
theorem aw_1 : ∀ w ∈ u_ws RX1 TX1 4, w ∈ ALLW := wdsOK_mem [2039, 2041, 2043, 2045] _ (by decide +kernel)
set_option maxRecDepth 20000 in
theorem aw_2 : ∀ w ∈ u_ws RX2 TX2 8, w ∈ ALLW := wdsOK_mem [1189, 1191, 1193, 1195, 1197, 1199, 1201, 1203] _ (by decide +kernel)
set_option maxRecDepth 20000 in
theorem aw_3 : ∀ w ∈ u_ws RX3 TX3 7, w ∈ ALLW := wdsOK_mem [2065, 2067, 2069, 2071, 2073, 2075, 2077] _ (by decide +kernel)
set_option maxRecDepth 20000 in
theorem aw_4 : ∀ w ∈ u_ws RX4 TX4 13, w ∈ ALLW := wdsOK_mem [1224, 1226, 1228, 1230, 1232, 1234, 1236, 1238, 2000, 2002, 2004, 2006, 2008] _ (by decide +kernel)
set_option maxRecDepth 20000 in
theorem aw_5 : ∀ w ∈ u_ws RX5 TX5 8, w ∈ ALLW := wdsOK_mem [2126, 2128, 2130, 2132, 2134, 2136, 2138, 2140] _ (by decide +kernel)
set_option maxRecDepth 20000 in
theorem aw_6 : ∀ w ∈ u_ws RX6 TX6 2, w ∈ ALLW := wdsOK_mem [2027, 2029] _ (by decide +kernel)
set_option maxRecDepth 20000 in
theorem aw_7 : ∀ w ∈ u_ws RX7 TX7 3, w ∈ ALLW := wdsOK_mem [1050, 1052, 1054] _ (by decide +kernel)
set_option maxRecDepth 20000 in
theorem aw_8 : ∀ w ∈ u_ws RX8 TX8 2, w ∈ ALLW := wdsOK_mem [1075, 1077] _ (by decide +kernel)
set_option maxRecDepth 20000 in
theorem aw_9 : ∀ w ∈ u_ws RX9 TX9 6, w ∈ ALLW := wdsOK_mem [2097, 2099, 2101, 2103, 2105, 2107] _ (by decide +kernel)
set_option maxRecDepth 20000 in
theorem aw_10 : ∀ w ∈ u_ws RX10 TX10 14, w ∈ ALLW := wdsOK_mem [1132, 1134, 1136, 1138, 1140, 1142, 1144, 1146, 1148, 1150, 1152, 1154, 1156, 1158] _ (by decide +kernel)
set_option maxRecDepth 20000 in
theorem aw_11 : ∀ w ∈ u_ws RX11 TX11 9, w ∈ ALLW := wdsOK_mem [2180, 2182, 2184, 2186, 2188, 2190, 2192, 2194, 2196] _ (by decide +kernel)
set_option maxRecDepth 20000 in
theorem aw_12 : ∀ w ∈ u_ws RX12 TX12 43, w ∈ ALLW := wdsOK_mem [6029, 6031, 6033, 6035, 6037, 6039, 6041, 6043, 6045, 6047, 6049, 6051, 6053, 6055, 6057, 6059, 6061, 6063, 6065, 6067, 6069, 6071, 6073, 6075, 6077, 6079, 6081, 6083, 6085, 6087, 6089, 6091, 6093, 6095, 6097, 6099, 6101, 6103, 6105, 6107, 6109, 6111, 6113] _ (by decide +kernel)
def clsF (c : vw_C) : Prop := (∀ w ∈ u_ws c.1 c.2.1 c.2.2, w ∈ ALLW) ∧ (∃ ty0 : Nat → FieldType, ∀ k, k < c.2.2 → parseFieldDescriptor (c.2.1 k).2.2.1 = some (ty0 k)) ∧ ∀ a, a < c.2.2 → ∀ b, b < c.2.2 → a ≠ b → (c.2.1 a).2.1 ≠ (c.2.1 b).2.1
theorem cls_ok : ∀ (k : Nat) (c : vw_C), vwCl[k]? = some c → clsF c := by
  intro k c h
  match k, h with
  | 0, h => cases h; exact ⟨aw_0, ⟨tyX0, tyX0_ok⟩, nmX0⟩
  | 1, h => cases h; exact ⟨aw_1, ⟨tyX1, tyX1_ok⟩, nmX1⟩
  | 2, h => cases h; exact ⟨aw_2, ⟨tyX2, tyX2_ok⟩, nmX2⟩
  | 3, h => cases h; exact ⟨aw_3, ⟨tyX3, tyX3_ok⟩, nmX3⟩
  | 4, h => cases h; exact ⟨aw_4, ⟨tyX4, tyX4_ok⟩, nmX4⟩
  | 5, h => cases h; exact ⟨aw_5, ⟨tyX5, tyX5_ok⟩, nmX5⟩
  | 6, h => cases h; exact ⟨aw_6, ⟨tyX6, tyX6_ok⟩, nmX6⟩
  | 7, h => cases h; exact ⟨aw_7, ⟨tyX7, tyX7_ok⟩, nmX7⟩
  | 8, h => cases h; exact ⟨aw_8, ⟨tyX8, tyX8_ok⟩, nmX8⟩
  | 9, h => cases h; exact ⟨aw_9, ⟨tyX9, tyX9_ok⟩, nmX9⟩
  | 10, h => cases h; exact ⟨aw_10, ⟨tyX10, tyX10_ok⟩, nmX10⟩
  | 11, h => cases h; exact ⟨aw_11, ⟨tyX11, tyX11_ok⟩, nmX11⟩
  | 12, h => cases h; exact ⟨aw_12, ⟨tyX12, tyX12_ok⟩, nmX12⟩
  | k + 13, h => simp [vwCl] at h

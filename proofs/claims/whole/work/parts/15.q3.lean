/-! ===== String's own methods over the two constants ===== -/
def ixF (c : Int32) : List Int32 → Nat → Int32
  | [], _ => -1
  | b :: l, k => if b = c then Int32.ofNat k else ixF c l (k + 1)
theorem q_ofN {n : Nat} (h : n < 2 ^ 31) : (Int32.ofNat n).toInt = n := by
  exact Int32.toInt_ofNat_of_lt h
theorem q_inb {j : Int32} {n : Nat} (h : inb j n) (hn : n < 2 ^ 31) : j < Int32.ofNat n := by
  rw [Int32.lt_iff_toInt_lt, q_ofN hn]
  have h2 : j.toInt.toNat < n := h.2
  omega
theorem q_lt {k n : Nat} (h : k < n) (hn : n < 2 ^ 31) : Int32.ofNat k < Int32.ofNat n := by
  rw [Int32.lt_iff_toInt_lt, q_ofN hn, q_ofN (Nat.lt_trans h hn)]
  omega
theorem q_cs {P : Nat → Prop} {i : Nat} (hi : i < 2) (h0 : P 0) (h1 : P 1) : P i := by
  match i, hi with
  | 0, _ => exact h0
  | 1, _ => exact h1
theorem q_len {i : Nat} (hi : i < 2) : (scB.getD i []).length = scL.getD i 0 := q_cs (P := fun i => (scB.getD i []).length = scL.getD i 0) hi (by decide +kernel) (by decide +kernel)
theorem q_sml {i : Nat} (hi : i < 2) : 0 < scL.getD i 0 ∧ scL.getD i 0 < 100 := q_cs (P := fun i => 0 < scL.getD i 0 ∧ scL.getD i 0 < 100) hi (by decide +kernel) (by decide +kernel)
theorem q_shr {i : Nat} (hi : i < 2) : Int32.ofNat (scL.getD i 0) >>> ((0 : Int32) &&& 31) = Int32.ofNat (scL.getD i 0) := q_cs (P := fun i => Int32.ofNat (scL.getD i 0) >>> ((0 : Int32) &&& 31) = Int32.ofNat (scL.getD i 0)) hi (by decide +kernel) (by decide +kernel)
theorem q_byt : ∀ b ∈ scB.getD 0 [] ++ scB.getD 1 [], (((b &&& (Int16.ofInt 255).toInt32).toUInt32 % 65536).toInt32) = b ∧ ¬ b < 0 ∧ ¬ 127 < b := by decide +kernel
theorem q_mem {i k : Nat} (hi : i < 2) (hk : k < scL.getD i 0) : (scB.getD i []).getD k 0 ∈ scB.getD 0 [] ++ scB.getD 1 [] := by
  rw [← q_len hi] at hk
  have e : (scB.getD i []).getD k 0 = (scB.getD i [])[k] := by rw [List.getD_eq_getElem?_getD, List.getElem?_eq_getElem hk]; rfl
  rw [e]
  have hm : (scB.getD i [])[k] ∈ scB.getD i [] := List.getElem_mem hk
  match i, hi with
  | 0, _ => exact List.mem_append_left _ hm
  | 1, _ => exact List.mem_append_right _ hm
theorem q_nar : ∀ b ∈ scB.getD 0 [] ++ scB.getD 1 [], narrow .char (.int b) = .int b := by decide +kernel
theorem q_sgn : ∀ q, q < 256 → ∀ b ∈ scB.getD 0 [] ++ scB.getD 1 [], (b = (Int32.ofNat q).toInt8.toInt32) = (b = Int32.ofNat q) := by
  have h : ∀ q, q < 256 → ∀ b ∈ scB.getD 0 [] ++ scB.getD 1 [], decide (b = (Int32.ofNat q).toInt8.toInt32) = decide (b = Int32.ofNat q) := by decide +kernel
  intro q hq b hb
  have := h q hq b hb
  exact propext (decide_eq_decide.mp this)
section
variable {d i : Nat}
theorem c_s_cod (hi : i < 2) : CtQ d M_s_cod [.ref i] (some (.int 0)) := by
  refine CtQ.intro pf_s_cod (Nat.le_of_ble_eq_true rfl) ?_
  refine AQ.gstC ds_s_cod_0 fl_s_38 rfl ?_
  refine AQ.cF (by decide) (SK.at sK_s_cod 0 rfl) 13 6 6 rfl rfl rfl rfl ?_
  refine AQ.g sK_s_cod 1 1 True 7 [some (.ref i)] [.ref i] rfl trivial ?_
  refine AQ.gfC hi ds_s_cod_7 fl_s_15 rfl ?_
  refine AQ.g sK_s_cod 2 1 True 14 [some (.ref i)] [.int 0] rfl trivial ?_
  exact AQ.xn (by decide) (SK.at sK_s_cod 4 rfl) rfl
theorem c_s_lat (hi : i < 2) : CtQ d M_s_lat [.ref i] (some (.int 1)) := by
  refine CtQ.intro pf_s_lat (Nat.le_of_ble_eq_true rfl) ?_
  refine AQ.gstC ds_s_lat_0 fl_s_38 rfl ?_
  refine AQ.cF (by decide) (SK.at sK_s_lat 0 rfl) 17 6 6 rfl rfl rfl rfl ?_
  refine AQ.g sK_s_lat 1 1 True 7 [some (.ref i)] [.ref i] rfl trivial ?_
  refine AQ.gfC hi ds_s_lat_7 fl_s_15 rfl ?_
  refine AQ.cT rfl (SK.at sK_s_lat 2 rfl) 17 13 13 rfl rfl rfl rfl ?_
  refine AQ.g sK_s_lat 3 2 True 18 [some (.ref i)] [.int 1] rfl trivial ?_
  exact AQ.xn (by decide) (SK.at sK_s_lat 6 rfl) rfl
theorem c_s_len (hi : i < 2) : CtQ (d + 1) M_s_len [.ref i] (some (.int (Int32.ofNat (scL.getD i 0)))) := by
  refine CtQ.intro pf_s_len (Nat.le_of_ble_eq_true rfl) ?_
  refine AQ.g sK_s_len 0 1 True 1 [some (.ref i)] [.ref i] rfl trivial ?_
  refine AQ.gfV hi ds_s_len_1 fl_s_9 rfl ?_
  refine AQ.aln hi (SK.at sK_s_len 1 rfl) ?_
  refine AQ.g sK_s_len 2 1 True 6 [some (.ref i)] [.ref i, .int (Int32.ofNat (scL.getD i 0))] rfl trivial ?_
  refine AQ.cV hi mk_s_cod (SK.at sK_s_len 3 rfl) lk_s_S_335 (c_s_cod hi) [.int (Int32.ofNat (scL.getD i 0))] 9 [.int 0, .int (Int32.ofNat (scL.getD i 0))] rfl rfl rfl rfl rfl (Nat.le_of_ble_eq_true rfl) rfl rfl ?_
  refine AQ.g sK_s_len 4 1 True 10 [some (.ref i)] [.int (Int32.ofNat (scL.getD i 0) >>> ((0 : Int32) &&& 31))] rfl trivial ?_
  rw [q_shr hi]
  exact AQ.xi (SK.at sK_s_len 5 rfl) rfl
theorem c_s_pck {j L : Int32} (h1 : ¬ j < 0) (h2 : j < L) : CtQ d M_s_pck [.int j, .int L, .ref 4] (some (.int j)) := by
  refine CtQ.intro pf_s_pck (Nat.le_of_ble_eq_true rfl) ?_
  refine AQ.g sK_s_pck 0 1 True 1 [some (.int j), some (.int L), some (.ref 4)] [.int j] rfl trivial ?_
  refine AQ.cF h1 (SK.at sK_s_pck 1 rfl) 9 4 4 rfl rfl rfl rfl ?_
  refine AQ.g sK_s_pck 2 2 True 6 [some (.int j), some (.int L), some (.ref 4)] [.int L, .int j] rfl trivial ?_
  refine AQ.cT h2 (SK.at sK_s_pck 4 rfl) 16 9 16 rfl rfl rfl rfl ?_
  refine AQ.g sK_s_pck 9 1 True 17 [some (.int j), some (.int L), some (.ref 4)] [.int j] rfl trivial ?_
  exact AQ.xi (SK.at sK_s_pck 10 rfl) rfl
theorem c_s_pckN {j L : Int32} (h1 : ¬ j < 0) (h2 : j < L) : CtQ d M_s_pck [.int j, .int L, .null] (some (.int j)) := by
  refine CtQ.intro pf_s_pck (Nat.le_of_ble_eq_true rfl) ?_
  refine AQ.g sK_s_pck 0 1 True 1 [some (.int j), some (.int L), some (.null)] [.int j] rfl trivial ?_
  refine AQ.cF h1 (SK.at sK_s_pck 1 rfl) 9 4 4 rfl rfl rfl rfl ?_
  refine AQ.g sK_s_pck 2 2 True 6 [some (.int j), some (.int L), some (.null)] [.int L, .int j] rfl trivial ?_
  refine AQ.cT h2 (SK.at sK_s_pck 4 rfl) 16 9 16 rfl rfl rfl rfl ?_
  refine AQ.g sK_s_pck 9 1 True 17 [some (.int j), some (.int L), some (.null)] [.int j] rfl trivial ?_
  exact AQ.xi (SK.at sK_s_pck 10 rfl) rfl
theorem c_s_chk {j L : Int32} (h1 : ¬ j < 0) (h2 : j < L) : CtQ (d + 1) M_s_chk [.int j, .int L] none := by
  refine CtQ.intro pf_s_chk (Nat.le_of_ble_eq_true rfl) ?_
  refine AQ.g sK_s_chk 0 2 True 2 [some (.int j), some (.int L)] [.int L, .int j] rfl trivial ?_
  refine AQ.gstF ds_s_chk_2 fl_s_1053 rfl ?_ ?_
  · refine AQ.cS mk_s_pck (SK.at sK_s_chk 2 rfl) lk_s_S_1059 (c_s_pck h1 h2) [] 8 [.int j] rfl rfl rfl rfl (Nat.le_of_ble_eq_true rfl) rfl rfl ?_
    refine AQ.g sK_s_chk 3 1 True 9 [some (.int j), some (.int L)] [] rfl trivial ?_
    exact AQ.xv (SK.at sK_s_chk 4 rfl) rfl
  · refine AQ.cS mk_s_pck (SK.at sK_s_chk 2 rfl) lk_s_S_1059 (c_s_pckN h1 h2) [] 8 [.int j] rfl rfl rfl rfl (Nat.le_of_ble_eq_true rfl) rfl rfl ?_
    refine AQ.g sK_s_chk 3 1 True 9 [some (.int j), some (.int L)] [] rfl trivial ?_
    exact AQ.xv (SK.at sK_s_chk 4 rfl) rfl
theorem c_s_lch {j : Int32} (hi : i < 2) (hj : inb j (scL.getD i 0)) : CtQ (d + 2) M_s_lch [.ref (i + 2), .int j] (some (.int ((scB.getD i []).getD (ix j) 0))) := by
  refine CtQ.intro pf_s_lch (Nat.le_of_ble_eq_true rfl) ?_
  refine AQ.g sK_s_lch 0 2 True 2 [some (.ref (i + 2)), some (.int j)] [.ref (i + 2), .int j] rfl trivial ?_
  refine AQ.aln hi (SK.at sK_s_lch 2 rfl) ?_
  refine AQ.cS mk_s_chk (SK.at sK_s_lch 3 rfl) lk_s_L_9 (c_s_chk hj.1 (q_inb hj (Nat.lt_trans (q_sml hi).2 (by decide)))) [] 6 [] rfl rfl rfl rfl (Nat.le_of_ble_eq_true rfl) rfl rfl ?_
  refine AQ.g sK_s_lch 4 2 True 8 [some (.ref (i + 2)), some (.int j)] [.int j, .ref (i + 2)] rfl trivial ?_
  refine AQ.bal hi hj (SK.at sK_s_lch 6 rfl) ?_
  refine AQ.g sK_s_lch 7 3 True 14 [some (.ref (i + 2)), some (.int j)] [.int (((((scB.getD i []).getD (ix j) 0) &&& (Int16.ofInt 255).toInt32).toUInt32 % 65536).toInt32)] rfl trivial ?_
  rw [(q_byt _ (q_mem hi hj.2)).1]
  exact AQ.xn (q_nar _ (q_mem hi hj.2)) (SK.at sK_s_lch 10 rfl) rfl
theorem c_s_cha {j : Int32} (hi : i < 2) (hj : inb j (scL.getD i 0)) : CtQ (d + 3) M_s_cha [.ref i, .int j] (some (.int ((scB.getD i []).getD (ix j) 0))) := by
  refine CtQ.intro pf_s_cha (Nat.le_of_ble_eq_true rfl) ?_
  refine AQ.g sK_s_cha 0 1 True 1 [some (.ref i), some (.int j)] [.ref i] rfl trivial ?_
  refine AQ.cV hi mk_s_lat (SK.at sK_s_cha 1 rfl) lk_s_S_492 (c_s_lat hi) [] 4 [.int 1] rfl rfl rfl rfl rfl (Nat.le_of_ble_eq_true rfl) rfl rfl ?_
  refine AQ.cF (by decide) (SK.at sK_s_cha 2 rfl) 16 7 7 rfl rfl rfl rfl ?_
  refine AQ.g sK_s_cha 3 1 True 8 [some (.ref i), some (.int j)] [.ref i] rfl trivial ?_
  refine AQ.gfV hi ds_s_cha_8 fl_s_9 rfl ?_
  refine AQ.g sK_s_cha 4 1 True 12 [some (.ref i), some (.int j)] [.int j, .ref (i + 2)] rfl trivial ?_
  refine AQ.cS mk_s_lch (SK.at sK_s_cha 5 rfl) lk_s_S_495 (c_s_lch hi hj) [] 15 [.int ((scB.getD i []).getD (ix j) 0)] rfl rfl rfl rfl (Nat.le_of_ble_eq_true rfl) rfl rfl ?_
  exact AQ.xn (q_nar _ (q_mem hi hj.2)) (SK.at sK_s_cha 6 rfl) rfl
end

/-! ===== indexOf over the two constants ===== -/
theorem ixF_out {c : Int32} : ∀ (l : List Int32) (k : Nat), (∀ b ∈ l, ¬ b = c) → ixF c l k = -1
  | [], _, _ => rfl
  | b :: l, k, h => by
    rw [ixF, if_neg (h b List.mem_cons_self)]
    exact ixF_out l (k + 1) (fun b hb => h b (List.mem_cons_of_mem _ hb))
section
variable {d i : Nat}
theorem c_s_max {x y : Int32} (h : ¬ x < y) : CtQ d M_s_max [.int x, .int y] (some (.int x)) := by
  refine CtQ.intro pf_s_max (Nat.le_of_ble_eq_true rfl) ?_
  refine AQ.g sK_s_max 0 2 True 2 [some (.int x), some (.int y)] [.int y, .int x] rfl trivial ?_
  refine AQ.cF h (SK.at sK_s_max 2 rfl) 9 5 5 rfl rfl rfl rfl ?_
  refine AQ.g sK_s_max 3 2 True 10 [some (.int x), some (.int y)] [.int x] rfl trivial ?_
  exact AQ.xi (SK.at sK_s_max 6 rfl) rfl
theorem c_s_min {x y : Int32} (h : ¬ y < x) : CtQ d M_s_min [.int x, .int y] (some (.int x)) := by
  refine CtQ.intro pf_s_min (Nat.le_of_ble_eq_true rfl) ?_
  refine AQ.g sK_s_min 0 2 True 2 [some (.int x), some (.int y)] [.int y, .int x] rfl trivial ?_
  refine AQ.cF h (SK.at sK_s_min 2 rfl) 9 5 5 rfl rfl rfl rfl ?_
  refine AQ.g sK_s_min 3 2 True 10 [some (.int x), some (.int y)] [.int x] rfl trivial ?_
  exact AQ.xi (SK.at sK_s_min 6 rfl) rfl
theorem c_s_enc1 {c : Int32} (h1 : ¬ c < 0) (h2 : ¬ (Int16.ofInt 255).toInt32 < c) : CtQ d M_s_enc [.int c] (some (.int 1)) := by
  refine CtQ.intro pf_s_enc (Nat.le_of_ble_eq_true rfl) ?_
  refine AQ.g sK_s_enc 0 1 True 1 [some (.int c)] [.int c] rfl trivial ?_
  refine AQ.cF h1 (SK.at sK_s_enc 1 rfl) 15 4 4 rfl rfl rfl rfl ?_
  refine AQ.g sK_s_enc 2 2 True 8 [some (.int c)] [.int ((Int16.ofInt 255).toInt32), .int c] rfl trivial ?_
  refine AQ.cF h2 (SK.at sK_s_enc 4 rfl) 15 11 11 rfl rfl rfl rfl ?_
  refine AQ.g sK_s_enc 5 2 True 16 [some (.int c)] [.int 1] rfl trivial ?_
  exact AQ.xn (by decide) (SK.at sK_s_enc 8 rfl) rfl
theorem c_s_enc0 {c : Int32} (h : c < 0 ∨ (Int16.ofInt 255).toInt32 < c) : CtQ d M_s_enc [.int c] (some (.int 0)) := by
  refine CtQ.intro pf_s_enc (Nat.le_of_ble_eq_true rfl) ?_
  refine AQ.g sK_s_enc 0 1 True 1 [some (.int c)] [.int c] rfl trivial ?_
  have k : AQ (M_s_enc, d, some (.int 0), [], []) 15 [some (.int c)] [] [] := by
    refine AQ.g sK_s_enc 7 1 True 16 [some (.int c)] [.int 0] rfl trivial ?_
    exact AQ.xn (by decide) (SK.at sK_s_enc 8 rfl) rfl
  by_cases h1 : c < 0
  · exact AQ.cT h1 (SK.at sK_s_enc 1 rfl) 15 4 15 rfl rfl rfl rfl k
  · refine AQ.cF h1 (SK.at sK_s_enc 1 rfl) 15 4 4 rfl rfl rfl rfl ?_
    refine AQ.g sK_s_enc 2 2 True 8 [some (.int c)] [.int ((Int16.ofInt 255).toInt32), .int c] rfl trivial ?_
    exact AQ.cT (h.resolve_left h1) (SK.at sK_s_enc 4 rfl) 15 11 15 rfl rfl rfl rfl k
theorem q_inc {k : Nat} : Int32.ofNat k + Int32.ofInt 1 = Int32.ofNat (k + 1) := by
  rw [show Int32.ofInt 1 = Int32.ofNat 1 from rfl, ← Int32.ofNat_add]
theorem q_inbN {k n : Nat} (h : k < n) (hn : n < 2 ^ 31) : inb (Int32.ofNat k) n ∧ ix (Int32.ofNat k) = k := by
  have e := q_ofN (n := k) (Nat.lt_trans h hn)
  have e2 : (Int32.ofNat k).toInt.toNat = k := by rw [e]; rfl
  refine ⟨⟨?_, ?_⟩, e2⟩
  · rw [Int32.lt_iff_toInt_lt, e]
    have : (0 : Int32).toInt = 0 := rfl
    omega
  · show (Int32.ofNat k).toInt.toNat < n
    rw [e2]; exact h
theorem getD_get {l : List Int32} {k : Nat} (h : k < l.length) : l.getD k 0 = l[k] := by rw [List.getD_eq_getElem?_getD, List.getElem?_eq_getElem h]; rfl
theorem lic_loop {q : Nat} (hi : i < 2) (hq : q < 256) {R x : Int32} : ∀ (n k : Nat), k + n = scL.getD i 0 → ixF (Int32.ofNat q) ((scB.getD i []).drop k) k = R → AQ (M_s_lic, d, some (.int R), [], []) 7 [some (.ref (i + 2)), some (.int (Int32.ofNat q)), some (.int x), some (.int (Int32.ofNat (scL.getD i 0))), some (.int (Int32.ofNat q).toInt8.toInt32), some (.int (Int32.ofNat k))] [] []
  | 0, k, hk, hR => by
    have hk : k = scL.getD i 0 := hk
    rw [List.drop_of_length_le (by rw [q_len hi, hk]; exact Nat.le_refl _)] at hR
    subst hR
    refine AQ.g sK_s_lic 5 2 True 10 [some (.ref (i + 2)), some (.int (Int32.ofNat q)), some (.int x), some (.int (Int32.ofNat (scL.getD i 0))), some (.int (Int32.ofNat q).toInt8.toInt32), some (.int (Int32.ofNat k))] [.int (Int32.ofNat (scL.getD i 0)), .int (Int32.ofNat k)] rfl trivial ?_
    refine AQ.cF (by rw [hk]; exact Int32.lt_irrefl) (SK.at sK_s_lic 7 rfl) 31 13 31 rfl rfl rfl rfl ?_
    refine AQ.g sK_s_lic 17 1 True 32 [some (.ref (i + 2)), some (.int (Int32.ofNat q)), some (.int x), some (.int (Int32.ofNat (scL.getD i 0))), some (.int (Int32.ofNat q).toInt8.toInt32), some (.int (Int32.ofNat k))] [.int (-1)] rfl trivial ?_
    exact AQ.xi (SK.at sK_s_lic 18 rfl) rfl
  | n + 1, k, hk, hR => by
    have hkl : k < scL.getD i 0 := by omega
    have hL : scL.getD i 0 < 2 ^ 31 := Nat.lt_trans (q_sml hi).2 (by decide)
    have hkb : k < (scB.getD i []).length := by rw [q_len hi]; exact hkl
    have eb : (scB.getD i [])[k] = (scB.getD i []).getD k 0 := (getD_get hkb).symm
    rw [List.drop_eq_getElem_cons hkb, eb, ixF] at hR
    obtain ⟨hin, hix⟩ := q_inbN hkl hL
    refine AQ.g sK_s_lic 5 2 True 10 [some (.ref (i + 2)), some (.int (Int32.ofNat q)), some (.int x), some (.int (Int32.ofNat (scL.getD i 0))), some (.int (Int32.ofNat q).toInt8.toInt32), some (.int (Int32.ofNat k))] [.int (Int32.ofNat (scL.getD i 0)), .int (Int32.ofNat k)] rfl trivial ?_
    refine AQ.cT (q_lt hkl hL) (SK.at sK_s_lic 7 rfl) 31 13 13 rfl rfl rfl rfl ?_
    refine AQ.g sK_s_lic 8 2 True 16 [some (.ref (i + 2)), some (.int (Int32.ofNat q)), some (.int x), some (.int (Int32.ofNat (scL.getD i 0))), some (.int (Int32.ofNat q).toInt8.toInt32), some (.int (Int32.ofNat k))] [.int (Int32.ofNat k), .ref (i + 2)] rfl trivial ?_
    refine AQ.bal hi hin (SK.at sK_s_lic 10 rfl) ?_
    rw [hix]
    refine AQ.g sK_s_lic 11 1 True 19 [some (.ref (i + 2)), some (.int (Int32.ofNat q)), some (.int x), some (.int (Int32.ofNat (scL.getD i 0))), some (.int (Int32.ofNat q).toInt8.toInt32), some (.int (Int32.ofNat k))] [.int (Int32.ofNat q).toInt8.toInt32, .int ((scB.getD i []).getD k 0)] rfl trivial ?_
    have hsg := q_sgn q hq _ (q_mem hi hkl)
    by_cases hb : (scB.getD i []).getD k 0 = Int32.ofNat q
    · rw [if_pos hb] at hR
      subst hR
      refine AQ.cT (hsg.mpr hb) (SK.at sK_s_lic 12 rfl) 25 22 22 rfl rfl rfl rfl ?_
      refine AQ.g sK_s_lic 13 1 True 24 [some (.ref (i + 2)), some (.int (Int32.ofNat q)), some (.int x), some (.int (Int32.ofNat (scL.getD i 0))), some (.int (Int32.ofNat q).toInt8.toInt32), some (.int (Int32.ofNat k))] [.int (Int32.ofNat k)] rfl trivial ?_
      exact AQ.xi (SK.at sK_s_lic 14 rfl) rfl
    · rw [if_neg hb] at hR
      refine AQ.cF (fun h => hb (hsg.mp h)) (SK.at sK_s_lic 12 rfl) 25 22 25 rfl rfl rfl rfl ?_
      refine AQ.g sK_s_lic 15 2 True 7 [some (.ref (i + 2)), some (.int (Int32.ofNat q)), some (.int x), some (.int (Int32.ofNat (scL.getD i 0))), some (.int (Int32.ofNat q).toInt8.toInt32), some (.int (Int32.ofNat k + Int32.ofInt 1))] [] rfl trivial ?_
      rw [q_inc]
      exact lic_loop hi hq n (k + 1) (by omega) hR
theorem c_s_lic {q : Nat} (hi : i < 2) (hq : q < 256) : CtQ d M_s_lic [.ref (i + 2), .int (Int32.ofNat q), .int 0, .int (Int32.ofNat (scL.getD i 0))] (some (.int (ixF (Int32.ofNat q) (scB.getD i []) 0))) := by
  refine CtQ.intro pf_s_lic (Nat.le_of_ble_eq_true rfl) ?_
  refine AQ.g sK_s_lic 0 1 True 1 [some (.ref (i + 2)), some (.int (Int32.ofNat q)), some (.int 0), some (.int (Int32.ofNat (scL.getD i 0)))] [.int (Int32.ofNat q)] rfl trivial ?_
  refine AQ.i2b (SK.at sK_s_lic 1 rfl) ?_
  refine AQ.g sK_s_lic 2 3 True 7 [some (.ref (i + 2)), some (.int (Int32.ofNat q)), some (.int 0), some (.int (Int32.ofNat (scL.getD i 0))), some (.int (Int32.ofNat q).toInt8.toInt32), some (.int 0)] [] rfl trivial ?_
  exact lic_loop hi hq (scL.getD i 0) 0 (Nat.zero_add _) rfl
theorem c_s_lix {c : Int32} (hi : i < 2) : CtQ (d + 1) M_s_lix [.ref (i + 2), .int c, .int 0, .int (Int32.ofNat (scL.getD i 0))] (some (.int (ixF c (scB.getD i []) 0))) := by
  have hL : scL.getD i 0 < 2 ^ 31 := Nat.lt_trans (q_sml hi).2 (by decide)
  refine CtQ.intro pf_s_lix (Nat.le_of_ble_eq_true rfl) ?_
  refine AQ.g sK_s_lix 0 1 True 1 [some (.ref (i + 2)), some (.int c), some (.int 0), some (.int (Int32.ofNat (scL.getD i 0)))] [.int c] rfl trivial ?_
  by_cases hc : c < 0 ∨ (Int16.ofInt 255).toInt32 < c
  · refine AQ.cS mk_s_enc (SK.at sK_s_lix 1 rfl) lk_s_L_88 (c_s_enc0 hc) [] 4 [.int 0] rfl rfl rfl rfl (Nat.le_of_ble_eq_true rfl) rfl rfl ?_
    refine AQ.cT rfl (SK.at sK_s_lix 2 rfl) 9 7 7 rfl rfl rfl rfl ?_
    refine AQ.g sK_s_lix 3 1 True 8 [some (.ref (i + 2)), some (.int c), some (.int 0), some (.int (Int32.ofNat (scL.getD i 0)))] [.int (-1)] rfl trivial ?_
    rw [ixF_out (scB.getD i []) 0 (fun b hb he => ?_)]
    · exact AQ.xi (SK.at sK_s_lix 4 rfl) rfl
    · have hm : b ∈ scB.getD 0 [] ++ scB.getD 1 [] := by
        match i, hi with
        | 0, _ => exact List.mem_append_left _ hb
        | 1, _ => exact List.mem_append_right _ hb
      obtain ⟨-, g1, g2⟩ := q_byt b hm
      subst he
      rcases hc with hc | hc
      · exact g1 hc
      · exact g2 (Int32.lt_trans (by decide) hc)
  · have h1 : ¬ c < 0 := fun h => hc (Or.inl h)
    have h2 : ¬ (Int16.ofInt 255).toInt32 < c := fun h => hc (Or.inr h)
    obtain ⟨q, hq, hqc⟩ : ∃ q : Nat, q < 256 ∧ c = Int32.ofNat q := by
      rw [Int32.lt_iff_toInt_lt] at h1 h2
      have e1 : (0 : Int32).toInt = 0 := rfl
      have e2 : (Int16.ofInt 255).toInt32.toInt = 255 := by decide
      rw [e1] at h1
      rw [e2] at h2
      have hlt : c.toInt.toNat < 256 := by omega
      refine ⟨c.toInt.toNat, hlt, ?_⟩
      apply Int32.toInt_inj.mp
      rw [q_ofN (Nat.lt_trans hlt (by decide))]
      omega
    refine AQ.cS mk_s_enc (SK.at sK_s_lix 1 rfl) lk_s_L_88 (c_s_enc1 h1 h2) [] 4 [.int 1] rfl rfl rfl rfl (Nat.le_of_ble_eq_true rfl) rfl rfl ?_
    refine AQ.cF (by decide) (SK.at sK_s_lix 2 rfl) 9 7 9 rfl rfl rfl rfl ?_
    refine AQ.g sK_s_lix 5 2 True 11 [some (.ref (i + 2)), some (.int c), some (.int 0), some (.int (Int32.ofNat (scL.getD i 0)))] [.int 0, .int 0] rfl trivial ?_
    refine AQ.cS mk_s_max (SK.at sK_s_lix 7 rfl) lk_s_L_92 (c_s_max (x := 0) (y := 0) (by decide)) [] 14 [.int 0] rfl rfl rfl rfl (Nat.le_of_ble_eq_true rfl) rfl rfl ?_
    refine AQ.g sK_s_lix 8 3 True 17 [some (.ref (i + 2)), some (.int c), some (.int 0), some (.int (Int32.ofNat (scL.getD i 0)))] [.ref (i + 2), .int (Int32.ofNat (scL.getD i 0))] rfl trivial ?_
    refine AQ.aln hi (SK.at sK_s_lix 11 rfl) ?_
    refine AQ.cS mk_s_min (SK.at sK_s_lix 12 rfl) lk_s_L_38 (c_s_min (x := Int32.ofNat (scL.getD i 0)) (y := Int32.ofNat (scL.getD i 0)) Int32.lt_irrefl) [] 21 [.int (Int32.ofNat (scL.getD i 0))] rfl rfl rfl rfl (Nat.le_of_ble_eq_true rfl) rfl rfl ?_
    refine AQ.g sK_s_lix 13 3 True 24 [some (.ref (i + 2)), some (.int c), some (.int 0), some (.int (Int32.ofNat (scL.getD i 0)))] [.int (Int32.ofNat (scL.getD i 0)), .int 0] rfl trivial ?_
    refine AQ.cT (q_lt (q_sml hi).1 hL) (SK.at sK_s_lix 16 rfl) 29 27 29 rfl rfl rfl rfl ?_
    refine AQ.g sK_s_lix 19 4 True 33 [some (.ref (i + 2)), some (.int c), some (.int 0), some (.int (Int32.ofNat (scL.getD i 0)))] [.int (Int32.ofNat (scL.getD i 0)), .int 0, .int c, .ref (i + 2)] rfl trivial ?_
    subst hqc
    refine AQ.cS mk_s_lic (SK.at sK_s_lix 23 rfl) lk_s_L_95 (c_s_lic hi hq) [] 36 [.int (ixF (Int32.ofNat q) (scB.getD i []) 0)] rfl rfl rfl rfl (Nat.le_of_ble_eq_true rfl) rfl rfl ?_
    exact AQ.xi (SK.at sK_s_lix 24 rfl) rfl
theorem c_s_ix2 {c : Int32} (hi : i < 2) : CtQ (d + 2) M_s_ix2 [.ref i, .int c, .int 0] (some (.int (ixF c (scB.getD i []) 0))) := by
  refine CtQ.intro pf_s_ix2 (Nat.le_of_ble_eq_true rfl) ?_
  refine AQ.g sK_s_ix2 0 1 True 1 [some (.ref i), some (.int c), some (.int 0)] [.ref i] rfl trivial ?_
  refine AQ.cV hi mk_s_lat (SK.at sK_s_ix2 1 rfl) lk_s_S_492 (c_s_lat hi) [] 4 [.int 1] rfl rfl rfl rfl rfl (Nat.le_of_ble_eq_true rfl) rfl rfl ?_
  refine AQ.cF (by decide) (SK.at sK_s_ix2 2 rfl) 23 7 7 rfl rfl rfl rfl ?_
  refine AQ.g sK_s_ix2 3 1 True 8 [some (.ref i), some (.int c), some (.int 0)] [.ref i] rfl trivial ?_
  refine AQ.gfV hi ds_s_ix2_8 fl_s_9 rfl ?_
  refine AQ.g sK_s_ix2 4 3 True 14 [some (.ref i), some (.int c), some (.int 0)] [.ref i, .int 0, .int c, .ref (i + 2)] rfl trivial ?_
  refine AQ.cV hi mk_s_len (SK.at sK_s_ix2 7 rfl) lk_s_S_505 (c_s_len hi) [.int 0, .int c, .ref (i + 2)] 17 [.int (Int32.ofNat (scL.getD i 0)), .int 0, .int c, .ref (i + 2)] rfl rfl rfl rfl rfl (Nat.le_of_ble_eq_true rfl) rfl rfl ?_
  refine AQ.cS mk_s_lix (SK.at sK_s_ix2 8 rfl) lk_s_S_637 (c_s_lix hi) [] 20 [.int (ixF c (scB.getD i []) 0)] rfl rfl rfl rfl (Nat.le_of_ble_eq_true rfl) rfl rfl ?_
  refine AQ.g sK_s_ix2 9 1 True 36 [some (.ref i), some (.int c), some (.int 0)] [.int (ixF c (scB.getD i []) 0)] rfl trivial ?_
  exact AQ.xi (SK.at sK_s_ix2 16 rfl) rfl
theorem c_s_ix1 {c : Int32} (hi : i < 2) : CtQ (d + 3) M_s_ix1 [.ref i, .int c] (some (.int (ixF c (scB.getD i []) 0))) := by
  refine CtQ.intro pf_s_ix1 (Nat.le_of_ble_eq_true rfl) ?_
  refine AQ.g sK_s_ix1 0 3 True 3 [some (.ref i), some (.int c)] [.int 0, .int c, .ref i] rfl trivial ?_
  refine AQ.cV hi mk_s_ix2 (SK.at sK_s_ix1 3 rfl) lk_s_S_633 (c_s_ix2 hi) [] 6 [.int (ixF c (scB.getD i []) 0)] rfl rfl rfl rfl rfl (Nat.le_of_ble_eq_true rfl) rfl rfl ?_
  exact AQ.xi (SK.at sK_s_ix1 4 rfl) rfl
end

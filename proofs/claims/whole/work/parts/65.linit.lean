/-! ===== the first state (written by mklaw.py) ===== -/
def s0W : Wd := ((0, 0, 0, 0, none, 5), (fun _ => false, fun _ => false, fun _ => 0, fun _ => 0), (fun _ => none, fun _ => []), [], [], [])
theorem nm8_at : ∀ i, i < 8 → nm8 i = mI := by
  have h := nm8_val
  rw [nm8_eq] at h
  have h2 : (List.range 8).map nm8 = List.replicate 8 (-1) := Option.some.inj h
  intro i hi
  have h3 := congrArg (fun l => l[i]?) h2
  simp only [List.getElem?_map, List.getElem?_replicate, List.getElem?_range hi, Option.map_some, if_pos hi] at h3
  exact Option.some.inj h3
theorem CW_0 : CW 0 0 0 0 (-1) 5 (fun _ => 0) (fun _ => 0) (fun _ => 0) (fun _ => 0) nm8 (fun _ => 0) (fun _ _ => 0) 0 (fun _ => 0) 0 (fun _ => 0) 0 (fun _ => 0) s0W := by
  refine ⟨⟨rfl, rfl, rfl, rfl, rfl, rfl⟩, ⟨fun _ _ => rfl, fun _ _ => rfl, fun _ _ => rfl, fun _ _ => rfl⟩, ⟨fun i hi => nm8_at i hi, fun _ _ => rfl, fun g k n _ h => ?_⟩, ⟨rfl, fun k q h => ?_⟩, ⟨rfl, fun k q h => ?_⟩, ⟨rfl, fun k h => ?_, fun k q h => ?_⟩⟩ <;> simp [s0W] at h
theorem TW_0 : TW s0W.2.2.1 := by
  refine ⟨fun i n h => ?_, fun g n h => ?_, fun i j n h _ => ?_, fun i n g h _ => ?_, fun g h n q _ => ?_, fun g => List.nodup_nil⟩
  · cases h
  · cases h
  · cases h
  · cases h
  · cases q
theorem WOK_0 : WOK s0W := by
  refine ⟨⟨by decide, by decide, by decide, by decide, fun r h => ?_, by decide⟩, ⟨TW_0, fun i n h => ?_, fun g n h => ?_⟩, ⟨by decide, fun q h => ?_⟩, ⟨by decide, fun q h => ?_⟩, ⟨by decide, fun q h => ?_⟩⟩ <;> cases h
theorem MA_0 : MA (upd (upd (fun _ => 0) (ix (4)) ((-1))) (ix (((Int8.ofInt 8).toInt32))) (5)) s0W := by
  refine ⟨⟨by decide +kernel, by decide +kernel, by decide +kernel, by decide +kernel, by decide +kernel, by decide +kernel⟩, ⟨by decide +kernel, by decide +kernel, by decide +kernel, by decide +kernel⟩, ⟨by decide +kernel, fun k q h => ?_⟩, ⟨by decide +kernel, fun k q h => ?_⟩, ⟨by decide +kernel, fun k h => ?_, fun k q h => ?_⟩⟩ <;> simp [s0W] at h
theorem MT_0 : MT (upd (upd (upd (upd (upd (upd (upd (upd (fun _ => 0) (ix (0)) ((-1))) (ix (1)) ((-1))) (ix (2)) ((-1))) (ix (3)) ((-1))) (ix (4)) ((-1))) (ix (5)) ((-1))) (ix (6)) ((-1))) (ix (7)) ((-1))) 0 s0W.2.2.1 := by
  refine ⟨by decide +kernel, by decide +kernel, fun g k n _ h => ?_⟩
  simp [s0W] at h
theorem M_keep {a image d : Nat → Int32} {s : Wd} (hM : MA a s) (hok : WOK s) (hT : MT d 0 s.2.2.1) : ∃ image' d', f_m_keep a image d = some (image', d') ∧ MA image' s ∧ MT d' 35 s.2.2.1 ∧ MT d' 0 s.2.2.1 := by
  obtain ⟨d', e1, e2, e3⟩ := M_copyT (i := 0) (j := 1) hT hok.2.1.1 (by decide) (by decide) (by decide)
  refine ⟨fun k => if k < 145 then a k else image k, d', ?_, hM.moved hok (fun j hj => if_pos hj), e2, hT.moved hok.2.1.1 (fun k hk => by rw [e3 _ (by omega)])⟩
  simp only [f_m_keep, nlit, M_keepLoop, e1, Option.bind_some]
theorem kp_ok : MA kpI s0W ∧ MT kpD 35 s0W.2.2.1 ∧ MT kpD 0 s0W.2.2.1 := by
  obtain ⟨i', d', e, h1, h2, h3⟩ := M_keep (image := fun _ => 0) MA_0 WOK_0 MT_0
  have e2 := kp_eq.symm.trans e
  have e3 := Prod.mk.inj (Option.some.inj e2)
  rw [e3.1, e3.2]
  exact ⟨h1, h2, h3⟩
theorem REL_0 : REL 0 0 0 0 (-1) 5 (fun _ => 0) (fun _ => 0) (fun _ => 0) (fun _ => 0) (nm8) (fun _ => 0) (fun _ _ => 0) 0 (fun _ => 0) 0 (fun _ => 0) 0 (fun _ => 0) 0 0 0 0 (-1) 5 (fun _ => 0) (fun _ => 0) (fun _ => 0) (fun _ => 0) (nm8) (fun _ => 0) (fun _ _ => 0) 0 (fun _ => 0) 0 (fun _ => 0) 0 (fun _ => 0) (fun _ => 0) (fun _ => 0) (fun _ => (-1)) (fun _ => (-1)) (fun _ _ => 0) (fun _ _ => 0) (fun _ _ => 0) (fun _ _ => 0) 0 (fun _ => 0) 0 0 (-1) 0 0 (-1) (-1) (upd (upd (fun _ => 0) (ix (4)) ((-1))) (ix (((Int8.ofInt 8).toInt32))) (5)) (kpI) (kpD) (fun _ => 0) (fun _ => 0) := ⟨s0W, s0W, fun _ => [], 0, CW_0, CW_0, MA_0, kp_ok.1, kp_ok.2.2, kp_ok.2.1, WOK_0, WOK_0, fun T h => absurd h (Nat.not_lt_zero T), fun T h => absurd h (Nat.not_lt_zero T), Nat.le_refl _, ⟨rfl, rfl, by decide, fun k hk => absurd hk (Nat.not_lt_zero _)⟩, Or.inl ⟨rfl, rfl, rfl⟩, rfl⟩

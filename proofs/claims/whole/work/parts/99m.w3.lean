section LW26
theorem l_movement {l : Launch} {sb sL : Nat} {sx : Nat → Int32} {K : Nat → FT} {x m o i : Nat} {B D : Int} {L : LV} {h : Hp} {u : Nat × Nat} (J : LJ l sb sL K x m o i B D L h u) : fL_law_2037 l sb sL sx K L [] h u := by
  have J0 := J
  obtain ⟨hst, hk, R, ⟨hB, hD⟩, ⟨hi, hs⟩, ⟨w1, w2⟩, kk⟩ := J
  refine al_of hk.2.1 ?_
  refine sarg hk hi hs (k := 1) rfl (by decide) ?_
  refine sarg hk hi hs (k := 2) rfl (by decide) ?_
  refine al_of hk.2.2.2.1 ?_
  refine ⟨rfl, Nat.le_of_ble_eq_true rfl, rmA w1 (by decide), rmA w2 (by decide), ?_⟩
  refine j_movement hst R hB hD (fun k h1 hm q1 => ?_)
  have hk6 := hk.s1 (k := 6) (by decide) (.int k)
  refine al_of hk6.2.2.1 ?_
  refine sarg hk6 hi hs (k := 1) rfl (by decide) ?_
  refine sarg hk6 hi hs (k := 2) rfl (by decide) ?_
  refine ⟨rfl, Nat.le_of_ble_eq_true rfl, hm, (show u.1 + rmL_movement.cells ≤ 603072 from rmA w1 (by decide)), (show u.2 + rmL_movement.slots ≤ 7178346 from rmA w2 (by decide)), ?_⟩
  refine q1 _ (fun v h2 jn => ?_)
  exact tl_i J0 hk6 lget_s1 jn (show u.1 + rmL_movement.cells ≤ u.1 + 5 from Nat.add_le_add_left (by decide) _) (show u.2 + rmL_movement.slots ≤ u.2 + 30 from Nat.add_le_add_left (by decide) _) (fun L' u' z => z)
theorem l_serviceBits {l : Launch} {sb sL : Nat} {sx : Nat → Int32} {K : Nat → FT} {x m o i : Nat} {B D : Int} {L : LV} {h : Hp} {u : Nat × Nat} (J : LJ l sb sL K x m o i B D L h u) : fL_law_2196 l sb sL sx K L [] h u := by
  have J0 := J
  obtain ⟨hst, hk, R, ⟨hB, hD⟩, ⟨hi, hs⟩, ⟨w1, w2⟩, kk⟩ := J
  refine al_of hk.2.1 ?_
  refine sarg hk hi hs (k := 1) rfl (by decide) ?_
  refine al_of hk.2.2.2.1 ?_
  refine ⟨rfl, Nat.le_of_ble_eq_true rfl, rmA w1 (by decide), rmA w2 (by decide), ?_⟩
  refine j_serviceBits hst R hB hD (fun k h1 hm q1 => ?_)
  have hk6 := hk.s1 (k := 6) (by decide) (.int k)
  refine al_of hk6.2.2.1 ?_
  refine sarg hk6 hi hs (k := 1) rfl (by decide) ?_
  refine ⟨rfl, Nat.le_of_ble_eq_true rfl, hm, (show u.1 + rmL_serviceBits.cells ≤ 603072 from rmA w1 (by decide)), (show u.2 + rmL_serviceBits.slots ≤ 7178346 from rmA w2 (by decide)), ?_⟩
  refine q1 _ (fun v h2 jn => ?_)
  exact tl_i J0 hk6 lget_s1 jn (show u.1 + rmL_serviceBits.cells ≤ u.1 + 5 from Nat.add_le_add_left (by decide) _) (show u.2 + rmL_serviceBits.slots ≤ u.2 + 30 from Nat.add_le_add_left (by decide) _) (fun L' u' z => z)
theorem l_weakest {l : Launch} {sb sL : Nat} {sx : Nat → Int32} {K : Nat → FT} {x m o i : Nat} {B D : Int} {L : LV} {h : Hp} {u : Nat × Nat} (J : LJ l sb sL K x m o i B D L h u) : fL_law_2252 l sb sL sx K L [] h u := by
  have J0 := J
  obtain ⟨hst, hk, R, ⟨hB, hD⟩, ⟨hi, hs⟩, ⟨w1, w2⟩, kk⟩ := J
  refine al_of hk.2.1 ?_
  refine al_of hk.2.2.2.1 ?_
  refine ⟨rfl, Nat.le_of_ble_eq_true rfl, rmA w1 (by decide), rmA w2 (by decide), ?_⟩
  refine j_weakest hst R hB hD (fun k h1 hm q1 => ?_)
  have hk6 := hk.s1 (k := 6) (by decide) (.int k)
  refine al_of hk6.2.2.1 ?_
  refine ⟨rfl, Nat.le_of_ble_eq_true rfl, hm, (show u.1 + rmL_weakest.cells ≤ 603072 from rmA w1 (by decide)), (show u.2 + rmL_weakest.slots ≤ 7178346 from rmA w2 (by decide)), ?_⟩
  refine q1 _ (fun v h2 jn => ?_)
  exact tl_i J0 hk6 lget_s1 jn (show u.1 + rmL_weakest.cells ≤ u.1 + 5 from Nat.add_le_add_left (by decide) _) (show u.2 + rmL_weakest.slots ≤ u.2 + 30 from Nat.add_le_add_left (by decide) _) (fun L' u' z => z)
theorem l_reason {l : Launch} {sb sL : Nat} {sx : Nat → Int32} {K : Nat → FT} {x m o i : Nat} {B D : Int} {L : LV} {h : Hp} {u : Nat × Nat} (J : LJ l sb sL K x m o i B D L h u) : fL_law_2404 l sb sL sx K L [] h u := by
  have J0 := J
  obtain ⟨hst, hk, R, ⟨hB, hD⟩, ⟨hi, hs⟩, ⟨w1, w2⟩, kk⟩ := J
  refine al_of hk.2.1 ?_
  refine sarg hk hi hs (k := 1) rfl (by decide) ?_
  refine al_of hk.2.2.2.1 ?_
  refine ⟨rfl, Nat.le_of_ble_eq_true rfl, rmA w1 (by decide), rmA w2 (by decide), ?_⟩
  refine j_reason hst R hB hD (fun k h1 hm q1 => ?_)
  have hk6 := hk.s1 (k := 6) (by decide) (.int k)
  refine al_of hk6.2.2.1 ?_
  refine sarg hk6 hi hs (k := 1) rfl (by decide) ?_
  refine ⟨rfl, Nat.le_of_ble_eq_true rfl, hm, (show u.1 + rmL_reason.cells ≤ 603072 from rmA w1 (by decide)), (show u.2 + rmL_reason.slots ≤ 7178346 from rmA w2 (by decide)), ?_⟩
  refine q1 _ (fun v h2 jn => ?_)
  exact tl_i J0 hk6 lget_s1 jn (show u.1 + rmL_reason.cells ≤ u.1 + 5 from Nat.add_le_add_left (by decide) _) (show u.2 + rmL_reason.slots ≤ u.2 + 30 from Nat.add_le_add_left (by decide) _) (fun L' u' z => z)
theorem l_sample {l : Launch} {sb sL : Nat} {sx : Nat → Int32} {K : Nat → FT} {x m o i : Nat} {B D : Int} {L : LV} {h : Hp} {u : Nat × Nat} (J : LJ l sb sL K x m o i B D L h u) : fL_law_2460 l sb sL sx K L [] h u := by
  have J0 := J
  obtain ⟨hst, hk, R, ⟨hB, hD⟩, ⟨hi, hs⟩, ⟨w1, w2⟩, kk⟩ := J
  refine al_of hk.2.1 ?_
  refine sarg hk hi hs (k := 1) rfl (by decide) ?_
  refine sarg hk hi hs (k := 2) rfl (by decide) ?_
  refine sarg hk hi hs (k := 3) rfl (by decide) ?_
  refine al_of hk.2.2.2.1 ?_
  refine ⟨rfl, Nat.le_of_ble_eq_true rfl, rmA w1 (by decide), rmA w2 (by decide), ?_⟩
  refine j_sample hst R hB hD (fun k h1 hm q1 => ?_)
  have hk6 := hk.s1 (k := 6) (by decide) (.int k)
  refine al_of hk6.2.2.1 ?_
  refine sarg hk6 hi hs (k := 1) rfl (by decide) ?_
  refine sarg hk6 hi hs (k := 2) rfl (by decide) ?_
  refine sarg hk6 hi hs (k := 3) rfl (by decide) ?_
  refine ⟨rfl, Nat.le_of_ble_eq_true rfl, hm, (show u.1 + rmL_sample.cells ≤ 603072 from rmA w1 (by decide)), (show u.2 + rmL_sample.slots ≤ 7178346 from rmA w2 (by decide)), ?_⟩
  refine q1 _ (fun v h2 jn => ?_)
  exact tl_i J0 hk6 lget_s1 jn (show u.1 + rmL_sample.cells ≤ u.1 + 5 from Nat.add_le_add_left (by decide) _) (show u.2 + rmL_sample.slots ≤ u.2 + 30 from Nat.add_le_add_left (by decide) _) (fun L' u' z => z)
theorem l_sampled {l : Launch} {sb sL : Nat} {sx : Nat → Int32} {K : Nat → FT} {x m o i : Nat} {B D : Int} {L : LV} {h : Hp} {u : Nat × Nat} (J : LJ l sb sL K x m o i B D L h u) : fL_law_2540 l sb sL sx K L [] h u := by
  have J0 := J
  obtain ⟨hst, hk, R, ⟨hB, hD⟩, ⟨hi, hs⟩, ⟨w1, w2⟩, kk⟩ := J
  refine al_of hk.2.1 ?_
  refine sarg hk hi hs (k := 1) rfl (by decide) ?_
  refine sarg hk hi hs (k := 2) rfl (by decide) ?_
  refine sarg hk hi hs (k := 3) rfl (by decide) ?_
  refine al_of hk.2.2.2.1 ?_
  refine ⟨rfl, Nat.le_of_ble_eq_true rfl, rmA w1 (by decide), rmA w2 (by decide), ?_⟩
  refine j_sampled hst R hB hD (fun k h1 hm q1 => ?_)
  have hk6 := hk.s1 (k := 6) (by decide) (.int k)
  refine al_of hk6.2.2.1 ?_
  refine sarg hk6 hi hs (k := 1) rfl (by decide) ?_
  refine sarg hk6 hi hs (k := 2) rfl (by decide) ?_
  refine sarg hk6 hi hs (k := 3) rfl (by decide) ?_
  refine ⟨rfl, Nat.le_of_ble_eq_true rfl, hm, (show u.1 + rmL_sampled.cells ≤ 603072 from rmA w1 (by decide)), (show u.2 + rmL_sampled.slots ≤ 7178346 from rmA w2 (by decide)), ?_⟩
  refine q1 _ (fun v h2 jn => ?_)
  exact tl_i J0 hk6 lget_s1 jn (show u.1 + rmL_sampled.cells ≤ u.1 + 5 from Nat.add_le_add_left (by decide) _) (show u.2 + rmL_sampled.slots ≤ u.2 + 30 from Nat.add_le_add_left (by decide) _) (fun L' u' z => z)
theorem l_append {l : Launch} {sb sL : Nat} {sx : Nat → Int32} {K : Nat → FT} {x m o i : Nat} {B D : Int} {L : LV} {h : Hp} {u : Nat × Nat} (J : LJ l sb sL K x m o i B D L h u) : fL_law_2620 l sb sL sx K L [] h u := by
  have J0 := J
  obtain ⟨hst, hk, R, ⟨hB, hD⟩, ⟨hi, hs⟩, ⟨w1, w2⟩, kk⟩ := J
  refine al_of hk.2.1 ?_
  refine sarg hk hi hs (k := 1) rfl (by decide) ?_
  refine al_of hk.2.2.2.1 ?_
  refine ⟨rfl, Nat.le_of_ble_eq_true rfl, rmA w1 (by decide), rmA w2 (by decide), ?_⟩
  refine j_append hst R hB hD (fun k h1 hm q1 => ?_)
  have hk6 := hk.s1 (k := 6) (by decide) (.int k)
  refine al_of hk6.2.2.1 ?_
  refine sarg hk6 hi hs (k := 1) rfl (by decide) ?_
  refine ⟨rfl, Nat.le_of_ble_eq_true rfl, hm, (show u.1 + rmL_append.cells ≤ 603072 from rmA w1 (by decide)), (show u.2 + rmL_append.slots ≤ 7178346 from rmA w2 (by decide)), ?_⟩
  refine q1 _ (fun v h2 jn => ?_)
  exact tl_i J0 hk6 lget_s1 jn (show u.1 + rmL_append.cells ≤ u.1 + 5 from Nat.add_le_add_left (by decide) _) (show u.2 + rmL_append.slots ≤ u.2 + 30 from Nat.add_le_add_left (by decide) _) (fun L' u' z => z)
theorem l_read {l : Launch} {sb sL : Nat} {sx : Nat → Int32} {K : Nat → FT} {x m o i : Nat} {B D : Int} {L : LV} {h : Hp} {u : Nat × Nat} (J : LJ l sb sL K x m o i B D L h u) : fL_law_2678 l sb sL sx K L [] h u := by
  have J0 := J
  obtain ⟨hst, hk, R, ⟨hB, hD⟩, ⟨hi, hs⟩, ⟨w1, w2⟩, kk⟩ := J
  refine al_of hk.2.1 ?_
  refine al_of hk.2.2.2.1 ?_
  refine ⟨rfl, Nat.le_of_ble_eq_true rfl, rmA w1 (by decide), rmA w2 (by decide), ?_⟩
  refine j_read hst R hB hD (fun k h1 hm q1 => ?_)
  have hk6 := hk.s1 (k := 6) (by decide) (.int k)
  refine al_of hk6.2.2.1 ?_
  refine ⟨rfl, Nat.le_of_ble_eq_true rfl, hm, (show u.1 + rmL_read.cells ≤ 603072 from rmA w1 (by decide)), (show u.2 + rmL_read.slots ≤ 7178346 from rmA w2 (by decide)), ?_⟩
  refine q1 _ (fun v h2 jn => ?_)
  exact tl_i J0 hk6 lget_s1 jn (show u.1 + rmL_read.cells ≤ u.1 + 5 from Nat.add_le_add_left (by decide) _) (show u.2 + rmL_read.slots ≤ u.2 + 30 from Nat.add_le_add_left (by decide) _) (fun L' u' z => z)
theorem l_errorPosition {l : Launch} {sb sL : Nat} {sx : Nat → Int32} {K : Nat → FT} {x m o i : Nat} {B D : Int} {L : LV} {h : Hp} {u : Nat × Nat} (J : LJ l sb sL K x m o i B D L h u) : fL_law_2722 l sb sL sx K L [] h u := by
  have J0 := J
  obtain ⟨hst, hk, R, ⟨hB, hD⟩, ⟨hi, hs⟩, ⟨w1, w2⟩, kk⟩ := J
  refine al_of hk.2.1 ?_
  refine al_of hk.2.2.2.1 ?_
  refine ⟨rfl, Nat.le_of_ble_eq_true rfl, rmA w1 (by decide), rmA w2 (by decide), ?_⟩
  refine j_errorPosition hst R hB hD (fun k h1 hm q1 => ?_)
  have hk6 := hk.s1 (k := 6) (by decide) (.int k)
  refine al_of hk6.2.2.1 ?_
  refine ⟨rfl, Nat.le_of_ble_eq_true rfl, hm, (show u.1 + rmL_errorPosition.cells ≤ 603072 from rmA w1 (by decide)), (show u.2 + rmL_errorPosition.slots ≤ 7178346 from rmA w2 (by decide)), ?_⟩
  refine q1 _ (fun v h2 jn => ?_)
  exact tl_i J0 hk6 lget_s1 jn (show u.1 + rmL_errorPosition.cells ≤ u.1 + 5 from Nat.add_le_add_left (by decide) _) (show u.2 + rmL_errorPosition.slots ≤ u.2 + 30 from Nat.add_le_add_left (by decide) _) (fun L' u' z => z)
theorem l_refused {l : Launch} {sb sL : Nat} {sx : Nat → Int32} {K : Nat → FT} {x m o i : Nat} {B D : Int} {L : LV} {h : Hp} {u : Nat × Nat} (J : LJ l sb sL K x m o i B D L h u) : fL_law_2766 l sb sL sx K L [] h u := by
  have J0 := J
  obtain ⟨hst, hk, R, ⟨hB, hD⟩, ⟨hi, hs⟩, ⟨w1, w2⟩, kk⟩ := J
  refine al_of hk.2.1 ?_
  refine al_of hk.2.2.2.1 ?_
  refine ⟨rfl, Nat.le_of_ble_eq_true rfl, rmA w1 (by decide), rmA w2 (by decide), ?_⟩
  refine j_refused hst R hB hD (fun k h1 hm q1 => ?_)
  have hk6 := hk.s1 (k := 6) (by decide) (.int k)
  refine al_of hk6.2.2.1 ?_
  refine ⟨rfl, Nat.le_of_ble_eq_true rfl, hm, (show u.1 + rmL_refused.cells ≤ 603072 from rmA w1 (by decide)), (show u.2 + rmL_refused.slots ≤ 7178346 from rmA w2 (by decide)), ?_⟩
  refine q1 _ (fun v h2 jn => ?_)
  exact tl_i J0 hk6 lget_s1 jn (show u.1 + rmL_refused.cells ≤ u.1 + 5 from Nat.add_le_add_left (by decide) _) (show u.2 + rmL_refused.slots ≤ u.2 + 30 from Nat.add_le_add_left (by decide) _) (fun L' u' z => z)
theorem l_undo {l : Launch} {sb sL : Nat} {sx : Nat → Int32} {K : Nat → FT} {x m o i : Nat} {B D : Int} {L : LV} {h : Hp} {u : Nat × Nat} (J : LJ l sb sL K x m o i B D L h u) : fL_law_2810 l sb sL sx K L [] h u := by
  have J0 := J
  obtain ⟨hst, hk, R, ⟨hB, hD⟩, ⟨hi, hs⟩, ⟨w1, w2⟩, kk⟩ := J
  refine al_of hk.2.1 ?_
  refine al_of hk.2.2.2.1 ?_
  refine ⟨rfl, Nat.le_of_ble_eq_true rfl, rmA w1 (by decide), rmA w2 (by decide), ?_⟩
  refine j_undo hst R hB hD (fun k h1 hm q1 => ?_)
  have hk6 := hk.s1 (k := 6) (by decide) (.int k)
  refine al_of hk6.2.2.1 ?_
  refine ⟨rfl, Nat.le_of_ble_eq_true rfl, hm, (show u.1 + rmL_undo.cells ≤ 603072 from rmA w1 (by decide)), (show u.2 + rmL_undo.slots ≤ 7178346 from rmA w2 (by decide)), ?_⟩
  refine q1 _ (fun v h2 jn => ?_)
  exact tl_i J0 hk6 lget_s1 jn (show u.1 + rmL_undo.cells ≤ u.1 + 5 from Nat.add_le_add_left (by decide) _) (show u.2 + rmL_undo.slots ≤ u.2 + 30 from Nat.add_le_add_left (by decide) _) (fun L' u' z => z)
theorem l_restore {l : Launch} {sb sL : Nat} {sx : Nat → Int32} {K : Nat → FT} {x m o i : Nat} {B D : Int} {L : LV} {h : Hp} {u : Nat × Nat} (J : LJ l sb sL K x m o i B D L h u) : fL_law_2867 l sb sL sx K L [] h u := by
  have J0 := J
  obtain ⟨hst, hk, R, ⟨hB, hD⟩, ⟨hi, hs⟩, ⟨w1, w2⟩, kk⟩ := J
  refine al_of hk.2.1 ?_
  refine al_of hk.2.2.2.1 ?_
  refine ⟨rfl, Nat.le_of_ble_eq_true rfl, rmA w1 (by decide), rmA w2 (by decide), ?_⟩
  refine j_restore hst R hB hD (fun k h1 hm q1 => ?_)
  have hk6 := hk.s1 (k := 6) (by decide) (.int k)
  refine al_of hk6.2.2.1 ?_
  refine ⟨rfl, Nat.le_of_ble_eq_true rfl, hm, (show u.1 + rmL_restore.cells ≤ 603072 from rmA w1 (by decide)), (show u.2 + rmL_restore.slots ≤ 7178346 from rmA w2 (by decide)), ?_⟩
  refine q1 _ (fun v h2 jn => ?_)
  exact tl_i J0 hk6 lget_s1 jn (show u.1 + rmL_restore.cells ≤ u.1 + 5 from Nat.add_le_add_left (by decide) _) (show u.2 + rmL_restore.slots ≤ u.2 + 30 from Nat.add_le_add_left (by decide) _) (fun L' u' z => z)
end LW26

section LW0
theorem l_addPart {l : Launch} {sb sL : Nat} {sx : Nat → Int32} {K : Nat → FT} {x m o i : Nat} {B D : Int} {L : LV} {h : Hp} {u : Nat × Nat} (J : LJ l sb sL K x m o i B D L h u) : fL_law_249 l sb sL sx K L [] h u := by
  have J0 := J
  obtain ⟨hst, hk, R, ⟨hB, hD⟩, ⟨hi, hs⟩, ⟨w1, w2⟩, kk⟩ := J
  refine al_of hk.2.1 ?_
  refine sarg hk hi hs (k := 1) rfl (by decide) ?_
  refine sarg hk hi hs (k := 2) rfl (by decide) ?_
  refine sarg hk hi hs (k := 3) rfl (by decide) ?_
  refine sarg hk hi hs (k := 4) rfl (by decide) ?_
  refine al_of hk.2.2.2.1 ?_
  refine ⟨rfl, Nat.le_of_ble_eq_true rfl, rmA w1 (by decide), rmA w2 (by decide), ?_⟩
  refine j_addPart hst R hB hD (fun k h1 hm q1 => ?_)
  have hk6 := hk.s1 (k := 6) (by decide) (.int k)
  refine al_of hk6.2.2.1 ?_
  refine sarg hk6 hi hs (k := 1) rfl (by decide) ?_
  refine sarg hk6 hi hs (k := 2) rfl (by decide) ?_
  refine sarg hk6 hi hs (k := 3) rfl (by decide) ?_
  refine sarg hk6 hi hs (k := 4) rfl (by decide) ?_
  refine ⟨rfl, Nat.le_of_ble_eq_true rfl, hm, (show u.1 + rmL_addPart.cells ≤ 603072 from rmA w1 (by decide)), (show u.2 + rmL_addPart.slots ≤ 7178346 from rmA w2 (by decide)), ?_⟩
  refine q1 _ (fun v h2 jn => ?_)
  exact tl_i J0 hk6 lget_s1 jn (show u.1 + rmL_addPart.cells ≤ u.1 + 5 from Nat.add_le_add_left (by decide) _) (show u.2 + rmL_addPart.slots ≤ u.2 + 30 from Nat.add_le_add_left (by decide) _) (fun L' u' z => z)
theorem l_setBounds {l : Launch} {sb sL : Nat} {sx : Nat → Int32} {K : Nat → FT} {x m o i : Nat} {B D : Int} {L : LV} {h : Hp} {u : Nat × Nat} (J : LJ l sb sL K x m o i B D L h u) : fL_law_341 l sb sL sx K L [] h u := by
  have J0 := J
  obtain ⟨hst, hk, R, ⟨hB, hD⟩, ⟨hi, hs⟩, ⟨w1, w2⟩, kk⟩ := J
  refine al_of hk.2.1 ?_
  refine sarg hk hi hs (k := 1) rfl (by decide) ?_
  refine sarg hk hi hs (k := 2) rfl (by decide) ?_
  refine sarg hk hi hs (k := 3) rfl (by decide) ?_
  refine al_of hk.2.2.2.1 ?_
  refine ⟨rfl, Nat.le_of_ble_eq_true rfl, rmA w1 (by decide), rmA w2 (by decide), ?_⟩
  refine j_setBounds hst R hB hD (fun k h1 hm q1 => ?_)
  have hk6 := hk.s1 (k := 6) (by decide) (.int k)
  refine al_of hk6.2.2.1 ?_
  refine sarg hk6 hi hs (k := 1) rfl (by decide) ?_
  refine sarg hk6 hi hs (k := 2) rfl (by decide) ?_
  refine sarg hk6 hi hs (k := 3) rfl (by decide) ?_
  refine ⟨rfl, Nat.le_of_ble_eq_true rfl, hm, (show u.1 + rmL_setBounds.cells ≤ 603072 from rmA w1 (by decide)), (show u.2 + rmL_setBounds.slots ≤ 7178346 from rmA w2 (by decide)), ?_⟩
  refine q1 _ (fun v h2 jn => ?_)
  exact tl_i J0 hk6 lget_s1 jn (show u.1 + rmL_setBounds.cells ≤ u.1 + 5 from Nat.add_le_add_left (by decide) _) (show u.2 + rmL_setBounds.slots ≤ u.2 + 30 from Nat.add_le_add_left (by decide) _) (fun L' u' z => z)
theorem l_setYield {l : Launch} {sb sL : Nat} {sx : Nat → Int32} {K : Nat → FT} {x m o i : Nat} {B D : Int} {L : LV} {h : Hp} {u : Nat × Nat} (J : LJ l sb sL K x m o i B D L h u) : fL_law_421 l sb sL sx K L [] h u := by
  have J0 := J
  obtain ⟨hst, hk, R, ⟨hB, hD⟩, ⟨hi, hs⟩, ⟨w1, w2⟩, kk⟩ := J
  refine al_of hk.2.1 ?_
  refine sarg hk hi hs (k := 1) rfl (by decide) ?_
  refine sarg hk hi hs (k := 2) rfl (by decide) ?_
  refine al_of hk.2.2.2.1 ?_
  refine ⟨rfl, Nat.le_of_ble_eq_true rfl, rmA w1 (by decide), rmA w2 (by decide), ?_⟩
  refine j_setYield hst R hB hD (fun k h1 hm q1 => ?_)
  have hk6 := hk.s1 (k := 6) (by decide) (.int k)
  refine al_of hk6.2.2.1 ?_
  refine sarg hk6 hi hs (k := 1) rfl (by decide) ?_
  refine sarg hk6 hi hs (k := 2) rfl (by decide) ?_
  refine ⟨rfl, Nat.le_of_ble_eq_true rfl, hm, (show u.1 + rmL_setYield.cells ≤ 603072 from rmA w1 (by decide)), (show u.2 + rmL_setYield.slots ≤ 7178346 from rmA w2 (by decide)), ?_⟩
  refine q1 _ (fun v h2 jn => ?_)
  exact tl_i J0 hk6 lget_s1 jn (show u.1 + rmL_setYield.cells ≤ u.1 + 5 from Nat.add_le_add_left (by decide) _) (show u.2 + rmL_setYield.slots ≤ u.2 + 30 from Nat.add_le_add_left (by decide) _) (fun L' u' z => z)
theorem l_addSubstitute {l : Launch} {sb sL : Nat} {sx : Nat → Int32} {K : Nat → FT} {x m o i : Nat} {B D : Int} {L : LV} {h : Hp} {u : Nat × Nat} (J : LJ l sb sL K x m o i B D L h u) : fL_law_489 l sb sL sx K L [] h u := by
  have J0 := J
  obtain ⟨hst, hk, R, ⟨hB, hD⟩, ⟨hi, hs⟩, ⟨w1, w2⟩, kk⟩ := J
  refine al_of hk.2.1 ?_
  refine sarg hk hi hs (k := 1) rfl (by decide) ?_
  refine sarg hk hi hs (k := 2) rfl (by decide) ?_
  refine al_of hk.2.2.2.1 ?_
  refine ⟨rfl, Nat.le_of_ble_eq_true rfl, rmA w1 (by decide), rmA w2 (by decide), ?_⟩
  refine j_addSubstitute hst R hB hD (fun k h1 hm q1 => ?_)
  have hk6 := hk.s1 (k := 6) (by decide) (.int k)
  refine al_of hk6.2.2.1 ?_
  refine sarg hk6 hi hs (k := 1) rfl (by decide) ?_
  refine sarg hk6 hi hs (k := 2) rfl (by decide) ?_
  refine ⟨rfl, Nat.le_of_ble_eq_true rfl, hm, (show u.1 + rmL_addSubstitute.cells ≤ 603072 from rmA w1 (by decide)), (show u.2 + rmL_addSubstitute.slots ≤ 7178346 from rmA w2 (by decide)), ?_⟩
  refine q1 _ (fun v h2 jn => ?_)
  exact tl_i J0 hk6 lget_s1 jn (show u.1 + rmL_addSubstitute.cells ≤ u.1 + 5 from Nat.add_le_add_left (by decide) _) (show u.2 + rmL_addSubstitute.slots ≤ u.2 + 30 from Nat.add_le_add_left (by decide) _) (fun L' u' z => z)
theorem l_removeSubstitute {l : Launch} {sb sL : Nat} {sx : Nat → Int32} {K : Nat → FT} {x m o i : Nat} {B D : Int} {L : LV} {h : Hp} {u : Nat × Nat} (J : LJ l sb sL K x m o i B D L h u) : fL_law_557 l sb sL sx K L [] h u := by
  have J0 := J
  obtain ⟨hst, hk, R, ⟨hB, hD⟩, ⟨hi, hs⟩, ⟨w1, w2⟩, kk⟩ := J
  refine al_of hk.2.1 ?_
  refine sarg hk hi hs (k := 1) rfl (by decide) ?_
  refine sarg hk hi hs (k := 2) rfl (by decide) ?_
  refine al_of hk.2.2.2.1 ?_
  refine ⟨rfl, Nat.le_of_ble_eq_true rfl, rmA w1 (by decide), rmA w2 (by decide), ?_⟩
  refine j_removeSubstitute hst R hB hD (fun k h1 hm q1 => ?_)
  have hk6 := hk.s1 (k := 6) (by decide) (.int k)
  refine al_of hk6.2.2.1 ?_
  refine sarg hk6 hi hs (k := 1) rfl (by decide) ?_
  refine sarg hk6 hi hs (k := 2) rfl (by decide) ?_
  refine ⟨rfl, Nat.le_of_ble_eq_true rfl, hm, (show u.1 + rmL_removeSubstitute.cells ≤ 603072 from rmA w1 (by decide)), (show u.2 + rmL_removeSubstitute.slots ≤ 7178346 from rmA w2 (by decide)), ?_⟩
  refine q1 _ (fun v h2 jn => ?_)
  exact tl_i J0 hk6 lget_s1 jn (show u.1 + rmL_removeSubstitute.cells ≤ u.1 + 5 from Nat.add_le_add_left (by decide) _) (show u.2 + rmL_removeSubstitute.slots ≤ u.2 + 30 from Nat.add_le_add_left (by decide) _) (fun L' u' z => z)
theorem l_addKit {l : Launch} {sb sL : Nat} {sx : Nat → Int32} {K : Nat → FT} {x m o i : Nat} {B D : Int} {L : LV} {h : Hp} {u : Nat × Nat} (J : LJ l sb sL K x m o i B D L h u) : fL_law_625 l sb sL sx K L [] h u := by
  have J0 := J
  obtain ⟨hst, hk, R, ⟨hB, hD⟩, ⟨hi, hs⟩, ⟨w1, w2⟩, kk⟩ := J
  refine al_of hk.2.1 ?_
  refine sarg hk hi hs (k := 1) rfl (by decide) ?_
  refine sarg hk hi hs (k := 2) rfl (by decide) ?_
  refine sarg hk hi hs (k := 3) rfl (by decide) ?_
  refine al_of hk.2.2.2.1 ?_
  refine ⟨rfl, Nat.le_of_ble_eq_true rfl, rmA w1 (by decide), rmA w2 (by decide), ?_⟩
  refine j_addKit hst R hB hD (fun k h1 hm q1 => ?_)
  have hk6 := hk.s1 (k := 6) (by decide) (.int k)
  refine al_of hk6.2.2.1 ?_
  refine sarg hk6 hi hs (k := 1) rfl (by decide) ?_
  refine sarg hk6 hi hs (k := 2) rfl (by decide) ?_
  refine sarg hk6 hi hs (k := 3) rfl (by decide) ?_
  refine ⟨rfl, Nat.le_of_ble_eq_true rfl, hm, (show u.1 + rmL_addKit.cells ≤ 603072 from rmA w1 (by decide)), (show u.2 + rmL_addKit.slots ≤ 7178346 from rmA w2 (by decide)), ?_⟩
  refine q1 _ (fun v h2 jn => ?_)
  exact tl_i J0 hk6 lget_s1 jn (show u.1 + rmL_addKit.cells ≤ u.1 + 5 from Nat.add_le_add_left (by decide) _) (show u.2 + rmL_addKit.slots ≤ u.2 + 30 from Nat.add_le_add_left (by decide) _) (fun L' u' z => z)
theorem l_count {l : Launch} {sb sL : Nat} {sx : Nat → Int32} {K : Nat → FT} {x m o i : Nat} {B D : Int} {L : LV} {h : Hp} {u : Nat × Nat} (J : LJ l sb sL K x m o i B D L h u) : fL_law_705 l sb sL sx K L [] h u := by
  have J0 := J
  obtain ⟨hst, hk, R, ⟨hB, hD⟩, ⟨hi, hs⟩, ⟨w1, w2⟩, kk⟩ := J
  refine al_of hk.2.1 ?_
  refine sarg hk hi hs (k := 1) rfl (by decide) ?_
  refine al_of hk.2.2.2.1 ?_
  refine ⟨rfl, Nat.le_of_ble_eq_true rfl, rmA w1 (by decide), rmA w2 (by decide), ?_⟩
  refine j_count hst R hB hD (fun k h1 hm q1 => ?_)
  have hk6 := hk.s1 (k := 6) (by decide) (.int k)
  refine al_of hk6.2.2.1 ?_
  refine sarg hk6 hi hs (k := 1) rfl (by decide) ?_
  refine ⟨rfl, Nat.le_of_ble_eq_true rfl, hm, (show u.1 + rmL_count.cells ≤ 603072 from rmA w1 (by decide)), (show u.2 + rmL_count.slots ≤ 7178346 from rmA w2 (by decide)), ?_⟩
  refine q1 _ (fun v h2 jn => ?_)
  exact tl_i J0 hk6 lget_s1 jn (show u.1 + rmL_count.cells ≤ u.1 + 5 from Nat.add_le_add_left (by decide) _) (show u.2 + rmL_count.slots ≤ u.2 + 30 from Nat.add_le_add_left (by decide) _) (fun L' u' z => z)
theorem l_part {l : Launch} {sb sL : Nat} {sx : Nat → Int32} {K : Nat → FT} {x m o i : Nat} {B D : Int} {L : LV} {h : Hp} {u : Nat × Nat} (J : LJ l sb sL K x m o i B D L h u) : fL_law_761 l sb sL sx K L [] h u := by
  have J0 := J
  obtain ⟨hst, hk, R, ⟨hB, hD⟩, ⟨hi, hs⟩, ⟨w1, w2⟩, kk⟩ := J
  refine al_of hk.2.1 ?_
  refine sarg hk hi hs (k := 1) rfl (by decide) ?_
  refine sarg hk hi hs (k := 2) rfl (by decide) ?_
  refine al_of hk.2.2.2.1 ?_
  refine ⟨rfl, Nat.le_of_ble_eq_true rfl, rmA w1 (by decide), rmA w2 (by decide), ?_⟩
  refine j_part hst R hB hD (fun k h1 hm q1 => ?_)
  have hk6 := hk.s1 (k := 6) (by decide) (.int k)
  refine al_of hk6.2.2.1 ?_
  refine sarg hk6 hi hs (k := 1) rfl (by decide) ?_
  refine sarg hk6 hi hs (k := 2) rfl (by decide) ?_
  refine ⟨rfl, Nat.le_of_ble_eq_true rfl, hm, (show u.1 + rmL_part.cells ≤ 603072 from rmA w1 (by decide)), (show u.2 + rmL_part.slots ≤ 7178346 from rmA w2 (by decide)), ?_⟩
  refine q1 _ (fun v h2 jn => ?_)
  exact tl_i J0 hk6 lget_s1 jn (show u.1 + rmL_part.cells ≤ u.1 + 5 from Nat.add_le_add_left (by decide) _) (show u.2 + rmL_part.slots ≤ u.2 + 30 from Nat.add_le_add_left (by decide) _) (fun L' u' z => z)
theorem l_substitute {l : Launch} {sb sL : Nat} {sx : Nat → Int32} {K : Nat → FT} {x m o i : Nat} {B D : Int} {L : LV} {h : Hp} {u : Nat × Nat} (J : LJ l sb sL K x m o i B D L h u) : fL_law_829 l sb sL sx K L [] h u := by
  have J0 := J
  obtain ⟨hst, hk, R, ⟨hB, hD⟩, ⟨hi, hs⟩, ⟨w1, w2⟩, kk⟩ := J
  refine al_of hk.2.1 ?_
  refine sarg hk hi hs (k := 1) rfl (by decide) ?_
  refine sarg hk hi hs (k := 2) rfl (by decide) ?_
  refine al_of hk.2.2.2.1 ?_
  refine ⟨rfl, Nat.le_of_ble_eq_true rfl, rmA w1 (by decide), rmA w2 (by decide), ?_⟩
  refine j_substitute hst R hB hD (fun k h1 hm q1 => ?_)
  have hk6 := hk.s1 (k := 6) (by decide) (.int k)
  refine al_of hk6.2.2.1 ?_
  refine sarg hk6 hi hs (k := 1) rfl (by decide) ?_
  refine sarg hk6 hi hs (k := 2) rfl (by decide) ?_
  refine ⟨rfl, Nat.le_of_ble_eq_true rfl, hm, (show u.1 + rmL_substitute.cells ≤ 603072 from rmA w1 (by decide)), (show u.2 + rmL_substitute.slots ≤ 7178346 from rmA w2 (by decide)), ?_⟩
  refine q1 _ (fun v h2 jn => ?_)
  exact tl_i J0 hk6 lget_s1 jn (show u.1 + rmL_substitute.cells ≤ u.1 + 5 from Nat.add_le_add_left (by decide) _) (show u.2 + rmL_substitute.slots ≤ u.2 + 30 from Nat.add_le_add_left (by decide) _) (fun L' u' z => z)
theorem l_relation {l : Launch} {sb sL : Nat} {sx : Nat → Int32} {K : Nat → FT} {x m o i : Nat} {B D : Int} {L : LV} {h : Hp} {u : Nat × Nat} (J : LJ l sb sL K x m o i B D L h u) : fL_law_897 l sb sL sx K L [] h u := by
  have J0 := J
  obtain ⟨hst, hk, R, ⟨hB, hD⟩, ⟨hi, hs⟩, ⟨w1, w2⟩, kk⟩ := J
  refine al_of hk.2.1 ?_
  refine sarg hk hi hs (k := 1) rfl (by decide) ?_
  refine sarg hk hi hs (k := 2) rfl (by decide) ?_
  refine al_of hk.2.2.2.1 ?_
  refine ⟨rfl, Nat.le_of_ble_eq_true rfl, rmA w1 (by decide), rmA w2 (by decide), ?_⟩
  refine j_relation hst R hB hD (fun k h1 hm q1 => ?_)
  have hk6 := hk.s1 (k := 6) (by decide) (.int k)
  refine al_of hk6.2.2.1 ?_
  refine sarg hk6 hi hs (k := 1) rfl (by decide) ?_
  refine sarg hk6 hi hs (k := 2) rfl (by decide) ?_
  refine ⟨rfl, Nat.le_of_ble_eq_true rfl, hm, (show u.1 + rmL_relation.cells ≤ 603072 from rmA w1 (by decide)), (show u.2 + rmL_relation.slots ≤ 7178346 from rmA w2 (by decide)), ?_⟩
  refine q1 _ (fun v h2 jn => ?_)
  exact tl_i J0 hk6 lget_s1 jn (show u.1 + rmL_relation.cells ≤ u.1 + 5 from Nat.add_le_add_left (by decide) _) (show u.2 + rmL_relation.slots ≤ u.2 + 30 from Nat.add_le_add_left (by decide) _) (fun L' u' z => z)
theorem l_item {l : Launch} {sb sL : Nat} {sx : Nat → Int32} {K : Nat → FT} {x m o i : Nat} {B D : Int} {L : LV} {h : Hp} {u : Nat × Nat} (J : LJ l sb sL K x m o i B D L h u) : fL_law_965 l sb sL sx K L [] h u := by
  have J0 := J
  obtain ⟨hst, hk, R, ⟨hB, hD⟩, ⟨hi, hs⟩, ⟨w1, w2⟩, kk⟩ := J
  refine al_of hk.2.1 ?_
  refine sarg hk hi hs (k := 1) rfl (by decide) ?_
  refine sarg hk hi hs (k := 2) rfl (by decide) ?_
  refine sarg hk hi hs (k := 3) rfl (by decide) ?_
  refine ⟨fun hz => ?_, fun hz => ?_⟩
  · refine al_of hk.2.2.2.1 ?_
    refine ⟨rfl, Nat.le_of_ble_eq_true rfl, rmA w1 (by decide), rmA w2 (by decide), ?_⟩
    refine j_item hst R hB hD (fun k h1 hm q1 => ?_)
    have hk6 := hk.s1 (k := 6) (by decide) (.int k)
    refine al_of hk6.2.2.1 ?_
    refine sarg hk6 hi hs (k := 1) rfl (by decide) ?_
    refine sarg hk6 hi hs (k := 2) rfl (by decide) ?_
    refine sarg hk6 hi hs (k := 3) rfl (by decide) ?_
    refine ⟨fun hz2 => ?_, fun hz2 => absurd hz hz2⟩
    refine ⟨rfl, Nat.le_of_ble_eq_true rfl, hm, (show u.1 + rmL_item.cells ≤ 603072 from rmA w1 (by decide)), (show u.2 + rmL_item.slots ≤ 7178346 from rmA w2 (by decide)), ?_⟩
    refine q1 _ (fun v h2 jn => ?_)
    exact tl_i J0 hk6 lget_s1 jn (show u.1 + rmL_item.cells ≤ u.1 + 5 from Nat.add_le_add_left (by decide) _) (show u.2 + rmL_item.slots ≤ u.2 + 30 from Nat.add_le_add_left (by decide) _) (fun L' u' z => z)
  · refine al_of hk.2.2.2.1 ?_
    refine ⟨rfl, Nat.le_of_ble_eq_true rfl, rmA w1 (by decide), rmA w2 (by decide), ?_⟩
    refine j_item hst R hB hD (fun k h1 hm q1 => ?_)
    have hk6 := hk.s1 (k := 6) (by decide) (.int k)
    refine al_of hk6.2.2.1 ?_
    refine sarg hk6 hi hs (k := 1) rfl (by decide) ?_
    refine sarg hk6 hi hs (k := 2) rfl (by decide) ?_
    refine sarg hk6 hi hs (k := 3) rfl (by decide) ?_
    refine ⟨fun hz2 => absurd hz2 hz, fun hz2 => ?_⟩
    refine ⟨rfl, Nat.le_of_ble_eq_true rfl, hm, (show u.1 + rmL_item.cells ≤ 603072 from rmA w1 (by decide)), (show u.2 + rmL_item.slots ≤ 7178346 from rmA w2 (by decide)), ?_⟩
    refine q1 _ (fun v h2 jn => ?_)
    exact tl_i J0 hk6 lget_s1 jn (show u.1 + rmL_item.cells ≤ u.1 + 5 from Nat.add_le_add_left (by decide) _) (show u.2 + rmL_item.slots ≤ u.2 + 30 from Nat.add_le_add_left (by decide) _) (fun L' u' z => z)
theorem l_request {l : Launch} {sb sL : Nat} {sx : Nat → Int32} {K : Nat → FT} {x m o i : Nat} {B D : Int} {L : LV} {h : Hp} {u : Nat × Nat} (J : LJ l sb sL K x m o i B D L h u) : fL_law_1061 l sb sL sx K L [] h u := by
  have J0 := J
  obtain ⟨hst, hk, R, ⟨hB, hD⟩, ⟨hi, hs⟩, ⟨w1, w2⟩, kk⟩ := J
  refine al_of hk.2.1 ?_
  refine sarg hk hi hs (k := 1) rfl (by decide) ?_
  refine sarg hk hi hs (k := 2) rfl (by decide) ?_
  refine al_of hk.2.2.2.1 ?_
  refine ⟨rfl, Nat.le_of_ble_eq_true rfl, rmA w1 (by decide), rmA w2 (by decide), ?_⟩
  refine j_request hst R hB hD (fun k h1 hm q1 => ?_)
  have hk6 := hk.s1 (k := 6) (by decide) (.int k)
  refine al_of hk6.2.2.1 ?_
  refine sarg hk6 hi hs (k := 1) rfl (by decide) ?_
  refine sarg hk6 hi hs (k := 2) rfl (by decide) ?_
  refine ⟨rfl, Nat.le_of_ble_eq_true rfl, hm, (show u.1 + rmL_request.cells ≤ 603072 from rmA w1 (by decide)), (show u.2 + rmL_request.slots ≤ 7178346 from rmA w2 (by decide)), ?_⟩
  refine q1 _ (fun v h2 jn => ?_)
  exact tl_i J0 hk6 lget_s1 jn (show u.1 + rmL_request.cells ≤ u.1 + 5 from Nat.add_le_add_left (by decide) _) (show u.2 + rmL_request.slots ≤ u.2 + 30 from Nat.add_le_add_left (by decide) _) (fun L' u' z => z)
theorem l_available {l : Launch} {sb sL : Nat} {sx : Nat → Int32} {K : Nat → FT} {x m o i : Nat} {B D : Int} {L : LV} {h : Hp} {u : Nat × Nat} (J : LJ l sb sL K x m o i B D L h u) : fL_law_1129 l sb sL sx K L [] h u := by
  have J0 := J
  obtain ⟨hst, hk, R, ⟨hB, hD⟩, ⟨hi, hs⟩, ⟨w1, w2⟩, kk⟩ := J
  refine al_of hk.2.1 ?_
  refine sarg hk hi hs (k := 1) rfl (by decide) ?_
  refine al_of hk.2.2.2.1 ?_
  refine ⟨rfl, Nat.le_of_ble_eq_true rfl, rmA w1 (by decide), rmA w2 (by decide), ?_⟩
  refine j_available hst R hB hD (fun k h1 hm q1 => ?_)
  have hk6 := hk.s1 (k := 6) (by decide) (.int k)
  refine al_of hk6.2.2.1 ?_
  refine sarg hk6 hi hs (k := 1) rfl (by decide) ?_
  refine ⟨rfl, Nat.le_of_ble_eq_true rfl, hm, (show u.1 + rmL_available.cells ≤ 603072 from rmA w1 (by decide)), (show u.2 + rmL_available.slots ≤ 7178346 from rmA w2 (by decide)), ?_⟩
  refine q1 _ (fun v h2 jn => ?_)
  exact tl_i J0 hk6 lget_s1 jn (show u.1 + rmL_available.cells ≤ u.1 + 5 from Nat.add_le_add_left (by decide) _) (show u.2 + rmL_available.slots ≤ u.2 + 30 from Nat.add_le_add_left (by decide) _) (fun L' u' z => z)
end LW0

section LW13
theorem l_taken {l : Launch} {sb sL : Nat} {sx : Nat → Int32} {K : Nat → FT} {x m o i : Nat} {B D : Int} {L : LV} {h : Hp} {u : Nat × Nat} (J : LJ l sb sL K x m o i B D L h u) : fL_law_1185 l sb sL sx K L [] h u := by
  have J0 := J
  obtain ⟨hst, hk, R, ⟨hB, hD⟩, ⟨hi, hs⟩, ⟨w1, w2⟩, kk⟩ := J
  refine al_of hk.2.1 ?_
  refine sarg hk hi hs (k := 1) rfl (by decide) ?_
  refine sarg hk hi hs (k := 2) rfl (by decide) ?_
  refine sarg hk hi hs (k := 3) rfl (by decide) ?_
  refine al_of hk.2.2.2.1 ?_
  refine ⟨rfl, Nat.le_of_ble_eq_true rfl, rmA w1 (by decide), rmA w2 (by decide), ?_⟩
  refine j_taken hst R hB hD (fun k h1 hm q1 => ?_)
  have hk6 := hk.s1 (k := 6) (by decide) (.int k)
  refine al_of hk6.2.2.1 ?_
  refine sarg hk6 hi hs (k := 1) rfl (by decide) ?_
  refine sarg hk6 hi hs (k := 2) rfl (by decide) ?_
  refine sarg hk6 hi hs (k := 3) rfl (by decide) ?_
  refine ⟨rfl, Nat.le_of_ble_eq_true rfl, hm, (show u.1 + rmL_taken.cells ≤ 603072 from rmA w1 (by decide)), (show u.2 + rmL_taken.slots ≤ 7178346 from rmA w2 (by decide)), ?_⟩
  refine q1 _ (fun v h2 jn => ?_)
  exact tl_i J0 hk6 lget_s1 jn (show u.1 + rmL_taken.cells ≤ u.1 + 5 from Nat.add_le_add_left (by decide) _) (show u.2 + rmL_taken.slots ≤ u.2 + 30 from Nat.add_le_add_left (by decide) _) (fun L' u' z => z)
theorem l_waiting {l : Launch} {sb sL : Nat} {sx : Nat → Int32} {K : Nat → FT} {x m o i : Nat} {B D : Int} {L : LV} {h : Hp} {u : Nat × Nat} (J : LJ l sb sL K x m o i B D L h u) : fL_law_1265 l sb sL sx K L [] h u := by
  have J0 := J
  obtain ⟨hst, hk, R, ⟨hB, hD⟩, ⟨hi, hs⟩, ⟨w1, w2⟩, kk⟩ := J
  refine al_of hk.2.1 ?_
  refine sarg hk hi hs (k := 1) rfl (by decide) ?_
  refine sarg hk hi hs (k := 2) rfl (by decide) ?_
  refine al_of hk.2.2.2.1 ?_
  refine ⟨rfl, Nat.le_of_ble_eq_true rfl, rmA w1 (by decide), rmA w2 (by decide), ?_⟩
  refine j_waiting hst R hB hD (fun k h1 hm q1 => ?_)
  have hk6 := hk.s1 (k := 6) (by decide) (.int k)
  refine al_of hk6.2.2.1 ?_
  refine sarg hk6 hi hs (k := 1) rfl (by decide) ?_
  refine sarg hk6 hi hs (k := 2) rfl (by decide) ?_
  refine ⟨rfl, Nat.le_of_ble_eq_true rfl, hm, (show u.1 + rmL_waiting.cells ≤ 603072 from rmA w1 (by decide)), (show u.2 + rmL_waiting.slots ≤ 7178346 from rmA w2 (by decide)), ?_⟩
  refine q1 _ (fun v h2 jn => ?_)
  exact tl_i J0 hk6 lget_s1 jn (show u.1 + rmL_waiting.cells ≤ u.1 + 5 from Nat.add_le_add_left (by decide) _) (show u.2 + rmL_waiting.slots ≤ u.2 + 30 from Nat.add_le_add_left (by decide) _) (fun L' u' z => z)
theorem l_cancel {l : Launch} {sb sL : Nat} {sx : Nat → Int32} {K : Nat → FT} {x m o i : Nat} {B D : Int} {L : LV} {h : Hp} {u : Nat × Nat} (J : LJ l sb sL K x m o i B D L h u) : fL_law_1333 l sb sL sx K L [] h u := by
  have J0 := J
  obtain ⟨hst, hk, R, ⟨hB, hD⟩, ⟨hi, hs⟩, ⟨w1, w2⟩, kk⟩ := J
  refine al_of hk.2.1 ?_
  refine sarg hk hi hs (k := 1) rfl (by decide) ?_
  refine al_of hk.2.2.2.1 ?_
  refine ⟨rfl, Nat.le_of_ble_eq_true rfl, rmA w1 (by decide), rmA w2 (by decide), ?_⟩
  refine j_cancel hst R hB hD (fun k h1 hm q1 => ?_)
  have hk6 := hk.s1 (k := 6) (by decide) (.int k)
  refine al_of hk6.2.2.1 ?_
  refine sarg hk6 hi hs (k := 1) rfl (by decide) ?_
  refine ⟨rfl, Nat.le_of_ble_eq_true rfl, hm, (show u.1 + rmL_cancel.cells ≤ 603072 from rmA w1 (by decide)), (show u.2 + rmL_cancel.slots ≤ 7178346 from rmA w2 (by decide)), ?_⟩
  refine q1 _ (fun v h2 jn => ?_)
  exact tl_i J0 hk6 lget_s1 jn (show u.1 + rmL_cancel.cells ≤ u.1 + 5 from Nat.add_le_add_left (by decide) _) (show u.2 + rmL_cancel.slots ≤ u.2 + 30 from Nat.add_le_add_left (by decide) _) (fun L' u' z => z)
theorem l_take {l : Launch} {sb sL : Nat} {sx : Nat → Int32} {K : Nat → FT} {x m o i : Nat} {B D : Int} {L : LV} {h : Hp} {u : Nat × Nat} (J : LJ l sb sL K x m o i B D L h u) : fL_law_1389 l sb sL sx K L [] h u := by
  have J0 := J
  obtain ⟨hst, hk, R, ⟨hB, hD⟩, ⟨hi, hs⟩, ⟨w1, w2⟩, kk⟩ := J
  refine al_of hk.2.1 ?_
  refine sarg hk hi hs (k := 1) rfl (by decide) ?_
  refine al_of hk.2.2.2.1 ?_
  refine ⟨rfl, Nat.le_of_ble_eq_true rfl, rmA w1 (by decide), rmA w2 (by decide), ?_⟩
  refine j_take hst R hB hD (fun k h1 hm q1 => ?_)
  have hk6 := hk.s1 (k := 6) (by decide) (.int k)
  refine al_of hk6.2.2.1 ?_
  refine sarg hk6 hi hs (k := 1) rfl (by decide) ?_
  refine ⟨rfl, Nat.le_of_ble_eq_true rfl, hm, (show u.1 + rmL_take.cells ≤ 603072 from rmA w1 (by decide)), (show u.2 + rmL_take.slots ≤ 7178346 from rmA w2 (by decide)), ?_⟩
  refine q1 _ (fun v h2 jn => ?_)
  exact tl_i J0 hk6 lget_s1 jn (show u.1 + rmL_take.cells ≤ u.1 + 5 from Nat.add_le_add_left (by decide) _) (show u.2 + rmL_take.slots ≤ u.2 + 30 from Nat.add_le_add_left (by decide) _) (fun L' u' z => z)
theorem l_possible {l : Launch} {sb sL : Nat} {sx : Nat → Int32} {K : Nat → FT} {x m o i : Nat} {B D : Int} {L : LV} {h : Hp} {u : Nat × Nat} (J : LJ l sb sL K x m o i B D L h u) : fL_law_1445 l sb sL sx K L [] h u := by
  have J0 := J
  obtain ⟨hst, hk, R, ⟨hB, hD⟩, ⟨hi, hs⟩, ⟨w1, w2⟩, kk⟩ := J
  refine al_of hk.2.1 ?_
  refine sarg hk hi hs (k := 1) rfl (by decide) ?_
  refine al_of hk.2.2.2.1 ?_
  refine ⟨rfl, Nat.le_of_ble_eq_true rfl, rmA w1 (by decide), rmA w2 (by decide), ?_⟩
  refine j_possible hst R hB hD (fun k h1 hm q1 => ?_)
  have hk6 := hk.s1 (k := 6) (by decide) (.int k)
  refine al_of hk6.2.2.1 ?_
  refine sarg hk6 hi hs (k := 1) rfl (by decide) ?_
  refine ⟨rfl, Nat.le_of_ble_eq_true rfl, hm, (show u.1 + rmL_possible.cells ≤ 603072 from rmA w1 (by decide)), (show u.2 + rmL_possible.slots ≤ 7178346 from rmA w2 (by decide)), ?_⟩
  refine q1 _ (fun v h2 jn => ?_)
  exact tl_i J0 hk6 lget_s1 jn (show u.1 + rmL_possible.cells ≤ u.1 + 5 from Nat.add_le_add_left (by decide) _) (show u.2 + rmL_possible.slots ≤ u.2 + 30 from Nat.add_le_add_left (by decide) _) (fun L' u' z => z)
theorem l_lacking {l : Launch} {sb sL : Nat} {sx : Nat → Int32} {K : Nat → FT} {x m o i : Nat} {B D : Int} {L : LV} {h : Hp} {u : Nat × Nat} (J : LJ l sb sL K x m o i B D L h u) : fL_law_1501 l sb sL sx K L [] h u := by
  have J0 := J
  obtain ⟨hst, hk, R, ⟨hB, hD⟩, ⟨hi, hs⟩, ⟨w1, w2⟩, kk⟩ := J
  refine al_of hk.2.1 ?_
  refine sarg hk hi hs (k := 1) rfl (by decide) ?_
  refine al_of hk.2.2.2.1 ?_
  refine ⟨rfl, Nat.le_of_ble_eq_true rfl, rmA w1 (by decide), rmA w2 (by decide), ?_⟩
  refine j_lacking hst R hB hD (fun k h1 hm q1 => ?_)
  have hk6 := hk.s1 (k := 6) (by decide) (.int k)
  refine al_of hk6.2.2.1 ?_
  refine sarg hk6 hi hs (k := 1) rfl (by decide) ?_
  refine ⟨rfl, Nat.le_of_ble_eq_true rfl, hm, (show u.1 + rmL_lacking.cells ≤ 603072 from rmA w1 (by decide)), (show u.2 + rmL_lacking.slots ≤ 7178346 from rmA w2 (by decide)), ?_⟩
  refine q1 _ (fun v h2 jn => ?_)
  exact tl_i J0 hk6 lget_s1 jn (show u.1 + rmL_lacking.cells ≤ u.1 + 5 from Nat.add_le_add_left (by decide) _) (show u.2 + rmL_lacking.slots ≤ u.2 + 30 from Nat.add_le_add_left (by decide) _) (fun L' u' z => z)
theorem l_giveBack {l : Launch} {sb sL : Nat} {sx : Nat → Int32} {K : Nat → FT} {x m o i : Nat} {B D : Int} {L : LV} {h : Hp} {u : Nat × Nat} (J : LJ l sb sL K x m o i B D L h u) : fL_law_1557 l sb sL sx K L [] h u := by
  have J0 := J
  obtain ⟨hst, hk, R, ⟨hB, hD⟩, ⟨hi, hs⟩, ⟨w1, w2⟩, kk⟩ := J
  refine al_of hk.2.1 ?_
  refine sarg hk hi hs (k := 1) rfl (by decide) ?_
  refine sarg hk hi hs (k := 2) rfl (by decide) ?_
  refine sarg hk hi hs (k := 3) rfl (by decide) ?_
  refine ⟨fun hz => ?_, fun hz => ?_⟩
  · refine al_of hk.2.2.2.1 ?_
    refine ⟨rfl, Nat.le_of_ble_eq_true rfl, rmA w1 (by decide), rmA w2 (by decide), ?_⟩
    refine j_giveBack hst R hB hD (fun k h1 hm q1 => ?_)
    have hk6 := hk.s1 (k := 6) (by decide) (.int k)
    refine al_of hk6.2.2.1 ?_
    refine sarg hk6 hi hs (k := 1) rfl (by decide) ?_
    refine sarg hk6 hi hs (k := 2) rfl (by decide) ?_
    refine sarg hk6 hi hs (k := 3) rfl (by decide) ?_
    refine ⟨fun hz2 => ?_, fun hz2 => absurd hz hz2⟩
    refine ⟨rfl, Nat.le_of_ble_eq_true rfl, hm, (show u.1 + rmL_giveBack.cells ≤ 603072 from rmA w1 (by decide)), (show u.2 + rmL_giveBack.slots ≤ 7178346 from rmA w2 (by decide)), ?_⟩
    refine q1 _ (fun v h2 jn => ?_)
    exact tl_i J0 hk6 lget_s1 jn (show u.1 + rmL_giveBack.cells ≤ u.1 + 5 from Nat.add_le_add_left (by decide) _) (show u.2 + rmL_giveBack.slots ≤ u.2 + 30 from Nat.add_le_add_left (by decide) _) (fun L' u' z => z)
  · refine al_of hk.2.2.2.1 ?_
    refine ⟨rfl, Nat.le_of_ble_eq_true rfl, rmA w1 (by decide), rmA w2 (by decide), ?_⟩
    refine j_giveBack hst R hB hD (fun k h1 hm q1 => ?_)
    have hk6 := hk.s1 (k := 6) (by decide) (.int k)
    refine al_of hk6.2.2.1 ?_
    refine sarg hk6 hi hs (k := 1) rfl (by decide) ?_
    refine sarg hk6 hi hs (k := 2) rfl (by decide) ?_
    refine sarg hk6 hi hs (k := 3) rfl (by decide) ?_
    refine ⟨fun hz2 => absurd hz2 hz, fun hz2 => ?_⟩
    refine ⟨rfl, Nat.le_of_ble_eq_true rfl, hm, (show u.1 + rmL_giveBack.cells ≤ 603072 from rmA w1 (by decide)), (show u.2 + rmL_giveBack.slots ≤ 7178346 from rmA w2 (by decide)), ?_⟩
    refine q1 _ (fun v h2 jn => ?_)
    exact tl_i J0 hk6 lget_s1 jn (show u.1 + rmL_giveBack.cells ≤ u.1 + 5 from Nat.add_le_add_left (by decide) _) (show u.2 + rmL_giveBack.slots ≤ u.2 + 30 from Nat.add_le_add_left (by decide) _) (fun L' u' z => z)
theorem l_send {l : Launch} {sb sL : Nat} {sx : Nat → Int32} {K : Nat → FT} {x m o i : Nat} {B D : Int} {L : LV} {h : Hp} {u : Nat × Nat} (J : LJ l sb sL K x m o i B D L h u) : fL_law_1653 l sb sL sx K L [] h u := by
  have J0 := J
  obtain ⟨hst, hk, R, ⟨hB, hD⟩, ⟨hi, hs⟩, ⟨w1, w2⟩, kk⟩ := J
  refine al_of hk.2.1 ?_
  refine sarg hk hi hs (k := 1) rfl (by decide) ?_
  refine sarg hk hi hs (k := 2) rfl (by decide) ?_
  refine al_of hk.2.2.2.1 ?_
  refine ⟨rfl, Nat.le_of_ble_eq_true rfl, rmA w1 (by decide), rmA w2 (by decide), ?_⟩
  refine j_send hst R hB hD (fun k h1 hm q1 => ?_)
  have hk6 := hk.s1 (k := 6) (by decide) (.int k)
  refine al_of hk6.2.2.1 ?_
  refine sarg hk6 hi hs (k := 1) rfl (by decide) ?_
  refine sarg hk6 hi hs (k := 2) rfl (by decide) ?_
  refine ⟨rfl, Nat.le_of_ble_eq_true rfl, hm, (show u.1 + rmL_send.cells ≤ 603072 from rmA w1 (by decide)), (show u.2 + rmL_send.slots ≤ 7178346 from rmA w2 (by decide)), ?_⟩
  refine q1 _ (fun v h2 jn => ?_)
  exact tl_i J0 hk6 lget_s1 jn (show u.1 + rmL_send.cells ≤ u.1 + 5 from Nat.add_le_add_left (by decide) _) (show u.2 + rmL_send.slots ≤ u.2 + 30 from Nat.add_le_add_left (by decide) _) (fun L' u' z => z)
theorem l_repair {l : Launch} {sb sL : Nat} {sx : Nat → Int32} {K : Nat → FT} {x m o i : Nat} {B D : Int} {L : LV} {h : Hp} {u : Nat × Nat} (J : LJ l sb sL K x m o i B D L h u) : fL_law_1721 l sb sL sx K L [] h u := by
  have J0 := J
  obtain ⟨hst, hk, R, ⟨hB, hD⟩, ⟨hi, hs⟩, ⟨w1, w2⟩, kk⟩ := J
  refine al_of hk.2.1 ?_
  refine sarg hk hi hs (k := 1) rfl (by decide) ?_
  refine sarg hk hi hs (k := 2) rfl (by decide) ?_
  refine al_of hk.2.2.2.1 ?_
  refine ⟨rfl, Nat.le_of_ble_eq_true rfl, rmA w1 (by decide), rmA w2 (by decide), ?_⟩
  refine j_repair hst R hB hD (fun k h1 hm q1 => ?_)
  have hk6 := hk.s1 (k := 6) (by decide) (.int k)
  refine al_of hk6.2.2.1 ?_
  refine sarg hk6 hi hs (k := 1) rfl (by decide) ?_
  refine sarg hk6 hi hs (k := 2) rfl (by decide) ?_
  refine ⟨rfl, Nat.le_of_ble_eq_true rfl, hm, (show u.1 + rmL_repair.cells ≤ 603072 from rmA w1 (by decide)), (show u.2 + rmL_repair.slots ≤ 7178346 from rmA w2 (by decide)), ?_⟩
  refine q1 _ (fun v h2 jn => ?_)
  exact tl_i J0 hk6 lget_s1 jn (show u.1 + rmL_repair.cells ≤ u.1 + 5 from Nat.add_le_add_left (by decide) _) (show u.2 + rmL_repair.slots ≤ u.2 + 30 from Nat.add_le_add_left (by decide) _) (fun L' u' z => z)
theorem l_order {l : Launch} {sb sL : Nat} {sx : Nat → Int32} {K : Nat → FT} {x m o i : Nat} {B D : Int} {L : LV} {h : Hp} {u : Nat × Nat} (J : LJ l sb sL K x m o i B D L h u) : fL_law_1789 l sb sL sx K L [] h u := by
  have J0 := J
  obtain ⟨hst, hk, R, ⟨hB, hD⟩, ⟨hi, hs⟩, ⟨w1, w2⟩, kk⟩ := J
  refine al_of hk.2.1 ?_
  refine sarg hk hi hs (k := 1) rfl (by decide) ?_
  refine sarg hk hi hs (k := 2) rfl (by decide) ?_
  refine al_of hk.2.2.2.1 ?_
  refine ⟨rfl, Nat.le_of_ble_eq_true rfl, rmA w1 (by decide), rmA w2 (by decide), ?_⟩
  refine j_order hst R hB hD (fun k h1 hm q1 => ?_)
  have hk6 := hk.s1 (k := 6) (by decide) (.int k)
  refine al_of hk6.2.2.1 ?_
  refine sarg hk6 hi hs (k := 1) rfl (by decide) ?_
  refine sarg hk6 hi hs (k := 2) rfl (by decide) ?_
  refine ⟨rfl, Nat.le_of_ble_eq_true rfl, hm, (show u.1 + rmL_order.cells ≤ 603072 from rmA w1 (by decide)), (show u.2 + rmL_order.slots ≤ 7178346 from rmA w2 (by decide)), ?_⟩
  refine q1 _ (fun v h2 jn => ?_)
  exact tl_i J0 hk6 lget_s1 jn (show u.1 + rmL_order.cells ≤ u.1 + 5 from Nat.add_le_add_left (by decide) _) (show u.2 + rmL_order.slots ≤ u.2 + 30 from Nat.add_le_add_left (by decide) _) (fun L' u' z => z)
theorem l_advance {l : Launch} {sb sL : Nat} {sx : Nat → Int32} {K : Nat → FT} {x m o i : Nat} {B D : Int} {L : LV} {h : Hp} {u : Nat × Nat} (J : LJ l sb sL K x m o i B D L h u) : fL_law_1857 l sb sL sx K L [] h u := by
  have J0 := J
  obtain ⟨hst, hk, R, ⟨hB, hD⟩, ⟨hi, hs⟩, ⟨w1, w2⟩, kk⟩ := J
  refine al_of hk.2.1 ?_
  refine sarg hk hi hs (k := 1) rfl (by decide) ?_
  refine al_of hk.2.2.2.1 ?_
  refine ⟨rfl, Nat.le_of_ble_eq_true rfl, rmA w1 (by decide), rmA w2 (by decide), ?_⟩
  refine j_advance hst R hB hD (fun k h1 hm q1 => ?_)
  have hk6 := hk.s1 (k := 6) (by decide) (.int k)
  refine al_of hk6.2.2.1 ?_
  refine sarg hk6 hi hs (k := 1) rfl (by decide) ?_
  refine ⟨rfl, Nat.le_of_ble_eq_true rfl, hm, (show u.1 + rmL_advance.cells ≤ 603072 from rmA w1 (by decide)), (show u.2 + rmL_advance.slots ≤ 7178346 from rmA w2 (by decide)), ?_⟩
  refine q1 _ (fun v h2 jn => ?_)
  exact tl_i J0 hk6 lget_s1 jn (show u.1 + rmL_advance.cells ≤ u.1 + 5 from Nat.add_le_add_left (by decide) _) (show u.2 + rmL_advance.slots ≤ u.2 + 30 from Nat.add_le_add_left (by decide) _) (fun L' u' z => z)
theorem l_wanted {l : Launch} {sb sL : Nat} {sx : Nat → Int32} {K : Nat → FT} {x m o i : Nat} {B D : Int} {L : LV} {h : Hp} {u : Nat × Nat} (J : LJ l sb sL K x m o i B D L h u) : fL_law_1913 l sb sL sx K L [] h u := by
  have J0 := J
  obtain ⟨hst, hk, R, ⟨hB, hD⟩, ⟨hi, hs⟩, ⟨w1, w2⟩, kk⟩ := J
  refine al_of hk.2.1 ?_
  refine sarg hk hi hs (k := 1) rfl (by decide) ?_
  refine al_of hk.2.2.2.1 ?_
  refine ⟨rfl, Nat.le_of_ble_eq_true rfl, rmA w1 (by decide), rmA w2 (by decide), ?_⟩
  refine j_wanted hst R hB hD (fun k h1 hm q1 => ?_)
  have hk6 := hk.s1 (k := 6) (by decide) (.int k)
  refine al_of hk6.2.2.1 ?_
  refine sarg hk6 hi hs (k := 1) rfl (by decide) ?_
  refine ⟨rfl, Nat.le_of_ble_eq_true rfl, hm, (show u.1 + rmL_wanted.cells ≤ 603072 from rmA w1 (by decide)), (show u.2 + rmL_wanted.slots ≤ 7178346 from rmA w2 (by decide)), ?_⟩
  refine q1 _ (fun v h2 jn => ?_)
  exact tl_i J0 hk6 lget_s1 jn (show u.1 + rmL_wanted.cells ≤ u.1 + 5 from Nat.add_le_add_left (by decide) _) (show u.2 + rmL_wanted.slots ≤ u.2 + 30 from Nat.add_le_add_left (by decide) _) (fun L' u' z => z)
theorem l_stockAfter {l : Launch} {sb sL : Nat} {sx : Nat → Int32} {K : Nat → FT} {x m o i : Nat} {B D : Int} {L : LV} {h : Hp} {u : Nat × Nat} (J : LJ l sb sL K x m o i B D L h u) : fL_law_1969 l sb sL sx K L [] h u := by
  have J0 := J
  obtain ⟨hst, hk, R, ⟨hB, hD⟩, ⟨hi, hs⟩, ⟨w1, w2⟩, kk⟩ := J
  refine al_of hk.2.1 ?_
  refine sarg hk hi hs (k := 1) rfl (by decide) ?_
  refine sarg hk hi hs (k := 2) rfl (by decide) ?_
  refine al_of hk.2.2.2.1 ?_
  refine ⟨rfl, Nat.le_of_ble_eq_true rfl, rmA w1 (by decide), rmA w2 (by decide), ?_⟩
  refine j_stockAfter hst R hB hD (fun k h1 hm q1 => ?_)
  have hk6 := hk.s1 (k := 6) (by decide) (.int k)
  refine al_of hk6.2.2.1 ?_
  refine sarg hk6 hi hs (k := 1) rfl (by decide) ?_
  refine sarg hk6 hi hs (k := 2) rfl (by decide) ?_
  refine ⟨rfl, Nat.le_of_ble_eq_true rfl, hm, (show u.1 + rmL_stockAfter.cells ≤ 603072 from rmA w1 (by decide)), (show u.2 + rmL_stockAfter.slots ≤ 7178346 from rmA w2 (by decide)), ?_⟩
  refine q1 _ (fun v h2 jn => ?_)
  exact tl_i J0 hk6 lget_s1 jn (show u.1 + rmL_stockAfter.cells ≤ u.1 + 5 from Nat.add_le_add_left (by decide) _) (show u.2 + rmL_stockAfter.slots ≤ u.2 + 30 from Nat.add_le_add_left (by decide) _) (fun L' u' z => z)
end LW13

section T5
theorem l_clear {l : Launch} {sb sL : Nat} {sx : Nat → Int32} {K : Nat → FT} {x m o i : Nat} {B D : Int} {L : LV} {h : Hp} {u : Nat × Nat} (J : LJ l sb sL K x m o i B D L h u) : fL_law_236 l sb sL sx K L [] h u := by
  obtain ⟨hst, hk, R, ⟨hB, hD0⟩, ⟨hi, hs⟩, ⟨w1, w2⟩, kk⟩ := J
  refine al_of hk.2.1 ?_
  refine ⟨rfl, Nat.le_of_ble_eq_true rfl, R.s0, (show u.1 + 0 ≤ 603072 from rmA w1 (by decide)), (show u.2 + 0 ≤ 7178346 from rmA w2 (by decide)), ?_⟩
  refine j_clear hst R hB hD0 (fun k h1 hm q1 => ?_)
  refine al_of hk.2.2.1 ?_
  refine ⟨rfl, Nat.le_of_ble_eq_true rfl, hm, (show u.1 + 0 ≤ 603072 from rmA w1 (by decide)), (show u.2 + 0 ≤ 7178346 from rmA w2 (by decide)), ?_⟩
  refine q1 _ (fun h2 R2 => ?_)
  exact ⟨fun _ => inc_of hk.2.2.2.2.2 (kk _ _ _ hk.inc R2 (Nat.le_add_right _ _) (Nat.le_add_right _ _)), fun z => absurd rfl z⟩
theorem l_audit {l : Launch} {sb sL : Nat} {sx : Nat → Int32} {K : Nat → FT} {x m o i : Nat} {B D : Int} {L : LV} {h : Hp} {u : Nat × Nat} (J : LJ l sb sL K x m o i B D L h u) : fL_law_2105 l sb sL sx K L [] h u := by
  obtain ⟨hst, hk, R, ⟨hB, hD0⟩, ⟨hi, hs⟩, ⟨w1, w2⟩, kk⟩ := J
  refine al_of hk.2.1 ?_
  refine ⟨rfl, Nat.le_of_ble_eq_true rfl, R.s0, (show u.1 + 0 ≤ 603072 from rmA w1 (by decide)), (show u.2 + 0 ≤ 7178346 from rmA w2 (by decide)), ?_⟩
  refine j_audit hst R hB hD0 (fun k h1 hm q1 => ?_)
  refine al_of hk.2.2.1 ?_
  refine ⟨rfl, Nat.le_of_ble_eq_true rfl, hm, (show u.1 + 0 ≤ 603072 from rmA w1 (by decide)), (show u.2 + 0 ≤ 7178346 from rmA w2 (by decide)), ?_⟩
  refine q1 _ (fun h2 R2 => ?_)
  exact ⟨fun _ => inc_of hk.2.2.2.2.2 (kk _ _ _ hk.inc R2 (Nat.le_add_right _ _) (Nat.le_add_right _ _)), fun z => absurd rfl z⟩
theorem l_save {l : Launch} {sb sL : Nat} {sx : Nat → Int32} {K : Nat → FT} {x m o i : Nat} {B D : Int} {L : LV} {h : Hp} {u : Nat × Nat} (J : LJ l sb sL K x m o i B D L h u) : fL_law_2854 l sb sL sx K L [] h u := by
  obtain ⟨hst, hk, R, ⟨hB, hD0⟩, ⟨hi, hs⟩, ⟨w1, w2⟩, kk⟩ := J
  refine al_of hk.2.1 ?_
  refine ⟨rfl, Nat.le_of_ble_eq_true rfl, R.s0, (show u.1 + 0 ≤ 603072 from rmA w1 (by decide)), (show u.2 + 0 ≤ 7178346 from rmA w2 (by decide)), ?_⟩
  refine j_save hst R hB hD0 (fun k h1 hm q1 => ?_)
  refine al_of hk.2.2.1 ?_
  refine ⟨rfl, Nat.le_of_ble_eq_true rfl, hm, (show u.1 + 0 ≤ 603072 from rmA w1 (by decide)), (show u.2 + 0 ≤ 7178346 from rmA w2 (by decide)), ?_⟩
  refine q1 _ (fun h2 R2 => ?_)
  exact ⟨fun _ => inc_of hk.2.2.2.2.2 (kk _ _ _ hk.inc R2 (Nat.le_add_right _ _) (Nat.le_add_right _ _)), fun z => absurd rfl z⟩
theorem l_service {l : Launch} {sb sL : Nat} {sx : Nat → Int32} {K : Nat → FT} {x m o i : Nat} {B D : Int} {L : LV} {h : Hp} {u : Nat × Nat} (J : LJ l sb sL K x m o i B D L h u) : fL_law_2118 l sb sL sx K L [] h u := by
  obtain ⟨hst, hk, R, ⟨hB, hD0⟩, ⟨hi, hs⟩, ⟨w1, w2⟩, kk⟩ := J
  refine al_of hk.2.1 ?_
  refine sarg hk hi hs (k := 1) rfl (by decide) ?_
  refine al_of hk.2.2.2.2.1 ?_
  refine ⟨rfl, Nat.le_of_ble_eq_true rfl, rmA w1 (by decide), rmA w2 (by decide), ?_⟩
  refine j_service hst R hB hD0 (fun k h1 hm q1 => ?_)
  have hk6 := hk.s1 (k := 6) (by decide) (.int k)
  have e6 : lget (lset1 L 6 (.int k)) 6 = some (.int k) := lget_s1
  refine al_of hk6.2.2.1 ?_
  refine sarg hk6 hi hs (k := 1) rfl (by decide) ?_
  have b1 : u.1 + rmL_service.cells ≤ u.1 + 5 := Nat.add_le_add_left (by decide) _
  have b2 : u.2 + rmL_service.slots ≤ u.2 + 30 := Nat.add_le_add_left (by decide) _
  have v1 : u.1 + rmL_service.cells ≤ 603072 := rmA w1 (by decide)
  have v2 : u.2 + rmL_service.slots ≤ 7178346 := rmA w2 (by decide)
  refine ⟨rfl, Nat.le_of_ble_eq_true rfl, hm, v1, v2, ?_⟩
  refine q1 _ (fun v h2 R2 ek ev => ?_)
  have hk7 := hk6.s1 (k := 7) (by decide) (.float v)
  have e67 : lget (lset1 (lset1 L 6 (.int k)) 7 (.float v)) 6 = some (.int k) := lget_o1 e6 nci (by decide)
  have fin := kk _ _ (u.1 + rmL_service.cells, u.2 + rmL_service.slots) hk7.inc R2 b1 b2
  refine al_of hk7.2.2.1 ?_
  refine ⟨rfl, Nat.le_of_ble_eq_true rfl, R2.2.2.2.1.1, v1, v2, ?_⟩
  refine c_thrown hst R2.2.2.2.1 ?_
  refine il_of e67 ?_
  refine ⟨fun _ => ?_, fun z => absurd ek z⟩
  refine il_of e67 ?_
  refine ⟨fun z => inc_of hk7.2.2.2.2.2 fin, fun z => ?_⟩
  obtain ⟨d1, d2⟩ := ev z
  have ho := R2.2.2.1.2
  refine al_of hk7.2.2.2.2.1 ?_
  refine ⟨congrArg Prod.fst ho, by rw [ho]; exact nI_in (c := 0) (by decide) (by decide), ?_⟩
  refine fl_of lget_s1 ?_
  refine ⟨vf_n64_of d2, ?_⟩
  refine ⟨fun _ => inc_of hk7.2.2.2.2.2 fin, fun z2 => absurd ?_ z2⟩
  rw [show hD h2 (o + 1) (0 : Int32).toNatClampNeg = FP.f2d v from d1]
  exact (congrArg (fun y => Op.cmpValue y .l) (FP.Core.dcmp_self d2)).trans rfl
theorem l_averageService {l : Launch} {sb sL : Nat} {sx : Nat → Int32} {K : Nat → FT} {x m o i : Nat} {B D : Int} {L : LV} {h : Hp} {u : Nat × Nat} (J : LJ l sb sL K x m o i B D L h u) : fL_law_2296 l sb sL sx K L [] h u := by
  obtain ⟨hst, hk, R, ⟨hB, hD0⟩, ⟨hi, hs⟩, ⟨w1, w2⟩, kk⟩ := J
  refine al_of hk.2.1 ?_
  refine al_of hk.2.2.2.2.1 ?_
  refine ⟨rfl, Nat.le_of_ble_eq_true rfl, rmA w1 (by decide), rmA w2 (by decide), ?_⟩
  refine j_averageService hst R hB hD0 (fun k h1 hm q1 => ?_)
  have hk6 := hk.s1 (k := 6) (by decide) (.int k)
  have e6 : lget (lset1 L 6 (.int k)) 6 = some (.int k) := lget_s1
  refine al_of hk6.2.2.1 ?_
  have b1 : u.1 + rmL_averageService.cells ≤ u.1 + 5 := Nat.add_le_add_left (by decide) _
  have b2 : u.2 + rmL_averageService.slots ≤ u.2 + 30 := Nat.add_le_add_left (by decide) _
  have v1 : u.1 + rmL_averageService.cells ≤ 603072 := rmA w1 (by decide)
  have v2 : u.2 + rmL_averageService.slots ≤ 7178346 := rmA w2 (by decide)
  refine ⟨rfl, Nat.le_of_ble_eq_true rfl, hm, v1, v2, ?_⟩
  refine q1 _ (fun v h2 R2 ek ev => ?_)
  have hk7 := hk6.s2 (k := 7) (by decide) (.double v)
  have e67 : lget (lset2 (lset1 L 6 (.int k)) 7 (.double v)) 6 = some (.int k) := lget_o2 e6 nci (by decide) (by decide)
  have fin := kk _ _ (u.1 + rmL_averageService.cells, u.2 + rmL_averageService.slots) hk7.inc R2 b1 b2
  refine al_of hk7.2.2.1 ?_
  refine ⟨rfl, Nat.le_of_ble_eq_true rfl, R2.2.2.2.1.1, v1, v2, ?_⟩
  refine c_thrown hst R2.2.2.2.1 ?_
  refine il_of e67 ?_
  refine ⟨fun _ => ?_, fun z => absurd ek z⟩
  refine il_of e67 ?_
  refine ⟨fun z => inc_of hk7.2.2.2.2.2 fin, fun z => ?_⟩
  obtain ⟨d1, d2⟩ := ev z
  have ho := R2.2.2.1.2
  refine al_of hk7.2.2.2.2.1 ?_
  refine ⟨congrArg Prod.fst ho, by rw [ho]; exact nI_in (c := 0) (by decide) (by decide), ?_⟩
  refine dl_of lget_s2 ?_
  refine ⟨fun _ => inc_of hk7.2.2.2.2.2 fin, fun z2 => absurd ?_ z2⟩
  rw [show hD h2 (o + 1) (0 : Int32).toNatClampNeg = v from d1]
  exact (congrArg (fun y => Op.cmpValue y .l) (FP.Core.dcmp_self d2)).trans rfl
theorem l_averageBits {l : Launch} {sb sL : Nat} {sx : Nat → Int32} {K : Nat → FT} {x m o i : Nat} {B D : Int} {L : LV} {h : Hp} {u : Nat × Nat} (J : LJ l sb sL K x m o i B D L h u) : fL_law_2361 l sb sL sx K L [] h u := by
  obtain ⟨hst, hk, R, ⟨hB, hD0⟩, ⟨hi, hs⟩, ⟨w1, w2⟩, kk⟩ := J
  refine al_of hk.2.1 ?_
  refine al_of hk.2.2.2.1 ?_
  refine ⟨rfl, Nat.le_of_ble_eq_true rfl, rmA w1 (by decide), rmA w2 (by decide), ?_⟩
  refine j_averageBits hst R hB hD0 (fun k h1 hm q1 => ?_)
  have hk6 := hk.s1 (k := 6) (by decide) (.int k)
  have e6 : lget (lset1 L 6 (.int k)) 6 = some (.int k) := lget_s1
  refine al_of hk6.2.2.1 ?_
  have b1 : u.1 + rmL_averageBits.cells ≤ u.1 + 5 := Nat.add_le_add_left (by decide) _
  have b2 : u.2 + rmL_averageBits.slots ≤ u.2 + 30 := Nat.add_le_add_left (by decide) _
  have v1 : u.1 + rmL_averageBits.cells ≤ 603072 := rmA w1 (by decide)
  have v2 : u.2 + rmL_averageBits.slots ≤ 7178346 := rmA w2 (by decide)
  refine ⟨rfl, Nat.le_of_ble_eq_true rfl, hm, v1, v2, ?_⟩
  refine q1 _ (fun v h2 jn => ?_)
  have R2 := jn.1
  have hk7 := hk6.s2 (k := 7) (by decide) (.long v)
  have e67 : lget (lset2 (lset1 L 6 (.int k)) 7 (.long v)) 6 = some (.int k) := lget_o2 e6 nci (by decide) (by decide)
  have fin := kk _ _ (u.1 + rmL_averageBits.cells, u.2 + rmL_averageBits.slots) hk7.inc R2 b1 b2
  refine al_of hk7.2.2.1 ?_
  refine ⟨rfl, Nat.le_of_ble_eq_true rfl, R2.2.2.2.1.1, v1, v2, ?_⟩
  refine c_thrown hst R2.2.2.2.1 ?_
  refine il_of e67 ?_
  refine ⟨fun _ => ?_, fun z => absurd jn.2.1 z⟩
  refine il_of e67 ?_
  refine ⟨fun z => inc_of hk7.2.2.2.2.2 fin, fun z => ?_⟩
  have ho := R2.2.2.1.1
  refine al_of hk7.2.2.2.1 ?_
  refine ⟨congrArg Prod.fst ho, by rw [ho]; exact nI_in (c := 0) (by decide) (by decide), ?_⟩
  refine ll_of lget_s2 ?_
  refine ⟨fun _ => inc_of hk7.2.2.2.2.2 fin, fun z2 => absurd ?_ z2⟩
  rw [show hL h2 o (0 : Int32).toNatClampNeg = v from jn.2.2 z]
  exact lcmp_self _
end T5

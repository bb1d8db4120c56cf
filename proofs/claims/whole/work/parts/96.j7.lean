section J7
theorem g3 {h : Hp} {m : Nat} (hL9 : MdL h m) {F N : Nat → Int32} : hR (st h m F N) m 3 = m + 3 := hL9.2.2.1.1
theorem g3n {h : Hp} {m : Nat} (hL9 : MdL h m) {F N : Nat → Int32} : hR (st h m F N) m 3 ≠ 0 := by rw [g3 hL9]; omega
theorem g12 {h : Hp} {m : Nat} (hL9 : MdL h m) {F N : Nat → Int32} : hR (st h m F N) m 12 = m + 13 := hL9.2.2.2.2.2.1.1
theorem g12n {h : Hp} {m : Nat} (hL9 : MdL h m) {F N : Nat → Int32} : hR (st h m F N) m 12 ≠ 0 := by rw [g12 hL9]; omega
theorem c_cpO {l : Launch} (hst : l.stackTraces = false) {Q : Option Value → Hp → Prop} {X : String → Hp → Prop} {h : Hp} {m : Nat} {F N : Nat → Int32} (hM : MdS h m) (hL9 : MdL h m) {b : Nat} (hb : b = m + 3 ∨ b = m + 13) (q : ∀ h', Mf m h h' → hI h' b = cpr N (hI h b) → Q none (st h' m F N)) : CX9_copyRow l [.ref (m + 1), .ref b] (st h m F N) Q X := by
  have sb : hs (st h m F N) b = (20, 359) := by
    rw [hs_st]
    rcases hb with rfl | rfl
    · exact hL9.2.2.1.2
    · exact hL9.2.2.2.2.2.1.2
  refine c_copyRow hst (h := st h m F N) hM.2.2.1 sb (by omega) ?_
  rw [st_N, st_o (by omega) (by omega), st_sO (by omega) (by omega)]
  exact q _ (Mf.row hb) (hI_sRow _ _ _)
theorem c_cpI {l : Launch} (hst : l.stackTraces = false) {Q : Option Value → Hp → Prop} {X : String → Hp → Prop} {h : Hp} {m : Nat} {F N : Nat → Int32} (hM : MdS h m) (hL9 : MdL h m) {b : Nat} (hb : b = m + 3 ∨ b = m + 13) (q : Q none (st h m F (cpr (hI h b) N))) : CX9_copyRow l [.ref b, .ref (m + 1)] (st h m F N) Q X := by
  have sb : hs (st h m F N) b = (20, 359) := by
    rw [hs_st]
    rcases hb with rfl | rfl
    · exact hL9.2.2.1.2
    · exact hL9.2.2.2.2.2.1.2
  refine c_copyRow hst (h := st h m F N) sb hM.2.2.1 (by omega) ?_
  rw [st_N, st_o (by omega) (by omega), st_sN]
  exact q
/-- a change with the row before kept is remembered -/
theorem c_chg {l : Launch} (hst : l.stackTraces = false) {Q : Option Value → Hp → Prop} {X : String → Hp → Prop} {h h' : Hp} {m r : Nat} {F N N' : Nat → Int32} (hM : MdS h m) (hL9 : MdL h m) (f : Mf m h h') (eb : ∀ j, j < 359 → hI h' (m + 3) j = N j) (hr : F 5 = nI r) (r8 : r ≤ 8) {v : Int32} (q : ∀ h9, Mf m (hpush h m r N) h9 → Q (some (.int v)) (st h9 m (upd F 5 (nI (pr r))) N')) : CX9_changed l [.ref m, .int v] (st h' m F N') Q X := c_changed hst (hM.mf f) (hL9.mf f) hr r8 (q _ (hpush_mf f eb r8))
theorem k_request {l : Launch} (hst : l.stackTraces = false) {Q : Option Value → Hp → Prop} {X : String → Hp → Prop} {h : Hp} {m : Nat} {F N : Nat → Int32} (hM : MdS h m) (hL9 : MdL h m) {c0 c1 c2 c3 c4 : Nat} {B : Int} (g : GI N c0 c1 c2 c3 c4 B) {r : Nat} (hr : F 5 = nI r) (r8 : r ≤ 8) {P v : Int32} (x1 : ¬ (0 ≤ P ∧ P < nI c0) → Q (some (.int 0)) (st h m (upd F 0 1) N)) (x2 : 0 ≤ P ∧ P < nI c0 → ¬ (1 ≤ v ∧ v ≤ 999) → Q (some (.int 0)) (st h m (upd F 0 2) N)) (x3 : ∀ p h', P = nI p → p < c0 → 1 ≤ v ∧ v ≤ 999 → s_reqBad N p v → Mf m h h' → Q (some (.int 0)) (st h' m (upd (upd (upd F 0 0) 7 1) 0 3) N)) (q : ∀ p h', P = nI p → p < c0 → 1 ≤ v ∧ v ≤ 999 → ¬ s_reqBad N p v → Mf m (hpush h m r N) h' → Q (some (.int (v - (r_serve N p v).1))) (st h' m (upd (upd F 0 0) 5 (nI (pr r))) (r_req N p v c2))) : CX9_request l [.ref m, .int P, .int v] (st h m F N) Q X := by
  have hN := g.wf
  have k8 := hN.1.2
  refine eX9_request hst (Nat.le_of_ble_eq_true rfl) (fun K => ?_)
  by_cases hP : 0 ≤ P ∧ P < nI c0
  rotate_left
  · (repeat (first | (refine And.intro hM.1 (And.intro hM.2.1 ?_); rw [g_st hM]) | (refine And.intro hM.1 ?_; rw [fp_st hM]) | (refine And.intro hM.1 ?_; rw [fg_st hM]) | refine And.intro (by first | exact hM.1 | assumption | rfl | exact Nat.le_of_ble_eq_true rfl | exact Nat.zero_le _ | decide) ?_))
    refine c_isPart0 hst hM hN.1.1 hN.1.2 hP ?_
    (repeat (first | (refine And.intro hM.1 (And.intro hM.2.1 ?_); rw [g_st hM]) | (refine And.intro hM.1 ?_; rw [fp_st hM]) | (refine And.intro hM.1 ?_; rw [fg_st hM]) | refine And.intro (by first | exact hM.1 | assumption | rfl | exact Nat.le_of_ble_eq_true rfl | exact Nat.zero_le _ | decide) ?_ | refine And.intro (fun _ => ?_) (fun hz => absurd hz (by decide)) | refine And.intro (fun hz => absurd hz (by decide)) (fun _ => ?_)))
    refine c_fails1 hst hM ?_
    (repeat (first | (refine And.intro hM.1 (And.intro hM.2.1 ?_); rw [g_st hM]) | (refine And.intro hM.1 ?_; rw [fp_st hM]) | (refine And.intro hM.1 ?_; rw [fg_st hM]) | refine And.intro (by first | exact hM.1 | assumption | rfl | exact Nat.le_of_ble_eq_true rfl | exact Nat.zero_le _ | decide) ?_ | refine And.intro (fun _ => ?_) (fun hz => absurd hz (by decide)) | refine And.intro (fun hz => absurd hz (by decide)) (fun _ => ?_)))
    exact x1 hP
  obtain ⟨p, p1, p2⟩ := in9 (c := c0) (by have := hN.1.2; omega) hP
  subst p2
  (repeat (first | (refine And.intro hM.1 (And.intro hM.2.1 ?_); rw [g_st hM]) | (refine And.intro hM.1 ?_; rw [fp_st hM]) | (refine And.intro hM.1 ?_; rw [fg_st hM]) | refine And.intro (by first | exact hM.1 | assumption | rfl | exact Nat.le_of_ble_eq_true rfl | exact Nat.zero_le _ | decide) ?_))
  refine c_isPart1 hst hM hN.1.1 hN.1.2 p1 ?_
  (repeat (first | (refine And.intro hM.1 (And.intro hM.2.1 ?_); rw [g_st hM]) | (refine And.intro hM.1 ?_; rw [fp_st hM]) | (refine And.intro hM.1 ?_; rw [fg_st hM]) | refine And.intro (by first | exact hM.1 | assumption | rfl | exact Nat.le_of_ble_eq_true rfl | exact Nat.zero_le _ | decide) ?_ | refine And.intro (fun _ => ?_) (fun hz => absurd hz (by decide)) | refine And.intro (fun hz => absurd hz (by decide)) (fun _ => ?_)))
  refine c_fails0 hst hM ?_
  (repeat (first | (refine And.intro hM.1 (And.intro hM.2.1 ?_); rw [g_st hM]) | (refine And.intro hM.1 ?_; rw [fp_st hM]) | (refine And.intro hM.1 ?_; rw [fg_st hM]) | refine And.intro (by first | exact hM.1 | assumption | rfl | exact Nat.le_of_ble_eq_true rfl | exact Nat.zero_le _ | decide) ?_ | refine And.intro (fun _ => ?_) (fun hz => absurd hz (by decide)) | refine And.intro (fun hz => absurd hz (by decide)) (fun _ => ?_)))
  by_cases hv : 1 ≤ v ∧ v ≤ 999
  rotate_left
  · refine c_isQ0 hst hv ?_
    (repeat (first | (refine And.intro hM.1 (And.intro hM.2.1 ?_); rw [g_st hM]) | (refine And.intro hM.1 ?_; rw [fp_st hM]) | (refine And.intro hM.1 ?_; rw [fg_st hM]) | refine And.intro (by first | exact hM.1 | assumption | rfl | exact Nat.le_of_ble_eq_true rfl | exact Nat.zero_le _ | decide) ?_ | refine And.intro (fun _ => ?_) (fun hz => absurd hz (by decide)) | refine And.intro (fun hz => absurd hz (by decide)) (fun _ => ?_)))
    refine c_fails1u hst hM ?_
    (repeat (first | (refine And.intro hM.1 (And.intro hM.2.1 ?_); rw [g_st hM]) | (refine And.intro hM.1 ?_; rw [fp_st hM]) | (refine And.intro hM.1 ?_; rw [fg_st hM]) | refine And.intro (by first | exact hM.1 | assumption | rfl | exact Nat.le_of_ble_eq_true rfl | exact Nat.zero_le _ | decide) ?_ | refine And.intro (fun _ => ?_) (fun hz => absurd hz (by decide)) | refine And.intro (fun hz => absurd hz (by decide)) (fun _ => ?_)))
    exact x2 hP hv
  refine c_isQ1 hst hv ?_
  (repeat (first | (refine And.intro hM.1 (And.intro hM.2.1 ?_); rw [g_st hM]) | (refine And.intro hM.1 ?_; rw [fp_st hM]) | (refine And.intro hM.1 ?_; rw [fg_st hM]) | refine And.intro (by first | exact hM.1 | assumption | rfl | exact Nat.le_of_ble_eq_true rfl | exact Nat.zero_le _ | decide) ?_ | refine And.intro (fun _ => ?_) (fun hz => absurd hz (by decide)) | refine And.intro (fun hz => absurd hz (by decide)) (fun _ => ?_)))
  refine c_fails0u hst hM ?_
  (repeat (first | (refine And.intro hM.1 (And.intro hM.2.1 ?_); rw [g_st hM]) | (refine And.intro hM.1 ?_; rw [fp_st hM]) | (refine And.intro hM.1 ?_; rw [fg_st hM]) | refine And.intro (by first | exact hM.1 | assumption | rfl | exact Nat.le_of_ble_eq_true rfl | exact Nat.zero_le _ | decide) ?_ | refine And.intro (fun _ => ?_) (fun hz => absurd hz (by decide)) | refine And.intro (fun hz => absurd hz (by decide)) (fun _ => ?_)))
  refine And.intro (g3n hL9) ?_; rw [g3 hL9]
  repeat (refine And.intro (by first | assumption | rfl | exact Nat.le_of_ble_eq_true rfl | exact Nat.zero_le _ | decide) ?_)
  refine c_cpO hst hM hL9 (Or.inl rfl) (fun h1 f1 eb => ?_)
  have eb' : ∀ j, j < 359 → hI h1 (m + 3) j = N j := fun j hj => by rw [eb]; exact cpr_lt hj
  have hM1 := hM.mf f1
  have hvi : 1 ≤ v.toInt ∧ v.toInt ≤ 999 := ⟨Int32.le_iff_toInt_le.mp hv.1, Int32.le_iff_toInt_le.mp hv.2⟩
  have sn := serve_num hN g.ni.sk p1 (v := v) (by omega)
  have ge0 : 0 ≤ v - (r_serve N p v).1 := Int32.le_iff_toInt_le.mpr (by
    rw [isub_i (by omega) (by omega)]
    have e0 : (0 : Int32).toInt = 0 := rfl
    omega)
  (repeat (refine And.intro (by first | assumption | rfl | exact Nat.le_of_ble_eq_true rfl | exact Nat.zero_le _ | decide) ?_)); refine And.intro (hM1.1) ?_; (repeat (refine And.intro (by first | assumption | rfl | exact Nat.le_of_ble_eq_true rfl | exact Nat.zero_le _ | decide) ?_))
  refine c_doRequest hst hM1 p rfl p1 hN (fun hb => ?_) (fun hb hf => ?_) (fun hb => av_full g p1 (by omega) hb)
  · have hM := hM1
    repeat (first | (refine And.intro hM.1 (And.intro hM.2.1 ?_); rw [g_st hM]) | (refine And.intro hM.1 ?_; rw [fp_st hM]) | (refine And.intro hM.1 ?_; rw [fg_st hM]) | refine And.intro (by first | exact hM.1 | assumption | rfl | exact Nat.le_of_ble_eq_true rfl | exact Nat.zero_le _ | decide) ?_)
    repeat (first | (refine And.intro hM.1 (And.intro hM.2.1 ?_); rw [g_st hM]) | (refine And.intro hM.1 ?_; rw [fp_st hM]) | (refine And.intro hM.1 ?_; rw [fg_st hM]) | refine And.intro (by first | exact hM.1 | assumption | rfl | exact Nat.le_of_ble_eq_true rfl | exact Nat.zero_le _ | decide) ?_ | refine And.intro (fun _ => ?_) (fun hz => absurd hz (by decide)) | refine And.intro (fun hz => absurd hz (by decide)) (fun _ => ?_))
    refine c_fails1 hst hM ?_
    repeat (first | (refine And.intro hM.1 (And.intro hM.2.1 ?_); rw [g_st hM]) | (refine And.intro hM.1 ?_; rw [fp_st hM]) | (refine And.intro hM.1 ?_; rw [fg_st hM]) | refine And.intro (by first | exact hM.1 | assumption | rfl | exact Nat.le_of_ble_eq_true rfl | exact Nat.zero_le _ | decide) ?_ | refine And.intro (fun _ => ?_) (fun hz => absurd hz (by decide)) | refine And.intro (fun hz => absurd hz (by decide)) (fun _ => ?_))
    exact x3 p h1 rfl p1 hv hb f1
  · have hM0 := hM
    have hM := hM1
    repeat (first | (refine And.intro hM.1 (And.intro hM.2.1 ?_); rw [g_st hM]) | (refine And.intro hM.1 ?_; rw [fp_st hM]) | (refine And.intro hM.1 ?_; rw [fg_st hM]) | refine And.intro (by first | exact hM.1 | assumption | rfl | exact Nat.le_of_ble_eq_true rfl | exact Nat.zero_le _ | decide) ?_)
    refine And.intro (fun _ => ?_) (fun z => absurd ge0 z)
    repeat (first | (refine And.intro hM.1 (And.intro hM.2.1 ?_); rw [g_st hM]) | (refine And.intro hM.1 ?_; rw [fp_st hM]) | (refine And.intro hM.1 ?_; rw [fg_st hM]) | refine And.intro (by first | exact hM.1 | assumption | rfl | exact Nat.le_of_ble_eq_true rfl | exact Nat.zero_le _ | decide) ?_)
    refine c_fails0u hst hM ?_
    repeat (first | (refine And.intro hM.1 (And.intro hM.2.1 ?_); rw [g_st hM]) | (refine And.intro hM.1 ?_; rw [fp_st hM]) | (refine And.intro hM.1 ?_; rw [fg_st hM]) | refine And.intro (by first | exact hM.1 | assumption | rfl | exact Nat.le_of_ble_eq_true rfl | exact Nat.zero_le _ | decide) ?_ | refine And.intro (fun _ => ?_) (fun hz => absurd hz (by decide)) | refine And.intro (fun hz => absurd hz (by decide)) (fun _ => ?_))
    refine c_chg hst hM0 hL9 f1 eb' ((pk_un (by decide)).trans hr) r8 (fun h9 f9 => ?_)
    repeat (first | (refine And.intro hM.1 (And.intro hM.2.1 ?_); rw [g_st hM]) | (refine And.intro hM.1 ?_; rw [fp_st hM]) | (refine And.intro hM.1 ?_; rw [fg_st hM]) | refine And.intro (by first | exact hM.1 | assumption | rfl | exact Nat.le_of_ble_eq_true rfl | exact Nat.zero_le _ | decide) ?_)
    exact q p h9 rfl p1 hv hb f9
end J7

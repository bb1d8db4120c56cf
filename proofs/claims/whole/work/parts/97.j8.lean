section J8
theorem c_doGiveBackG {l : Launch} (hst : l.stackTraces = false) {Q : Option Value → Hp → Prop} {X : String → Hp → Prop} {h : Hp} {m : Nat} {F N : Nat → Int32} (hM : MdS h m) {c0 c1 c2 c3 c4 : Nat} (hN : WFc N c0 c1 c2 c3 c4) {p : Nat} {v b : Int32} (hb : ¬ b = 0) (hp : p < c0) (q : Q (some (.int (nI (r_swA (r_bkG N p v)).2))) (st h m F (r_swA (r_bkG N p v)).1)) : CX9_doGiveBack l [.ref m, .int (nI p), .int v, .int b] (st h m F N) Q X := by
  have k8 := hN.1.2
  refine eX9_doGiveBack hst (Nat.le_of_ble_eq_true rfl) (fun K => ?_)
  refine And.intro (fun z => absurd z hb) (fun _ => ?_)
  repeat (first | (refine And.intro hM.1 (And.intro hM.2.1 ?_); rw [g_st hM]) | (refine And.intro hM.1 ?_; rw [fp_st hM]) | (refine And.intro hM.1 ?_; rw [fg_st hM]) | refine And.intro (by first | exact hM.1 | assumption | rfl | exact Nat.le_of_ble_eq_true rfl | exact Nat.zero_le _ | decide) ?_)
  refine c_increase hst hM p 0 rfl rfl (by omega) ?_
  refine And.intro (fun z => absurd z hb) (fun _ => ?_)
  repeat (first | (refine And.intro hM.1 (And.intro hM.2.1 ?_); rw [g_st hM]) | (refine And.intro hM.1 ?_; rw [fp_st hM]) | (refine And.intro hM.1 ?_; rw [fg_st hM]) | refine And.intro (by first | exact hM.1 | assumption | rfl | exact Nat.le_of_ble_eq_true rfl | exact Nat.zero_le _ | decide) ?_)
  refine c_increase hst hM p 15 rfl rfl (by omega) ?_
  refine And.intro (fun z => absurd z hb) (fun _ => ?_)
  repeat (first | (refine And.intro hM.1 (And.intro hM.2.1 ?_); rw [g_st hM]) | (refine And.intro hM.1 ?_; rw [fp_st hM]) | (refine And.intro hM.1 ?_; rw [fg_st hM]) | refine And.intro (by first | exact hM.1 | assumption | rfl | exact Nat.le_of_ble_eq_true rfl | exact Nat.zero_le _ | decide) ?_)
  have wf : WFc (r_bkG N p v) c0 c1 c2 c3 c4 := hN.agree (fun i hi => bkG_o ⟨fun z => by unfold stru at hi; omega, fun z => by unfold stru at hi; omega⟩)
  refine c_serveWaitingA hst hM wf ?_
  repeat (first | (refine And.intro hM.1 (And.intro hM.2.1 ?_); rw [g_st hM]) | (refine And.intro hM.1 ?_; rw [fp_st hM]) | (refine And.intro hM.1 ?_; rw [fg_st hM]) | refine And.intro (by first | exact hM.1 | assumption | rfl | exact Nat.le_of_ble_eq_true rfl | exact Nat.zero_le _ | decide) ?_)
  exact q
theorem c_doGiveBackB {l : Launch} (hst : l.stackTraces = false) {Q : Option Value → Hp → Prop} {X : String → Hp → Prop} {h : Hp} {m : Nat} {F N : Nat → Int32} (hM : MdS h m) {c0 c1 c2 c3 c4 : Nat} (hN : WFc N c0 c1 c2 c3 c4) {p : Nat} {v : Int32} (hp : p < c0) (q : Q (some (.int 0)) (st h m F (r_bkB N p v))) : CX9_doGiveBack l [.ref m, .int (nI p), .int v, .int 0] (st h m F N) Q X := by
  have k8 := hN.1.2
  refine eX9_doGiveBack hst (Nat.le_of_ble_eq_true rfl) (fun K => ?_)
  refine And.intro (fun _ => ?_) (fun z => absurd rfl z)
  repeat (first | (refine And.intro hM.1 (And.intro hM.2.1 ?_); rw [g_st hM]) | (refine And.intro hM.1 ?_; rw [fp_st hM]) | (refine And.intro hM.1 ?_; rw [fg_st hM]) | refine And.intro (by first | exact hM.1 | assumption | rfl | exact Nat.le_of_ble_eq_true rfl | exact Nat.zero_le _ | decide) ?_)
  refine c_increase hst hM p 1 rfl rfl (by omega) ?_
  refine And.intro (fun _ => ?_) (fun z => absurd rfl z)
  repeat (first | (refine And.intro hM.1 (And.intro hM.2.1 ?_); rw [g_st hM]) | (refine And.intro hM.1 ?_; rw [fp_st hM]) | (refine And.intro hM.1 ?_; rw [fg_st hM]) | refine And.intro (by first | exact hM.1 | assumption | rfl | exact Nat.le_of_ble_eq_true rfl | exact Nat.zero_le _ | decide) ?_)
  refine c_increase hst hM p 16 rfl rfl (by omega) ?_
  refine And.intro (fun _ => ?_) (fun z => absurd rfl z)
  repeat (first | (refine And.intro hM.1 (And.intro hM.2.1 ?_); rw [g_st hM]) | (refine And.intro hM.1 ?_; rw [fp_st hM]) | (refine And.intro hM.1 ?_; rw [fg_st hM]) | refine And.intro (by first | exact hM.1 | assumption | rfl | exact Nat.le_of_ble_eq_true rfl | exact Nat.zero_le _ | decide) ?_)
  exact q
theorem k_giveBackG {l : Launch} (hst : l.stackTraces = false) {Q : Option Value → Hp → Prop} {X : String → Hp → Prop} {h : Hp} {m : Nat} {F N : Nat → Int32} (hM : MdS h m) (hL9 : MdL h m) {c0 c1 c2 c3 c4 : Nat} (hN : WFc N c0 c1 c2 c3 c4) {r : Nat} (hr : F 5 = nI r) (r8 : r ≤ 8) {P v b : Int32} (hb : ¬ b = 0) (x1 : ¬ (0 ≤ P ∧ P < nI c0) → Q (some (.int 0)) (st h m (upd F 0 1) N)) (x2 : 0 ≤ P ∧ P < nI c0 → ¬ (1 ≤ v ∧ v ≤ 999) → Q (some (.int 0)) (st h m (upd F 0 2) N)) (q : ∀ p, P = nI p → p < c0 → 1 ≤ v ∧ v ≤ 999 → Q (some (.int (nI (r_swA (r_bkG N p v)).2))) (st (hpush h m r N) m (upd (upd F 0 0) 5 (nI (pr r))) (r_swA (r_bkG N p v)).1)) : CX9_giveBack l [.ref m, .int P, .int v, .int b] (st h m F N) Q X := by
  have k8 := hN.1.2
  refine eX9_giveBack hst (Nat.le_of_ble_eq_true rfl) (fun K => ?_)
  by_cases hP : 0 ≤ P ∧ P < nI c0
  rotate_left
  · (repeat (first | (refine And.intro hM.1 (And.intro hM.2.1 ?_); rw [g_st hM]) | (refine And.intro hM.1 ?_; rw [fp_st hM]) | (refine And.intro hM.1 ?_; rw [fg_st hM]) | refine And.intro (by first | exact hM.1 | assumption | rfl | exact Nat.le_of_ble_eq_true rfl | exact Nat.zero_le _ | decide) ?_))
    refine c_isPart0 hst hM hN.1.1 hN.1.2 hP ?_
    (repeat (first | (refine And.intro hM.1 (And.intro hM.2.1 ?_); rw [g_st hM]) | (refine And.intro hM.1 ?_; rw [fp_st hM]) | (refine And.intro hM.1 ?_; rw [fg_st hM]) | refine And.intro (by first | exact hM.1 | assumption | rfl | exact Nat.le_of_ble_eq_true rfl | exact Nat.zero_le _ | decide) ?_ | refine And.intro (fun _ => ?_) (fun hz => absurd hz (by decide)) | refine And.intro (fun hz => absurd hz (by decide)) (fun _ => ?_)))
    refine c_fails1 hst hM ?_
    (repeat (first | (refine And.intro hM.1 (And.intro hM.2.1 ?_); rw [g_st hM]) | (refine And.intro hM.1 ?_; rw [fp_st hM]) | (refine And.intro hM.1 ?_; rw [fg_st hM]) | refine And.intro (by first | exact hM.1 | assumption | rfl | exact Nat.le_of_ble_eq_true rfl | exact Nat.zero_le _ | decide) ?_ | refine And.intro (fun _ => ?_) (fun hz => absurd hz (by decide)) | refine And.intro (fun hz => absurd hz (by decide)) (fun _ => ?_)))
    exact x1 hP
  obtain ⟨p, p1, p2⟩ := in9 (c := c0) (by have := hN.1.2; omega) hP
  subst p2
  (repeat (first | (refine And.intro hM.1 (And.intro hM.2.1 ?_); rw [g_st hM]) | (refine And.intro hM.1 ?_; rw [fp_st hM]) | (refine And.intro hM.1 ?_; rw [fg_st hM]) | refine And.intro (by first | exact hM.1 | assumption | rfl | exact Nat.le_of_ble_eq_true rfl | exact Nat.zero_le _ | decide) ?_))
  refine c_isPart1 hst hM hN.1.1 hN.1.2 p1 ?_
  (repeat (first | (refine And.intro hM.1 (And.intro hM.2.1 ?_); rw [g_st hM]) | (refine And.intro hM.1 ?_; rw [fp_st hM]) | (refine And.intro hM.1 ?_; rw [fg_st hM]) | refine And.intro (by first | exact hM.1 | assumption | rfl | exact Nat.le_of_ble_eq_true rfl | exact Nat.zero_le _ | decide) ?_ | refine And.intro (fun _ => ?_) (fun hz => absurd hz (by decide)) | refine And.intro (fun hz => absurd hz (by decide)) (fun _ => ?_)))
  refine c_fails0 hst hM ?_
  (repeat (first | (refine And.intro hM.1 (And.intro hM.2.1 ?_); rw [g_st hM]) | (refine And.intro hM.1 ?_; rw [fp_st hM]) | (refine And.intro hM.1 ?_; rw [fg_st hM]) | refine And.intro (by first | exact hM.1 | assumption | rfl | exact Nat.le_of_ble_eq_true rfl | exact Nat.zero_le _ | decide) ?_ | refine And.intro (fun _ => ?_) (fun hz => absurd hz (by decide)) | refine And.intro (fun hz => absurd hz (by decide)) (fun _ => ?_)))
  by_cases hv : 1 ≤ v ∧ v ≤ 999
  rotate_left
  · refine c_isQ0 hst hv ?_
    (repeat (first | (refine And.intro hM.1 (And.intro hM.2.1 ?_); rw [g_st hM]) | (refine And.intro hM.1 ?_; rw [fp_st hM]) | (refine And.intro hM.1 ?_; rw [fg_st hM]) | refine And.intro (by first | exact hM.1 | assumption | rfl | exact Nat.le_of_ble_eq_true rfl | exact Nat.zero_le _ | decide) ?_ | refine And.intro (fun _ => ?_) (fun hz => absurd hz (by decide)) | refine And.intro (fun hz => absurd hz (by decide)) (fun _ => ?_)))
    refine c_fails1u hst hM ?_
    (repeat (first | (refine And.intro hM.1 (And.intro hM.2.1 ?_); rw [g_st hM]) | (refine And.intro hM.1 ?_; rw [fp_st hM]) | (refine And.intro hM.1 ?_; rw [fg_st hM]) | refine And.intro (by first | exact hM.1 | assumption | rfl | exact Nat.le_of_ble_eq_true rfl | exact Nat.zero_le _ | decide) ?_ | refine And.intro (fun _ => ?_) (fun hz => absurd hz (by decide)) | refine And.intro (fun hz => absurd hz (by decide)) (fun _ => ?_)))
    exact x2 hP hv
  refine c_isQ1 hst hv ?_
  (repeat (first | (refine And.intro hM.1 (And.intro hM.2.1 ?_); rw [g_st hM]) | (refine And.intro hM.1 ?_; rw [fp_st hM]) | (refine And.intro hM.1 ?_; rw [fg_st hM]) | refine And.intro (by first | exact hM.1 | assumption | rfl | exact Nat.le_of_ble_eq_true rfl | exact Nat.zero_le _ | decide) ?_ | refine And.intro (fun _ => ?_) (fun hz => absurd hz (by decide)) | refine And.intro (fun hz => absurd hz (by decide)) (fun _ => ?_)))
  refine c_fails0u hst hM ?_
  (repeat (first | (refine And.intro hM.1 (And.intro hM.2.1 ?_); rw [g_st hM]) | (refine And.intro hM.1 ?_; rw [fp_st hM]) | (refine And.intro hM.1 ?_; rw [fg_st hM]) | refine And.intro (by first | exact hM.1 | assumption | rfl | exact Nat.le_of_ble_eq_true rfl | exact Nat.zero_le _ | decide) ?_ | refine And.intro (fun _ => ?_) (fun hz => absurd hz (by decide)) | refine And.intro (fun hz => absurd hz (by decide)) (fun _ => ?_)))
  refine c_remember hst hM hL9 (F := upd F 0 0) ((pk_un (by decide)).trans hr) r8 ?_
  have hM : MdS (hpush h m r N) m := hM.push
  (repeat (first | (refine And.intro hM.1 (And.intro hM.2.1 ?_); rw [g_st hM]) | (refine And.intro hM.1 ?_; rw [fp_st hM]) | (refine And.intro hM.1 ?_; rw [fg_st hM]) | refine And.intro (by first | exact hM.1 | assumption | rfl | exact Nat.le_of_ble_eq_true rfl | exact Nat.zero_le _ | decide) ?_))
  refine c_doGiveBackG hst hM hN hb p1 ?_
  repeat (first | (refine And.intro hM.1 (And.intro hM.2.1 ?_); rw [g_st hM]) | (refine And.intro hM.1 ?_; rw [fp_st hM]) | (refine And.intro hM.1 ?_; rw [fg_st hM]) | refine And.intro (by first | exact hM.1 | assumption | rfl | exact Nat.le_of_ble_eq_true rfl | exact Nat.zero_le _ | decide) ?_)
  exact q p rfl p1 hv
theorem k_giveBackB {l : Launch} (hst : l.stackTraces = false) {Q : Option Value → Hp → Prop} {X : String → Hp → Prop} {h : Hp} {m : Nat} {F N : Nat → Int32} (hM : MdS h m) (hL9 : MdL h m) {c0 c1 c2 c3 c4 : Nat} (hN : WFc N c0 c1 c2 c3 c4) {r : Nat} (hr : F 5 = nI r) (r8 : r ≤ 8) {P v : Int32} (x1 : ¬ (0 ≤ P ∧ P < nI c0) → Q (some (.int 0)) (st h m (upd F 0 1) N)) (x2 : 0 ≤ P ∧ P < nI c0 → ¬ (1 ≤ v ∧ v ≤ 999) → Q (some (.int 0)) (st h m (upd F 0 2) N)) (q : ∀ p, P = nI p → p < c0 → 1 ≤ v ∧ v ≤ 999 → Q (some (.int 0)) (st (hpush h m r N) m (upd (upd F 0 0) 5 (nI (pr r))) (r_bkB N p v))) : CX9_giveBack l [.ref m, .int P, .int v, .int 0] (st h m F N) Q X := by
  have k8 := hN.1.2
  refine eX9_giveBack hst (Nat.le_of_ble_eq_true rfl) (fun K => ?_)
  by_cases hP : 0 ≤ P ∧ P < nI c0
  rotate_left
  · (repeat (first | (refine And.intro hM.1 (And.intro hM.2.1 ?_); rw [g_st hM]) | (refine And.intro hM.1 ?_; rw [fp_st hM]) | (refine And.intro hM.1 ?_; rw [fg_st hM]) | refine And.intro (by first | exact hM.1 | assumption | rfl | exact Nat.le_of_ble_eq_true rfl | exact Nat.zero_le _ | decide) ?_))
    refine c_isPart0 hst hM hN.1.1 hN.1.2 hP ?_
    (repeat (first | (refine And.intro hM.1 (And.intro hM.2.1 ?_); rw [g_st hM]) | (refine And.intro hM.1 ?_; rw [fp_st hM]) | (refine And.intro hM.1 ?_; rw [fg_st hM]) | refine And.intro (by first | exact hM.1 | assumption | rfl | exact Nat.le_of_ble_eq_true rfl | exact Nat.zero_le _ | decide) ?_ | refine And.intro (fun _ => ?_) (fun hz => absurd hz (by decide)) | refine And.intro (fun hz => absurd hz (by decide)) (fun _ => ?_)))
    refine c_fails1 hst hM ?_
    (repeat (first | (refine And.intro hM.1 (And.intro hM.2.1 ?_); rw [g_st hM]) | (refine And.intro hM.1 ?_; rw [fp_st hM]) | (refine And.intro hM.1 ?_; rw [fg_st hM]) | refine And.intro (by first | exact hM.1 | assumption | rfl | exact Nat.le_of_ble_eq_true rfl | exact Nat.zero_le _ | decide) ?_ | refine And.intro (fun _ => ?_) (fun hz => absurd hz (by decide)) | refine And.intro (fun hz => absurd hz (by decide)) (fun _ => ?_)))
    exact x1 hP
  obtain ⟨p, p1, p2⟩ := in9 (c := c0) (by have := hN.1.2; omega) hP
  subst p2
  (repeat (first | (refine And.intro hM.1 (And.intro hM.2.1 ?_); rw [g_st hM]) | (refine And.intro hM.1 ?_; rw [fp_st hM]) | (refine And.intro hM.1 ?_; rw [fg_st hM]) | refine And.intro (by first | exact hM.1 | assumption | rfl | exact Nat.le_of_ble_eq_true rfl | exact Nat.zero_le _ | decide) ?_))
  refine c_isPart1 hst hM hN.1.1 hN.1.2 p1 ?_
  (repeat (first | (refine And.intro hM.1 (And.intro hM.2.1 ?_); rw [g_st hM]) | (refine And.intro hM.1 ?_; rw [fp_st hM]) | (refine And.intro hM.1 ?_; rw [fg_st hM]) | refine And.intro (by first | exact hM.1 | assumption | rfl | exact Nat.le_of_ble_eq_true rfl | exact Nat.zero_le _ | decide) ?_ | refine And.intro (fun _ => ?_) (fun hz => absurd hz (by decide)) | refine And.intro (fun hz => absurd hz (by decide)) (fun _ => ?_)))
  refine c_fails0 hst hM ?_
  (repeat (first | (refine And.intro hM.1 (And.intro hM.2.1 ?_); rw [g_st hM]) | (refine And.intro hM.1 ?_; rw [fp_st hM]) | (refine And.intro hM.1 ?_; rw [fg_st hM]) | refine And.intro (by first | exact hM.1 | assumption | rfl | exact Nat.le_of_ble_eq_true rfl | exact Nat.zero_le _ | decide) ?_ | refine And.intro (fun _ => ?_) (fun hz => absurd hz (by decide)) | refine And.intro (fun hz => absurd hz (by decide)) (fun _ => ?_)))
  by_cases hv : 1 ≤ v ∧ v ≤ 999
  rotate_left
  · refine c_isQ0 hst hv ?_
    (repeat (first | (refine And.intro hM.1 (And.intro hM.2.1 ?_); rw [g_st hM]) | (refine And.intro hM.1 ?_; rw [fp_st hM]) | (refine And.intro hM.1 ?_; rw [fg_st hM]) | refine And.intro (by first | exact hM.1 | assumption | rfl | exact Nat.le_of_ble_eq_true rfl | exact Nat.zero_le _ | decide) ?_ | refine And.intro (fun _ => ?_) (fun hz => absurd hz (by decide)) | refine And.intro (fun hz => absurd hz (by decide)) (fun _ => ?_)))
    refine c_fails1u hst hM ?_
    (repeat (first | (refine And.intro hM.1 (And.intro hM.2.1 ?_); rw [g_st hM]) | (refine And.intro hM.1 ?_; rw [fp_st hM]) | (refine And.intro hM.1 ?_; rw [fg_st hM]) | refine And.intro (by first | exact hM.1 | assumption | rfl | exact Nat.le_of_ble_eq_true rfl | exact Nat.zero_le _ | decide) ?_ | refine And.intro (fun _ => ?_) (fun hz => absurd hz (by decide)) | refine And.intro (fun hz => absurd hz (by decide)) (fun _ => ?_)))
    exact x2 hP hv
  refine c_isQ1 hst hv ?_
  (repeat (first | (refine And.intro hM.1 (And.intro hM.2.1 ?_); rw [g_st hM]) | (refine And.intro hM.1 ?_; rw [fp_st hM]) | (refine And.intro hM.1 ?_; rw [fg_st hM]) | refine And.intro (by first | exact hM.1 | assumption | rfl | exact Nat.le_of_ble_eq_true rfl | exact Nat.zero_le _ | decide) ?_ | refine And.intro (fun _ => ?_) (fun hz => absurd hz (by decide)) | refine And.intro (fun hz => absurd hz (by decide)) (fun _ => ?_)))
  refine c_fails0u hst hM ?_
  (repeat (first | (refine And.intro hM.1 (And.intro hM.2.1 ?_); rw [g_st hM]) | (refine And.intro hM.1 ?_; rw [fp_st hM]) | (refine And.intro hM.1 ?_; rw [fg_st hM]) | refine And.intro (by first | exact hM.1 | assumption | rfl | exact Nat.le_of_ble_eq_true rfl | exact Nat.zero_le _ | decide) ?_ | refine And.intro (fun _ => ?_) (fun hz => absurd hz (by decide)) | refine And.intro (fun hz => absurd hz (by decide)) (fun _ => ?_)))
  refine c_remember hst hM hL9 (F := upd F 0 0) ((pk_un (by decide)).trans hr) r8 ?_
  have hM : MdS (hpush h m r N) m := hM.push
  (repeat (first | (refine And.intro hM.1 (And.intro hM.2.1 ?_); rw [g_st hM]) | (refine And.intro hM.1 ?_; rw [fp_st hM]) | (refine And.intro hM.1 ?_; rw [fg_st hM]) | refine And.intro (by first | exact hM.1 | assumption | rfl | exact Nat.le_of_ble_eq_true rfl | exact Nat.zero_le _ | decide) ?_))
  refine c_doGiveBackB hst hM hN p1 ?_
  repeat (first | (refine And.intro hM.1 (And.intro hM.2.1 ?_); rw [g_st hM]) | (refine And.intro hM.1 ?_; rw [fp_st hM]) | (refine And.intro hM.1 ?_; rw [fg_st hM]) | refine And.intro (by first | exact hM.1 | assumption | rfl | exact Nat.le_of_ble_eq_true rfl | exact Nat.zero_le _ | decide) ?_)
  exact q p rfl p1 hv
theorem c_doSend {l : Launch} (hst : l.stackTraces = false) {Q : Option Value → Hp → Prop} {X : String → Hp → Prop} {h : Hp} {m : Nat} {F N : Nat → Int32} (hM : MdS h m) {c0 c1 c2 c3 c4 : Nat} (hN : WFc N c0 c1 c2 c3 c4) {p : Nat} {v : Int32} (hp : p < c0) (q2 : N (7 + p * 23 + 1) < v → Q (some (.int (-2))) (st h m (upd F 7 2) N)) (q1 : ¬ N (7 + p * 23 + 1) < v → c3 = 12 → Q (some (.int (-1))) (st h m (upd F 7 1) N)) (q : ¬ N (7 + p * 23 + 1) < v → c3 < 12 → Q (some (.int (N 5 + N (7 + p * 23 + 5)))) (st h m F (r_send N p v c3))) : CX9_doSend l [.ref m, .int (nI p), .int v] (st h m F N) Q X := by
  have k8 := hN.1.2
  have k3 := hN.2.2.2.1
  refine eX9_doSend hst (Nat.le_of_ble_eq_true rfl) (fun K => ?_)
  repeat (first | (refine And.intro hM.1 (And.intro hM.2.1 ?_); rw [g_st hM]) | (refine And.intro hM.1 ?_; rw [fp_st hM]) | (refine And.intro hM.1 ?_; rw [fg_st hM]) | refine And.intro (by first | exact hM.1 | assumption | rfl | exact Nat.le_of_ble_eq_true rfl | exact Nat.zero_le _ | decide) ?_)
  refine c_of hst hM p 1 rfl rfl (by omega) ?_
  have bad : (N (7 + p * 23 + 1) < v ∨ c3 = 12) → fX9_doSend_21 l Q X K (lv_args 0 [.ref m, .int (nI p), .int v]) [] (st h m F N) (0, 0) := by
    intro hb
    repeat (first | (refine And.intro hM.1 (And.intro hM.2.1 ?_); rw [g_st hM]) | (refine And.intro hM.1 ?_; rw [fp_st hM]) | (refine And.intro hM.1 ?_; rw [fg_st hM]) | refine And.intro (by first | exact hM.1 | assumption | rfl | exact Nat.le_of_ble_eq_true rfl | exact Nat.zero_le _ | decide) ?_)
    refine c_of hst hM p 1 rfl rfl (by omega) ?_
    refine And.intro (fun h1 => ?_) (fun h1 => ?_)
    · repeat (first | (refine And.intro hM.1 (And.intro hM.2.1 ?_); rw [g_st hM]) | (refine And.intro hM.1 ?_; rw [fp_st hM]) | (refine And.intro hM.1 ?_; rw [fg_st hM]) | refine And.intro (by first | exact hM.1 | assumption | rfl | exact Nat.le_of_ble_eq_true rfl | exact Nat.zero_le _ | decide) ?_)
      refine c_keepReason hst hM ?_
      repeat (first | (refine And.intro hM.1 (And.intro hM.2.1 ?_); rw [g_st hM]) | (refine And.intro hM.1 ?_; rw [fp_st hM]) | (refine And.intro hM.1 ?_; rw [fg_st hM]) | refine And.intro (by first | exact hM.1 | assumption | rfl | exact Nat.le_of_ble_eq_true rfl | exact Nat.zero_le _ | decide) ?_)
      have h1' : ¬ N (7 + p * 23 + 1) < v := Int32.not_lt.mpr h1
      exact q1 h1' (hb.resolve_left h1')
    · repeat (first | (refine And.intro hM.1 (And.intro hM.2.1 ?_); rw [g_st hM]) | (refine And.intro hM.1 ?_; rw [fp_st hM]) | (refine And.intro hM.1 ?_; rw [fg_st hM]) | refine And.intro (by first | exact hM.1 | assumption | rfl | exact Nat.le_of_ble_eq_true rfl | exact Nat.zero_le _ | decide) ?_)
      refine c_keepReason hst hM ?_
      repeat (first | (refine And.intro hM.1 (And.intro hM.2.1 ?_); rw [g_st hM]) | (refine And.intro hM.1 ?_; rw [fp_st hM]) | (refine And.intro hM.1 ?_; rw [fg_st hM]) | refine And.intro (by first | exact hM.1 | assumption | rfl | exact Nat.le_of_ble_eq_true rfl | exact Nat.zero_le _ | decide) ?_)
      exact q2 (Int32.not_le.mp h1)
  refine And.intro (fun h1 => ?_) (fun h1 => ?_)
  · exact bad (Or.inl h1)
  · repeat (first | (refine And.intro hM.1 (And.intro hM.2.1 ?_); rw [g_st hM]) | (refine And.intro hM.1 ?_; rw [fp_st hM]) | (refine And.intro hM.1 ?_; rw [fg_st hM]) | refine And.intro (by first | exact hM.1 | assumption | rfl | exact Nat.le_of_ble_eq_true rfl | exact Nat.zero_le _ | decide) ?_)
    refine And.intro (k20 hM) (And.intro (vin hM (x := (3 : Int32)) (i := 3) rfl (by decide)) ?_); rw [ld_st hM (x := (3 : Int32)) (i := 3) rfl (by decide)]
    rw [k3.1]
    refine And.intro (fun hne => ?_) (fun he => ?_)
    · have h3 : c3 < 12 := by
        have : c3 ≠ 12 := fun z => hne (by rw [z]; rfl)
        omega
      have fin := q h1 h3
      repeat (first | (refine And.intro hM.1 (And.intro hM.2.1 ?_); rw [g_st hM]) | (refine And.intro hM.1 ?_; rw [fp_st hM]) | (refine And.intro hM.1 ?_; rw [fg_st hM]) | refine And.intro (by first | exact hM.1 | assumption | rfl | exact Nat.le_of_ble_eq_true rfl | exact Nat.zero_le _ | decide) ?_)
      refine And.intro (k20 hM) (And.intro (vin hM (x := (5 : Int32)) (i := 5) rfl (by decide)) ?_); rw [ld_st hM (x := (5 : Int32)) (i := 5) rfl (by decide)]
      repeat (first | (refine And.intro hM.1 (And.intro hM.2.1 ?_); rw [g_st hM]) | (refine And.intro hM.1 ?_; rw [fp_st hM]) | (refine And.intro hM.1 ?_; rw [fg_st hM]) | refine And.intro (by first | exact hM.1 | assumption | rfl | exact Nat.le_of_ble_eq_true rfl | exact Nat.zero_le _ | decide) ?_)
      refine c_of hst hM p 5 rfl rfl (by omega) ?_
      repeat (first | (refine And.intro hM.1 (And.intro hM.2.1 ?_); rw [g_st hM]) | (refine And.intro hM.1 ?_; rw [fp_st hM]) | (refine And.intro hM.1 ?_; rw [fg_st hM]) | refine And.intro (by first | exact hM.1 | assumption | rfl | exact Nat.le_of_ble_eq_true rfl | exact Nat.zero_le _ | decide) ?_)
      refine c_increase hst hM p 1 rfl rfl (by omega) ?_
      repeat (first | (refine And.intro hM.1 (And.intro hM.2.1 ?_); rw [g_st hM]) | (refine And.intro hM.1 ?_; rw [fp_st hM]) | (refine And.intro hM.1 ?_; rw [fg_st hM]) | refine And.intro (by first | exact hM.1 | assumption | rfl | exact Nat.le_of_ble_eq_true rfl | exact Nat.zero_le _ | decide) ?_)
      refine c_increase hst hM p 17 rfl rfl (by omega) ?_
      repeat (first | (refine And.intro hM.1 (And.intro hM.2.1 ?_); rw [g_st hM]) | (refine And.intro hM.1 ?_; rw [fp_st hM]) | (refine And.intro hM.1 ?_; rw [fg_st hM]) | refine And.intro (by first | exact hM.1 | assumption | rfl | exact Nat.le_of_ble_eq_true rfl | exact Nat.zero_le _ | decide) ?_)
      refine c_start hst hM 287 3 c3 rfl rfl (by decide) (by decide) ?_ (by omega) ?_
      · rw [pk_un (by omega), pk_un (by omega)]; exact k3.1
      repeat (first | (refine And.intro hM.1 (And.intro hM.2.1 ?_); rw [g_st hM]) | (refine And.intro hM.1 ?_; rw [fp_st hM]) | (refine And.intro hM.1 ?_; rw [fg_st hM]) | refine And.intro (by first | exact hM.1 | assumption | rfl | exact Nat.le_of_ble_eq_true rfl | exact Nat.zero_le _ | decide) ?_)
      exact fin
    · exact bad (Or.inr ((nI_eq (by omega) (by decide)).mp (show nI c3 = nI 12 from he)))
theorem k_send {l : Launch} (hst : l.stackTraces = false) {Q : Option Value → Hp → Prop} {X : String → Hp → Prop} {h : Hp} {m : Nat} {F N : Nat → Int32} (hM : MdS h m) (hL9 : MdL h m) {c0 c1 c2 c3 c4 : Nat} {B : Int} (g : GI N c0 c1 c2 c3 c4 B) {r : Nat} (hr : F 5 = nI r) (r8 : r ≤ 8) {P v : Int32} (x1 : ¬ (0 ≤ P ∧ P < nI c0) → Q (some (.int 0)) (st h m (upd F 0 1) N)) (x2 : 0 ≤ P ∧ P < nI c0 → ¬ (1 ≤ v ∧ v ≤ 999) → Q (some (.int 0)) (st h m (upd F 0 2) N)) (x3 : ∀ p h', P = nI p → p < c0 → 1 ≤ v ∧ v ≤ 999 → N (7 + p * 23 + 1) < v → Mf m h h' → Q (some (.int 0)) (st h' m (upd (upd (upd F 0 0) 7 2) 0 3) N)) (x4 : ∀ p h', P = nI p → p < c0 → 1 ≤ v ∧ v ≤ 999 → ¬ N (7 + p * 23 + 1) < v → c3 = 12 → Mf m h h' → Q (some (.int 0)) (st h' m (upd (upd (upd F 0 0) 7 1) 0 4) N)) (q : ∀ p h', P = nI p → p < c0 → 1 ≤ v ∧ v ≤ 999 → ¬ N (7 + p * 23 + 1) < v → c3 < 12 → Mf m (hpush h m r N) h' → Q (some (.int (N 5 + N (7 + p * 23 + 5)))) (st h' m (upd (upd F 0 0) 5 (nI (pr r))) (r_send N p v c3))) (hret : ∀ p, p < c0 → ¬ (N 5 + N (7 + p * 23 + 5) = -1) ∧ ¬ (N 5 + N (7 + p * 23 + 5) = -2)) : CX9_send l [.ref m, .int P, .int v] (st h m F N) Q X := by
  have hN := g.wf
  have k8 := hN.1.2
  refine eX9_send hst (Nat.le_of_ble_eq_true rfl) (fun K => ?_)
  by_cases hP : 0 ≤ P ∧ P < nI c0
  rotate_left
  · (repeat (first | (refine And.intro hM.1 (And.intro hM.2.1 ?_); rw [g_st hM]) | (refine And.intro hM.1 ?_; rw [fp_st hM]) | (refine And.intro hM.1 ?_; rw [fg_st hM]) | refine And.intro (by first | exact hM.1 | assumption | rfl | exact Nat.le_of_ble_eq_true rfl | exact Nat.zero_le _ | decide) ?_))
    refine c_isPart0 hst hM hN.1.1 hN.1.2 hP ?_
    (repeat (first | (refine And.intro hM.1 (And.intro hM.2.1 ?_); rw [g_st hM]) | (refine And.intro hM.1 ?_; rw [fp_st hM]) | (refine And.intro hM.1 ?_; rw [fg_st hM]) | refine And.intro (by first | exact hM.1 | assumption | rfl | exact Nat.le_of_ble_eq_true rfl | exact Nat.zero_le _ | decide) ?_ | refine And.intro (fun _ => ?_) (fun hz => absurd hz (by decide)) | refine And.intro (fun hz => absurd hz (by decide)) (fun _ => ?_)))
    refine c_fails1 hst hM ?_
    (repeat (first | (refine And.intro hM.1 (And.intro hM.2.1 ?_); rw [g_st hM]) | (refine And.intro hM.1 ?_; rw [fp_st hM]) | (refine And.intro hM.1 ?_; rw [fg_st hM]) | refine And.intro (by first | exact hM.1 | assumption | rfl | exact Nat.le_of_ble_eq_true rfl | exact Nat.zero_le _ | decide) ?_ | refine And.intro (fun _ => ?_) (fun hz => absurd hz (by decide)) | refine And.intro (fun hz => absurd hz (by decide)) (fun _ => ?_)))
    exact x1 hP
  obtain ⟨p, p1, p2⟩ := in9 (c := c0) (by have := hN.1.2; omega) hP
  subst p2
  (repeat (first | (refine And.intro hM.1 (And.intro hM.2.1 ?_); rw [g_st hM]) | (refine And.intro hM.1 ?_; rw [fp_st hM]) | (refine And.intro hM.1 ?_; rw [fg_st hM]) | refine And.intro (by first | exact hM.1 | assumption | rfl | exact Nat.le_of_ble_eq_true rfl | exact Nat.zero_le _ | decide) ?_))
  refine c_isPart1 hst hM hN.1.1 hN.1.2 p1 ?_
  (repeat (first | (refine And.intro hM.1 (And.intro hM.2.1 ?_); rw [g_st hM]) | (refine And.intro hM.1 ?_; rw [fp_st hM]) | (refine And.intro hM.1 ?_; rw [fg_st hM]) | refine And.intro (by first | exact hM.1 | assumption | rfl | exact Nat.le_of_ble_eq_true rfl | exact Nat.zero_le _ | decide) ?_ | refine And.intro (fun _ => ?_) (fun hz => absurd hz (by decide)) | refine And.intro (fun hz => absurd hz (by decide)) (fun _ => ?_)))
  refine c_fails0 hst hM ?_
  (repeat (first | (refine And.intro hM.1 (And.intro hM.2.1 ?_); rw [g_st hM]) | (refine And.intro hM.1 ?_; rw [fp_st hM]) | (refine And.intro hM.1 ?_; rw [fg_st hM]) | refine And.intro (by first | exact hM.1 | assumption | rfl | exact Nat.le_of_ble_eq_true rfl | exact Nat.zero_le _ | decide) ?_ | refine And.intro (fun _ => ?_) (fun hz => absurd hz (by decide)) | refine And.intro (fun hz => absurd hz (by decide)) (fun _ => ?_)))
  by_cases hv : 1 ≤ v ∧ v ≤ 999
  rotate_left
  · refine c_isQ0 hst hv ?_
    (repeat (first | (refine And.intro hM.1 (And.intro hM.2.1 ?_); rw [g_st hM]) | (refine And.intro hM.1 ?_; rw [fp_st hM]) | (refine And.intro hM.1 ?_; rw [fg_st hM]) | refine And.intro (by first | exact hM.1 | assumption | rfl | exact Nat.le_of_ble_eq_true rfl | exact Nat.zero_le _ | decide) ?_ | refine And.intro (fun _ => ?_) (fun hz => absurd hz (by decide)) | refine And.intro (fun hz => absurd hz (by decide)) (fun _ => ?_)))
    refine c_fails1u hst hM ?_
    (repeat (first | (refine And.intro hM.1 (And.intro hM.2.1 ?_); rw [g_st hM]) | (refine And.intro hM.1 ?_; rw [fp_st hM]) | (refine And.intro hM.1 ?_; rw [fg_st hM]) | refine And.intro (by first | exact hM.1 | assumption | rfl | exact Nat.le_of_ble_eq_true rfl | exact Nat.zero_le _ | decide) ?_ | refine And.intro (fun _ => ?_) (fun hz => absurd hz (by decide)) | refine And.intro (fun hz => absurd hz (by decide)) (fun _ => ?_)))
    exact x2 hP hv
  refine c_isQ1 hst hv ?_
  (repeat (first | (refine And.intro hM.1 (And.intro hM.2.1 ?_); rw [g_st hM]) | (refine And.intro hM.1 ?_; rw [fp_st hM]) | (refine And.intro hM.1 ?_; rw [fg_st hM]) | refine And.intro (by first | exact hM.1 | assumption | rfl | exact Nat.le_of_ble_eq_true rfl | exact Nat.zero_le _ | decide) ?_ | refine And.intro (fun _ => ?_) (fun hz => absurd hz (by decide)) | refine And.intro (fun hz => absurd hz (by decide)) (fun _ => ?_)))
  refine c_fails0u hst hM ?_
  (repeat (first | (refine And.intro hM.1 (And.intro hM.2.1 ?_); rw [g_st hM]) | (refine And.intro hM.1 ?_; rw [fp_st hM]) | (refine And.intro hM.1 ?_; rw [fg_st hM]) | refine And.intro (by first | exact hM.1 | assumption | rfl | exact Nat.le_of_ble_eq_true rfl | exact Nat.zero_le _ | decide) ?_ | refine And.intro (fun _ => ?_) (fun hz => absurd hz (by decide)) | refine And.intro (fun hz => absurd hz (by decide)) (fun _ => ?_)))
  refine And.intro (g3n hL9) ?_; rw [g3 hL9]
  repeat (refine And.intro (by first | assumption | rfl | exact Nat.le_of_ble_eq_true rfl | exact Nat.zero_le _ | decide) ?_)
  refine c_cpO hst hM hL9 (Or.inl rfl) (fun h1 f1 eb => ?_)
  have eb' : ∀ j, j < 359 → hI h1 (m + 3) j = N j := fun j hj => by rw [eb]; exact cpr_lt hj
  have hM1 := hM.mf f1
  (repeat (refine And.intro (by first | assumption | rfl | exact Nat.le_of_ble_eq_true rfl | exact Nat.zero_le _ | decide) ?_)); refine And.intro (hM1.1) ?_; (repeat (refine And.intro (by first | assumption | rfl | exact Nat.le_of_ble_eq_true rfl | exact Nat.zero_le _ | decide) ?_))
  refine c_doSend hst hM1 hN p1 (fun hb => ?_) (fun hb h3 => ?_) (fun hb h3 => ?_)
  · have hM := hM1
    repeat (first | (refine And.intro hM.1 (And.intro hM.2.1 ?_); rw [g_st hM]) | (refine And.intro hM.1 ?_; rw [fp_st hM]) | (refine And.intro hM.1 ?_; rw [fg_st hM]) | refine And.intro (by first | exact hM.1 | assumption | rfl | exact Nat.le_of_ble_eq_true rfl | exact Nat.zero_le _ | decide) ?_)
    refine And.intro (fun z => absurd rfl z) (fun _ => ?_)
    repeat (first | (refine And.intro hM.1 (And.intro hM.2.1 ?_); rw [g_st hM]) | (refine And.intro hM.1 ?_; rw [fp_st hM]) | (refine And.intro hM.1 ?_; rw [fg_st hM]) | refine And.intro (by first | exact hM.1 | assumption | rfl | exact Nat.le_of_ble_eq_true rfl | exact Nat.zero_le _ | decide) ?_)
    refine c_fails1 hst hM ?_
    repeat (first | (refine And.intro hM.1 (And.intro hM.2.1 ?_); rw [g_st hM]) | (refine And.intro hM.1 ?_; rw [fp_st hM]) | (refine And.intro hM.1 ?_; rw [fg_st hM]) | refine And.intro (by first | exact hM.1 | assumption | rfl | exact Nat.le_of_ble_eq_true rfl | exact Nat.zero_le _ | decide) ?_ | refine And.intro (fun _ => ?_) (fun hz => absurd hz (by decide)) | refine And.intro (fun hz => absurd hz (by decide)) (fun _ => ?_))
    exact x3 p h1 rfl p1 hv hb f1
  · have hM := hM1
    repeat (first | (refine And.intro hM.1 (And.intro hM.2.1 ?_); rw [g_st hM]) | (refine And.intro hM.1 ?_; rw [fp_st hM]) | (refine And.intro hM.1 ?_; rw [fg_st hM]) | refine And.intro (by first | exact hM.1 | assumption | rfl | exact Nat.le_of_ble_eq_true rfl | exact Nat.zero_le _ | decide) ?_)
    refine And.intro (fun _ => ?_) (fun z => absurd z (by decide))
    repeat (first | (refine And.intro hM.1 (And.intro hM.2.1 ?_); rw [g_st hM]) | (refine And.intro hM.1 ?_; rw [fp_st hM]) | (refine And.intro hM.1 ?_; rw [fg_st hM]) | refine And.intro (by first | exact hM.1 | assumption | rfl | exact Nat.le_of_ble_eq_true rfl | exact Nat.zero_le _ | decide) ?_)
    refine c_fails0 hst hM ?_
    repeat (first | (refine And.intro hM.1 (And.intro hM.2.1 ?_); rw [g_st hM]) | (refine And.intro hM.1 ?_; rw [fp_st hM]) | (refine And.intro hM.1 ?_; rw [fg_st hM]) | refine And.intro (by first | exact hM.1 | assumption | rfl | exact Nat.le_of_ble_eq_true rfl | exact Nat.zero_le _ | decide) ?_ | refine And.intro (fun _ => ?_) (fun hz => absurd hz (by decide)) | refine And.intro (fun hz => absurd hz (by decide)) (fun _ => ?_))
    refine c_fails1 hst hM ?_
    repeat (first | (refine And.intro hM.1 (And.intro hM.2.1 ?_); rw [g_st hM]) | (refine And.intro hM.1 ?_; rw [fp_st hM]) | (refine And.intro hM.1 ?_; rw [fg_st hM]) | refine And.intro (by first | exact hM.1 | assumption | rfl | exact Nat.le_of_ble_eq_true rfl | exact Nat.zero_le _ | decide) ?_ | refine And.intro (fun _ => ?_) (fun hz => absurd hz (by decide)) | refine And.intro (fun hz => absurd hz (by decide)) (fun _ => ?_))
    have fin := x4 p h1 rfl p1 hv hb h3 f1
    rw [show upd (upd (upd (upd F 0 0) 7 1) 0 0) 0 4 = upd (upd (upd F 0 0) 7 1) 0 4 from upd_upd _ _ _ _]
    exact fin
  · have hM0 := hM
    have hM := hM1
    obtain ⟨r1, r2⟩ := hret p p1
    repeat (first | (refine And.intro hM.1 (And.intro hM.2.1 ?_); rw [g_st hM]) | (refine And.intro hM.1 ?_; rw [fp_st hM]) | (refine And.intro hM.1 ?_; rw [fg_st hM]) | refine And.intro (by first | exact hM.1 | assumption | rfl | exact Nat.le_of_ble_eq_true rfl | exact Nat.zero_le _ | decide) ?_)
    refine And.intro (fun _ => ?_) (fun z => absurd z r2)
    repeat (first | (refine And.intro hM.1 (And.intro hM.2.1 ?_); rw [g_st hM]) | (refine And.intro hM.1 ?_; rw [fp_st hM]) | (refine And.intro hM.1 ?_; rw [fg_st hM]) | refine And.intro (by first | exact hM.1 | assumption | rfl | exact Nat.le_of_ble_eq_true rfl | exact Nat.zero_le _ | decide) ?_)
    refine c_fails0u hst hM ?_
    repeat (first | (refine And.intro hM.1 (And.intro hM.2.1 ?_); rw [g_st hM]) | (refine And.intro hM.1 ?_; rw [fp_st hM]) | (refine And.intro hM.1 ?_; rw [fg_st hM]) | refine And.intro (by first | exact hM.1 | assumption | rfl | exact Nat.le_of_ble_eq_true rfl | exact Nat.zero_le _ | decide) ?_ | refine And.intro (fun _ => ?_) (fun hz => absurd hz (by decide)) | refine And.intro (fun hz => absurd hz (by decide)) (fun _ => ?_))
    refine And.intro (fun _ => ?_) (fun z => absurd z r1)
    repeat (first | (refine And.intro hM.1 (And.intro hM.2.1 ?_); rw [g_st hM]) | (refine And.intro hM.1 ?_; rw [fp_st hM]) | (refine And.intro hM.1 ?_; rw [fg_st hM]) | refine And.intro (by first | exact hM.1 | assumption | rfl | exact Nat.le_of_ble_eq_true rfl | exact Nat.zero_le _ | decide) ?_)
    refine c_fails0u hst hM ?_
    repeat (first | (refine And.intro hM.1 (And.intro hM.2.1 ?_); rw [g_st hM]) | (refine And.intro hM.1 ?_; rw [fp_st hM]) | (refine And.intro hM.1 ?_; rw [fg_st hM]) | refine And.intro (by first | exact hM.1 | assumption | rfl | exact Nat.le_of_ble_eq_true rfl | exact Nat.zero_le _ | decide) ?_ | refine And.intro (fun _ => ?_) (fun hz => absurd hz (by decide)) | refine And.intro (fun hz => absurd hz (by decide)) (fun _ => ?_))
    refine c_chg hst hM0 hL9 f1 eb' ((pk_un (by decide)).trans hr) r8 (fun h9 f9 => ?_)
    repeat (first | (refine And.intro hM.1 (And.intro hM.2.1 ?_); rw [g_st hM]) | (refine And.intro hM.1 ?_; rw [fp_st hM]) | (refine And.intro hM.1 ?_; rw [fg_st hM]) | refine And.intro (by first | exact hM.1 | assumption | rfl | exact Nat.le_of_ble_eq_true rfl | exact Nat.zero_le _ | decide) ?_)
    exact q p h9 rfl p1 hv hb h3 f9
end J8

section Q1
theorem k_take {l : Launch} (hst : l.stackTraces = false) {Q : Option Value → Hp → Prop} {X : String → Hp → Prop} {h : Hp} {m : Nat} {F N : Nat → Int32} (hM : MdS h m) (hL9 : MdL h m) {c0 c1 c2 c3 c4 : Nat} {B : Int} (g : GI N c0 c1 c2 c3 c4 B) {r : Nat} (hr : F 5 = nI r) (r8 : r ≤ 8) {P : Int32} (x1 : ¬ (0 ≤ P ∧ P < nI c1) → Q (some (.int 0)) (st h m (upd F 0 1) N)) (x2 : ∀ k h' N', P = nI k → k < c1 → (kt N k).2.1 = false → Mf m h h' → (∀ j, j < 359 → N' j = N j) → Q (some (.int 0)) (st h' m (upd (upd (upd (upd (upd (upd (upd F 0 0) 10 (kt N k).2.2.2.1) 11 (kt N k).2.2.2.2) 7 3) 8 (kt N k).2.2.2.1) 9 (kt N k).2.2.2.2) 0 2) N')) (q : ∀ k h', P = nI k → k < c1 → (kt N k).2.1 = true → Mf m (hpush h m r N) h' → Q (some (.int (kt N k).2.2.1)) (st h' m (upd (upd F 0 0) 5 (nI (pr r))) (kt N k).1)) (hge : ∀ k, k < c1 → (kt N k).2.1 = true → 0 ≤ (kt N k).2.2.1) : CX9_take l [.ref m, .int P] (st h m F N) Q X := by
  have hN := g.wf
  have k4 := hN.2.1.2
  refine eX9_take hst (Nat.le_of_ble_eq_true rfl) (fun K => ?_)
  by_cases hP : 0 ≤ P ∧ P < nI c1
  rotate_left
  · (repeat (first | (refine And.intro hM.1 (And.intro hM.2.1 ?_); rw [g_st hM]) | (refine And.intro hM.1 ?_; rw [fp_st hM]) | (refine And.intro hM.1 ?_; rw [fg_st hM]) | refine And.intro (by first | exact hM.1 | assumption | rfl | exact Nat.le_of_ble_eq_true rfl | exact Nat.zero_le _ | decide) ?_))
    refine c_isKit0 hst hM hN.2.1.1 hN.2.1.2 hP ?_
    (repeat (first | (refine And.intro hM.1 (And.intro hM.2.1 ?_); rw [g_st hM]) | (refine And.intro hM.1 ?_; rw [fp_st hM]) | (refine And.intro hM.1 ?_; rw [fg_st hM]) | refine And.intro (by first | exact hM.1 | assumption | rfl | exact Nat.le_of_ble_eq_true rfl | exact Nat.zero_le _ | decide) ?_ | refine And.intro (fun _ => ?_) (fun hz => absurd hz (by decide)) | refine And.intro (fun hz => absurd hz (by decide)) (fun _ => ?_)))
    refine c_fails1 hst hM ?_
    (repeat (first | (refine And.intro hM.1 (And.intro hM.2.1 ?_); rw [g_st hM]) | (refine And.intro hM.1 ?_; rw [fp_st hM]) | (refine And.intro hM.1 ?_; rw [fg_st hM]) | refine And.intro (by first | exact hM.1 | assumption | rfl | exact Nat.le_of_ble_eq_true rfl | exact Nat.zero_le _ | decide) ?_ | refine And.intro (fun _ => ?_) (fun hz => absurd hz (by decide)) | refine And.intro (fun hz => absurd hz (by decide)) (fun _ => ?_)))
    exact x1 hP
  obtain ⟨p, p1, p2⟩ := in9 (c := c1) (by have := hN.2.1.2; omega) hP
  subst p2
  (repeat (first | (refine And.intro hM.1 (And.intro hM.2.1 ?_); rw [g_st hM]) | (refine And.intro hM.1 ?_; rw [fp_st hM]) | (refine And.intro hM.1 ?_; rw [fg_st hM]) | refine And.intro (by first | exact hM.1 | assumption | rfl | exact Nat.le_of_ble_eq_true rfl | exact Nat.zero_le _ | decide) ?_))
  refine c_isKit1 hst hM hN.2.1.1 hN.2.1.2 p1 ?_
  (repeat (first | (refine And.intro hM.1 (And.intro hM.2.1 ?_); rw [g_st hM]) | (refine And.intro hM.1 ?_; rw [fp_st hM]) | (refine And.intro hM.1 ?_; rw [fg_st hM]) | refine And.intro (by first | exact hM.1 | assumption | rfl | exact Nat.le_of_ble_eq_true rfl | exact Nat.zero_le _ | decide) ?_ | refine And.intro (fun _ => ?_) (fun hz => absurd hz (by decide)) | refine And.intro (fun hz => absurd hz (by decide)) (fun _ => ?_)))
  refine c_fails0 hst hM ?_
  (repeat (first | (refine And.intro hM.1 (And.intro hM.2.1 ?_); rw [g_st hM]) | (refine And.intro hM.1 ?_; rw [fp_st hM]) | (refine And.intro hM.1 ?_; rw [fg_st hM]) | refine And.intro (by first | exact hM.1 | assumption | rfl | exact Nat.le_of_ble_eq_true rfl | exact Nat.zero_le _ | decide) ?_ | refine And.intro (fun _ => ?_) (fun hz => absurd hz (by decide)) | refine And.intro (fun hz => absurd hz (by decide)) (fun _ => ?_)))
  refine And.intro (g3n hL9) ?_; rw [g3 hL9]
  repeat (refine And.intro (by first | assumption | rfl | exact Nat.le_of_ble_eq_true rfl | exact Nat.zero_le _ | decide) ?_)
  refine c_cpO hst hM hL9 (Or.inl rfl) (fun h1 f1 eb => ?_)
  have eb' : ∀ j, j < 359 → hI h1 (m + 3) j = N j := fun j hj => by rw [eb]; exact cpr_lt hj
  have hM1 := hM.mf f1
  have hL1 := hL9.mf f1
  (repeat (refine And.intro (by first | assumption | rfl | exact Nat.le_of_ble_eq_true rfl | exact Nat.zero_le _ | decide) ?_)); refine And.intro (hM1.1) ?_; (repeat (refine And.intro (by first | assumption | rfl | exact Nat.le_of_ble_eq_true rfl | exact Nat.zero_le _ | decide) ?_))
  refine c_doTake hst hM1 hL1 g p1 (fun h2 f2 e3 hb => ?_) (fun h2 N2 f2 e3 en hb => ?_) (hge p p1)
  · have hM0 := hM
    have hM := hM1.mf f2
    have ge0 := hge p p1 hb
    repeat (first | (refine And.intro hM.1 (And.intro hM.2.1 ?_); rw [g_st hM]) | (refine And.intro hM.1 ?_; rw [fp_st hM]) | (refine And.intro hM.1 ?_; rw [fg_st hM]) | refine And.intro (by first | exact hM.1 | assumption | rfl | exact Nat.le_of_ble_eq_true rfl | exact Nat.zero_le _ | decide) ?_)
    refine And.intro (fun _ => ?_) (fun z => absurd ge0 z)
    repeat (first | (refine And.intro hM.1 (And.intro hM.2.1 ?_); rw [g_st hM]) | (refine And.intro hM.1 ?_; rw [fp_st hM]) | (refine And.intro hM.1 ?_; rw [fg_st hM]) | refine And.intro (by first | exact hM.1 | assumption | rfl | exact Nat.le_of_ble_eq_true rfl | exact Nat.zero_le _ | decide) ?_)
    refine c_fails0u hst hM ?_
    repeat (first | (refine And.intro hM.1 (And.intro hM.2.1 ?_); rw [g_st hM]) | (refine And.intro hM.1 ?_; rw [fp_st hM]) | (refine And.intro hM.1 ?_; rw [fg_st hM]) | refine And.intro (by first | exact hM.1 | assumption | rfl | exact Nat.le_of_ble_eq_true rfl | exact Nat.zero_le _ | decide) ?_ | refine And.intro (fun _ => ?_) (fun hz => absurd hz (by decide)) | refine And.intro (fun hz => absurd hz (by decide)) (fun _ => ?_))
    refine c_chg (N := N) hst hM0 hL9 (f1.trans f2) (fun j hj => by rw [e3]; exact eb' j hj) ((pk_un (by decide)).trans hr) r8 (fun h9 f9 => ?_)
    repeat (first | (refine And.intro hM.1 (And.intro hM.2.1 ?_); rw [g_st hM]) | (refine And.intro hM.1 ?_; rw [fp_st hM]) | (refine And.intro hM.1 ?_; rw [fg_st hM]) | refine And.intro (by first | exact hM.1 | assumption | rfl | exact Nat.le_of_ble_eq_true rfl | exact Nat.zero_le _ | decide) ?_)
    exact q p h9 rfl p1 hb f9
  · have hM := hM1.mf f2
    repeat (first | (refine And.intro hM.1 (And.intro hM.2.1 ?_); rw [g_st hM]) | (refine And.intro hM.1 ?_; rw [fp_st hM]) | (refine And.intro hM.1 ?_; rw [fg_st hM]) | refine And.intro (by first | exact hM.1 | assumption | rfl | exact Nat.le_of_ble_eq_true rfl | exact Nat.zero_le _ | decide) ?_)
    refine And.intro (fun z => absurd z (by decide)) (fun _ => ?_)
    repeat (first | (refine And.intro hM.1 (And.intro hM.2.1 ?_); rw [g_st hM]) | (refine And.intro hM.1 ?_; rw [fp_st hM]) | (refine And.intro hM.1 ?_; rw [fg_st hM]) | refine And.intro (by first | exact hM.1 | assumption | rfl | exact Nat.le_of_ble_eq_true rfl | exact Nat.zero_le _ | decide) ?_)
    refine c_fails1 hst hM ?_
    repeat (first | (refine And.intro hM.1 (And.intro hM.2.1 ?_); rw [g_st hM]) | (refine And.intro hM.1 ?_; rw [fp_st hM]) | (refine And.intro hM.1 ?_; rw [fg_st hM]) | refine And.intro (by first | exact hM.1 | assumption | rfl | exact Nat.le_of_ble_eq_true rfl | exact Nat.zero_le _ | decide) ?_ | refine And.intro (fun _ => ?_) (fun hz => absurd hz (by decide)) | refine And.intro (fun hz => absurd hz (by decide)) (fun _ => ?_))
    exact x2 p h2 N2 rfl p1 hb (f1.trans f2) en
theorem lss99 {x : Nat} (h : x ≤ 9) : lss 99 (nI x) = nI x := (show ∀ x : Fin 10, lss 99 (nI x.val) = nI x.val by decide) ⟨x, by omega⟩
theorem k_lacking {l : Launch} (hst : l.stackTraces = false) {Q : Option Value → Hp → Prop} {X : String → Hp → Prop} {h : Hp} {m : Nat} {F N : Nat → Int32} (hM : MdS h m) (hL9 : MdL h m) {c0 c1 c2 c3 c4 : Nat} {B : Int} (g : GI N c0 c1 c2 c3 c4 B) {P : Int32} (x1 : ¬ (0 ≤ P ∧ P < nI c1) → Q (some (.int 0)) (st h m (upd F 0 1) N)) (q : ∀ k h' F' N', P = nI k → k < c1 → Mf m h h' → (∀ j, j < 359 → N' j = N j) → (∀ j, j ≠ 10 → j ≠ 11 → F' j = upd F 0 0 j) → Q (some (.int (if (kt N k).2.1 = true then -1 else 100 * (kt N k).2.2.2.1 + (kt N k).2.2.2.2))) (st h' m F' N')) (hge : ∀ k, k < c1 → (kt N k).2.1 = true → 0 ≤ (kt N k).2.2.1) : CX9_lacking l [.ref m, .int P] (st h m F N) Q X := by
  have hN := g.wf
  have k4 := hN.2.1.2
  refine eX9_lacking hst (Nat.le_of_ble_eq_true rfl) (fun K => ?_)
  by_cases hP : 0 ≤ P ∧ P < nI c1
  rotate_left
  · (repeat (first | (refine And.intro hM.1 (And.intro hM.2.1 ?_); rw [g_st hM]) | (refine And.intro hM.1 ?_; rw [fp_st hM]) | (refine And.intro hM.1 ?_; rw [fg_st hM]) | refine And.intro (by first | exact hM.1 | assumption | rfl | exact Nat.le_of_ble_eq_true rfl | exact Nat.zero_le _ | decide) ?_))
    refine c_isKit0 hst hM hN.2.1.1 hN.2.1.2 hP ?_
    (repeat (first | (refine And.intro hM.1 (And.intro hM.2.1 ?_); rw [g_st hM]) | (refine And.intro hM.1 ?_; rw [fp_st hM]) | (refine And.intro hM.1 ?_; rw [fg_st hM]) | refine And.intro (by first | exact hM.1 | assumption | rfl | exact Nat.le_of_ble_eq_true rfl | exact Nat.zero_le _ | decide) ?_ | refine And.intro (fun _ => ?_) (fun hz => absurd hz (by decide)) | refine And.intro (fun hz => absurd hz (by decide)) (fun _ => ?_)))
    refine c_fails1 hst hM ?_
    (repeat (first | (refine And.intro hM.1 (And.intro hM.2.1 ?_); rw [g_st hM]) | (refine And.intro hM.1 ?_; rw [fp_st hM]) | (refine And.intro hM.1 ?_; rw [fg_st hM]) | refine And.intro (by first | exact hM.1 | assumption | rfl | exact Nat.le_of_ble_eq_true rfl | exact Nat.zero_le _ | decide) ?_ | refine And.intro (fun _ => ?_) (fun hz => absurd hz (by decide)) | refine And.intro (fun hz => absurd hz (by decide)) (fun _ => ?_)))
    exact x1 hP
  obtain ⟨p, p1, p2⟩ := in9 (c := c1) (by have := hN.2.1.2; omega) hP
  subst p2
  (repeat (first | (refine And.intro hM.1 (And.intro hM.2.1 ?_); rw [g_st hM]) | (refine And.intro hM.1 ?_; rw [fp_st hM]) | (refine And.intro hM.1 ?_; rw [fg_st hM]) | refine And.intro (by first | exact hM.1 | assumption | rfl | exact Nat.le_of_ble_eq_true rfl | exact Nat.zero_le _ | decide) ?_))
  refine c_isKit1 hst hM hN.2.1.1 hN.2.1.2 p1 ?_
  (repeat (first | (refine And.intro hM.1 (And.intro hM.2.1 ?_); rw [g_st hM]) | (refine And.intro hM.1 ?_; rw [fp_st hM]) | (refine And.intro hM.1 ?_; rw [fg_st hM]) | refine And.intro (by first | exact hM.1 | assumption | rfl | exact Nat.le_of_ble_eq_true rfl | exact Nat.zero_le _ | decide) ?_ | refine And.intro (fun _ => ?_) (fun hz => absurd hz (by decide)) | refine And.intro (fun hz => absurd hz (by decide)) (fun _ => ?_)))
  refine c_fails0 hst hM ?_
  (repeat (first | (refine And.intro hM.1 (And.intro hM.2.1 ?_); rw [g_st hM]) | (refine And.intro hM.1 ?_; rw [fp_st hM]) | (refine And.intro hM.1 ?_; rw [fg_st hM]) | refine And.intro (by first | exact hM.1 | assumption | rfl | exact Nat.le_of_ble_eq_true rfl | exact Nat.zero_le _ | decide) ?_ | refine And.intro (fun _ => ?_) (fun hz => absurd hz (by decide)) | refine And.intro (fun hz => absurd hz (by decide)) (fun _ => ?_)))
  refine And.intro (g12n hL9) ?_; rw [g12 hL9]
  repeat (refine And.intro (by first | assumption | rfl | exact Nat.le_of_ble_eq_true rfl | exact Nat.zero_le _ | decide) ?_)
  refine c_cpO hst hM hL9 (Or.inr rfl) (fun h1 f1 eb => ?_)
  have hM1 := hM.mf f1
  have hL1 := hL9.mf f1
  have qk := fun F' N' => q p h1 F' N' rfl p1 f1
  obtain ⟨-, ok2⟩ := kt_ok p1 g
  (repeat (refine And.intro (by first | assumption | rfl | exact Nat.le_of_ble_eq_true rfl | exact Nat.zero_le _ | decide) ?_)); refine And.intro (hM1.1) ?_; (repeat (refine And.intro (by first | assumption | rfl | exact Nat.le_of_ble_eq_true rfl | exact Nat.zero_le _ | decide) ?_))
  refine c_goTake hst hM1 g p1 (fun hb => ?_) (fun hb M => ?_)
  · have hM := hM1
    have hL9 := hL1
    rw [if_pos hb] at qk
    refine And.intro hM.1 ?_
    refine And.intro (g12n hL9) ?_; rw [g12 hL9]
    repeat (first | (refine And.intro hM.1 (And.intro hM.2.1 ?_); rw [g_st hM]) | (refine And.intro hM.1 ?_; rw [fp_st hM]) | (refine And.intro hM.1 ?_; rw [fg_st hM]) | refine And.intro (by first | exact hM.1 | assumption | rfl | exact Nat.le_of_ble_eq_true rfl | exact Nat.zero_le _ | decide) ?_)
    refine c_cpI hst hM hL9 (Or.inr rfl) ?_
    refine And.intro (fun z => absurd z (fun y => absurd (hge p p1 hb) (Int32.not_le.mpr y))) (fun _ => ?_)
    repeat (refine And.intro (by first | assumption | rfl | exact Nat.le_of_ble_eq_true rfl | exact Nat.zero_le _ | decide) ?_)
    exact qk _ _ (fun j hj => by rw [cpr_lt hj, eb, cpr_lt hj]) (fun j _ _ => rfl)
  · have hM := hM1
    have hL9 := hL1
    obtain ⟨a, b, a1, e1, e2, b1, b9⟩ := ok2 hb
    rw [if_neg (by rw [hb]; decide), e1, e2] at qk
    rw [e1, e2]
    refine And.intro hM.1 ?_
    refine And.intro (g12n hL9) ?_; rw [g12 hL9]
    repeat (first | (refine And.intro hM.1 (And.intro hM.2.1 ?_); rw [g_st hM]) | (refine And.intro hM.1 ?_; rw [fp_st hM]) | (refine And.intro hM.1 ?_; rw [fg_st hM]) | refine And.intro (by first | exact hM.1 | assumption | rfl | exact Nat.le_of_ble_eq_true rfl | exact Nat.zero_le _ | decide) ?_)
    refine c_cpI hst hM hL9 (Or.inr rfl) ?_
    refine And.intro (fun _ => ?_) (fun z => absurd (by decide) z)
    repeat (first | (refine And.intro hM.1 (And.intro hM.2.1 ?_); rw [g_st hM]) | (refine And.intro hM.1 ?_; rw [fp_st hM]) | (refine And.intro hM.1 ?_; rw [fg_st hM]) | refine And.intro (by first | exact hM.1 | assumption | rfl | exact Nat.le_of_ble_eq_true rfl | exact Nat.zero_le _ | decide) ?_)
    rw [show upd (upd (upd F 0 0) 10 (nI a)) 11 (nI b) 11 = nI b from pk_us, show upd (upd (upd F 0 0) 10 (nI a)) 11 (nI b) 10 = nI a from (pk_un (by decide)).trans pk_us]
    refine c_lesser hst ?_
    rw [lss99 b9]
    repeat (first | (refine And.intro hM.1 (And.intro hM.2.1 ?_); rw [g_st hM]) | (refine And.intro hM.1 ?_; rw [fp_st hM]) | (refine And.intro hM.1 ?_; rw [fg_st hM]) | refine And.intro (by first | exact hM.1 | assumption | rfl | exact Nat.le_of_ble_eq_true rfl | exact Nat.zero_le _ | decide) ?_)
    exact qk _ _ (fun j hj => by rw [cpr_lt hj, eb, cpr_lt hj]) (fun j h1 h2 => by rw [pk_un h2, pk_un h1])
theorem k_stockAfter {l : Launch} (hst : l.stackTraces = false) {Q : Option Value → Hp → Prop} {X : String → Hp → Prop} {h : Hp} {m : Nat} {F N : Nat → Int32} (hM : MdS h m) (hL9 : MdL h m) {c0 c1 c2 c3 c4 : Nat} {B : Int} (g : GI N c0 c1 c2 c3 c4 B) {P k : Int32} (x1 : ¬ (0 ≤ P ∧ P < nI c0) → Q (some (.int 0)) (st h m (upd F 0 1) N)) (x2 : 0 ≤ P ∧ P < nI c0 → ¬ (0 ≤ k ∧ k ≤ 30) → Q (some (.int 0)) (st h m (upd F 0 2) N)) (q : ∀ p d h' N', P = nI p → p < c0 → k = nI d → d ≤ 30 → Mf m h h' → (∀ j, j < 359 → N' j = N j) → Q (some (.int ((r_days d N).1 (7 + p * 23 + 0)))) (st h' m (upd F 0 0) N')) : CX9_stockAfter l [.ref m, .int P, .int k] (st h m F N) Q X := by
  have hN := g.wf
  have k8 := hN.1.2
  refine eX9_stockAfter hst (Nat.le_of_ble_eq_true rfl) (fun K => ?_)
  by_cases hP : 0 ≤ P ∧ P < nI c0
  rotate_left
  · (repeat (first | (refine And.intro hM.1 (And.intro hM.2.1 ?_); rw [g_st hM]) | (refine And.intro hM.1 ?_; rw [fp_st hM]) | (refine And.intro hM.1 ?_; rw [fg_st hM]) | refine And.intro (by first | exact hM.1 | assumption | rfl | exact Nat.le_of_ble_eq_true rfl | exact Nat.zero_le _ | decide) ?_))
    refine c_isPart0 hst hM hN.1.1 hN.1.2 hP ?_
    (repeat (first | (refine And.intro hM.1 (And.intro hM.2.1 ?_); rw [g_st hM]) | (refine And.intro hM.1 ?_; rw [fp_st hM]) | (refine And.intro hM.1 ?_; rw [fg_st hM]) | refine And.intro (by first | exact hM.1 | assumption | rfl | exact Nat.le_of_ble_eq_true rfl | exact Nat.zero_le _ | decide) ?_ | refine And.intro (fun _ => ?_) (fun hz => absurd hz (by decide)) | refine And.intro (fun hz => absurd hz (by decide)) (fun _ => ?_)))
    refine c_fails1 hst hM ?_
    (repeat (first | (refine And.intro hM.1 (And.intro hM.2.1 ?_); rw [g_st hM]) | (refine And.intro hM.1 ?_; rw [fp_st hM]) | (refine And.intro hM.1 ?_; rw [fg_st hM]) | refine And.intro (by first | exact hM.1 | assumption | rfl | exact Nat.le_of_ble_eq_true rfl | exact Nat.zero_le _ | decide) ?_ | refine And.intro (fun _ => ?_) (fun hz => absurd hz (by decide)) | refine And.intro (fun hz => absurd hz (by decide)) (fun _ => ?_)))
    exact x1 hP
  obtain ⟨p, p1, p2⟩ := in9 (c := c0) (by have := hN.1.2; omega) hP
  subst p2
  (repeat (first | (refine And.intro hM.1 (And.intro hM.2.1 ?_); rw [g_st hM]) | (refine And.intro hM.1 ?_; rw [fp_st hM]) | (refine And.intro hM.1 ?_; rw [fg_st hM]) | refine And.intro (by first | exact hM.1 | assumption | rfl | exact Nat.le_of_ble_eq_true rfl | exact Nat.zero_le _ | decide) ?_))
  refine c_isPart1 hst hM hN.1.1 hN.1.2 p1 ?_
  (repeat (first | (refine And.intro hM.1 (And.intro hM.2.1 ?_); rw [g_st hM]) | (refine And.intro hM.1 ?_; rw [fp_st hM]) | (refine And.intro hM.1 ?_; rw [fg_st hM]) | refine And.intro (by first | exact hM.1 | assumption | rfl | exact Nat.le_of_ble_eq_true rfl | exact Nat.zero_le _ | decide) ?_ | refine And.intro (fun _ => ?_) (fun hz => absurd hz (by decide)) | refine And.intro (fun hz => absurd hz (by decide)) (fun _ => ?_)))
  refine c_fails0 hst hM ?_
  (repeat (first | (refine And.intro hM.1 (And.intro hM.2.1 ?_); rw [g_st hM]) | (refine And.intro hM.1 ?_; rw [fp_st hM]) | (refine And.intro hM.1 ?_; rw [fg_st hM]) | refine And.intro (by first | exact hM.1 | assumption | rfl | exact Nat.le_of_ble_eq_true rfl | exact Nat.zero_le _ | decide) ?_ | refine And.intro (fun _ => ?_) (fun hz => absurd hz (by decide)) | refine And.intro (fun hz => absurd hz (by decide)) (fun _ => ?_)))
  by_cases hv : 0 ≤ k ∧ k ≤ 30
  rotate_left
  · refine c_isBet0 hst hv ?_
    (repeat (first | (refine And.intro hM.1 (And.intro hM.2.1 ?_); rw [g_st hM]) | (refine And.intro hM.1 ?_; rw [fp_st hM]) | (refine And.intro hM.1 ?_; rw [fg_st hM]) | refine And.intro (by first | exact hM.1 | assumption | rfl | exact Nat.le_of_ble_eq_true rfl | exact Nat.zero_le _ | decide) ?_ | refine And.intro (fun _ => ?_) (fun hz => absurd hz (by decide)) | refine And.intro (fun hz => absurd hz (by decide)) (fun _ => ?_)))
    refine c_fails1u hst hM ?_
    (repeat (first | (refine And.intro hM.1 (And.intro hM.2.1 ?_); rw [g_st hM]) | (refine And.intro hM.1 ?_; rw [fp_st hM]) | (refine And.intro hM.1 ?_; rw [fg_st hM]) | refine And.intro (by first | exact hM.1 | assumption | rfl | exact Nat.le_of_ble_eq_true rfl | exact Nat.zero_le _ | decide) ?_ | refine And.intro (fun _ => ?_) (fun hz => absurd hz (by decide)) | refine And.intro (fun hz => absurd hz (by decide)) (fun _ => ?_)))
    exact x2 hP hv
  refine c_isBet1 hst hv ?_
  (repeat (first | (refine And.intro hM.1 (And.intro hM.2.1 ?_); rw [g_st hM]) | (refine And.intro hM.1 ?_; rw [fp_st hM]) | (refine And.intro hM.1 ?_; rw [fg_st hM]) | refine And.intro (by first | exact hM.1 | assumption | rfl | exact Nat.le_of_ble_eq_true rfl | exact Nat.zero_le _ | decide) ?_ | refine And.intro (fun _ => ?_) (fun hz => absurd hz (by decide)) | refine And.intro (fun hz => absurd hz (by decide)) (fun _ => ?_)))
  refine c_fails0u hst hM ?_
  (repeat (first | (refine And.intro hM.1 (And.intro hM.2.1 ?_); rw [g_st hM]) | (refine And.intro hM.1 ?_; rw [fp_st hM]) | (refine And.intro hM.1 ?_; rw [fg_st hM]) | refine And.intro (by first | exact hM.1 | assumption | rfl | exact Nat.le_of_ble_eq_true rfl | exact Nat.zero_le _ | decide) ?_ | refine And.intro (fun _ => ?_) (fun hz => absurd hz (by decide)) | refine And.intro (fun hz => absurd hz (by decide)) (fun _ => ?_)))
  obtain ⟨d, d1, d2⟩ := nI_of2 (n := 30) rfl (Int32.not_lt.mpr hv.1) hv.2
  subst d2
  refine And.intro (g12n hL9) ?_; rw [g12 hL9]
  repeat (refine And.intro (by first | assumption | rfl | exact Nat.le_of_ble_eq_true rfl | exact Nat.zero_le _ | decide) ?_)
  refine c_cpO hst hM hL9 (Or.inr rfl) (fun h1 f1 eb => ?_)
  have hM1 := hM.mf f1
  have hL1 := hL9.mf f1
  (repeat (refine And.intro (by first | assumption | rfl | exact Nat.le_of_ble_eq_true rfl | exact Nat.zero_le _ | decide) ?_)); refine And.intro (hM1.1) ?_; (repeat (refine And.intro (by first | assumption | rfl | exact Nat.le_of_ble_eq_true rfl | exact Nat.zero_le _ | decide) ?_))
  refine c_doAdvance hst hM1 d rfl (by omega) hN ?_
  have hM := hM1
  have hL9 := hL1
  repeat (first | (refine And.intro hM.1 (And.intro hM.2.1 ?_); rw [g_st hM]) | (refine And.intro hM.1 ?_; rw [fp_st hM]) | (refine And.intro hM.1 ?_; rw [fg_st hM]) | refine And.intro (by first | exact hM.1 | assumption | rfl | exact Nat.le_of_ble_eq_true rfl | exact Nat.zero_le _ | decide) ?_)
  refine c_of hst hM p 0 rfl rfl (by omega) ?_
  refine And.intro hM.1 ?_
  refine And.intro (g12n hL9) ?_; rw [g12 hL9]
  repeat (first | (refine And.intro hM.1 (And.intro hM.2.1 ?_); rw [g_st hM]) | (refine And.intro hM.1 ?_; rw [fp_st hM]) | (refine And.intro hM.1 ?_; rw [fg_st hM]) | refine And.intro (by first | exact hM.1 | assumption | rfl | exact Nat.le_of_ble_eq_true rfl | exact Nat.zero_le _ | decide) ?_)
  refine c_cpI hst hM hL9 (Or.inr rfl) ?_
  repeat (refine And.intro (by first | assumption | rfl | exact Nat.le_of_ble_eq_true rfl | exact Nat.zero_le _ | decide) ?_)
  exact q p d h1 _ rfl p1 rfl d1 f1 (fun j hj => by rw [cpr_lt hj, eb, cpr_lt hj])
end Q1

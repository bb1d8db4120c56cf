section R4
theorem sub0 {a b : Int32} (h : a - b = 0) : a = b := by
  have := Int32.sub_add_cancel a b
  rw [h, Int32.zero_add] at this
  exact this.symm
theorem sub_sub' (a b c : Int32) : a - (b + c) = a - b - c := by
  rw [Int32.sub_eq_add_neg, Int32.sub_eq_add_neg, Int32.sub_eq_add_neg, Int32.neg_add, Int32.sub_eq_add_neg, Int32.add_assoc]
theorem c_addsUp {l : Launch} (hst : l.stackTraces = false) {Q : Option Value → Hp → Prop} {X : String → Hp → Prop} {h : Hp} {m : Nat} {F N : Nat → Int32} (hM : MdS h m) {c0 c1 c2 c3 c4 : Nat} (hN : WFc N c0 c1 c2 c3 c4) {p : Nat} (hp : p < c0) (q : Q (some (.int (b2 (s_up N p (s_pcs N 287 (nI p) c3))))) (st h m F N)) : CX9_addsUp l [.ref m, .int (nI p)] (st h m F N) Q X := by
  have k8 := hN.1.2
  have k3 := hN.2.2.2.1
  refine eX9_addsUp hst (Nat.le_of_ble_eq_true rfl) (fun K hK => ?_)
  repeat (first | (refine And.intro hM.1 (And.intro hM.2.1 ?_); rw [g_st hM]) | (refine And.intro hM.1 ?_; rw [fp_st hM]) | (refine And.intro hM.1 ?_; rw [fg_st hM]) | refine And.intro (by first | exact hM.1 | assumption | rfl | exact Nat.le_of_ble_eq_true rfl | exact Nat.zero_le _ | decide) ?_)
  refine c_of hst hM p 13 rfl rfl (by omega) ?_
  repeat (first | (refine And.intro hM.1 (And.intro hM.2.1 ?_); rw [g_st hM]) | (refine And.intro hM.1 ?_; rw [fp_st hM]) | (refine And.intro hM.1 ?_; rw [fg_st hM]) | refine And.intro (by first | exact hM.1 | assumption | rfl | exact Nat.le_of_ble_eq_true rfl | exact Nat.zero_le _ | decide) ?_)
  refine c_of hst hM p 14 rfl rfl (by omega) ?_
  repeat (first | (refine And.intro hM.1 (And.intro hM.2.1 ?_); rw [g_st hM]) | (refine And.intro hM.1 ?_; rw [fp_st hM]) | (refine And.intro hM.1 ?_; rw [fg_st hM]) | refine And.intro (by first | exact hM.1 | assumption | rfl | exact Nat.le_of_ble_eq_true rfl | exact Nat.zero_le _ | decide) ?_)
  refine c_of hst hM p 15 rfl rfl (by omega) ?_
  repeat (first | (refine And.intro hM.1 (And.intro hM.2.1 ?_); rw [g_st hM]) | (refine And.intro hM.1 ?_; rw [fp_st hM]) | (refine And.intro hM.1 ?_; rw [fg_st hM]) | refine And.intro (by first | exact hM.1 | assumption | rfl | exact Nat.le_of_ble_eq_true rfl | exact Nat.zero_le _ | decide) ?_)
  refine c_of hst hM p 18 rfl rfl (by omega) ?_
  repeat (first | (refine And.intro hM.1 (And.intro hM.2.1 ?_); rw [g_st hM]) | (refine And.intro hM.1 ?_; rw [fp_st hM]) | (refine And.intro hM.1 ?_; rw [fg_st hM]) | refine And.intro (by first | exact hM.1 | assumption | rfl | exact Nat.le_of_ble_eq_true rfl | exact Nat.zero_le _ | decide) ?_)
  refine c_of hst hM p 20 rfl rfl (by omega) ?_
  repeat (first | (refine And.intro hM.1 (And.intro hM.2.1 ?_); rw [g_st hM]) | (refine And.intro hM.1 ?_; rw [fp_st hM]) | (refine And.intro hM.1 ?_; rw [fg_st hM]) | refine And.intro (by first | exact hM.1 | assumption | rfl | exact Nat.le_of_ble_eq_true rfl | exact Nat.zero_le _ | decide) ?_)
  refine c_of hst hM p 16 rfl rfl (by omega) ?_
  repeat (first | (refine And.intro hM.1 (And.intro hM.2.1 ?_); rw [g_st hM]) | (refine And.intro hM.1 ?_; rw [fp_st hM]) | (refine And.intro hM.1 ?_; rw [fg_st hM]) | refine And.intro (by first | exact hM.1 | assumption | rfl | exact Nat.le_of_ble_eq_true rfl | exact Nat.zero_le _ | decide) ?_)
  refine c_of hst hM p 17 rfl rfl (by omega) ?_
  repeat (first | (refine And.intro hM.1 (And.intro hM.2.1 ?_); rw [g_st hM]) | (refine And.intro hM.1 ?_; rw [fp_st hM]) | (refine And.intro hM.1 ?_; rw [fg_st hM]) | refine And.intro (by first | exact hM.1 | assumption | rfl | exact Nat.le_of_ble_eq_true rfl | exact Nat.zero_le _ | decide) ?_)
  refine c_of hst hM p 17 rfl rfl (by omega) ?_
  repeat (first | (refine And.intro hM.1 (And.intro hM.2.1 ?_); rw [g_st hM]) | (refine And.intro hM.1 ?_; rw [fp_st hM]) | (refine And.intro hM.1 ?_; rw [fg_st hM]) | refine And.intro (by first | exact hM.1 | assumption | rfl | exact Nat.le_of_ble_eq_true rfl | exact Nat.zero_le _ | decide) ?_)
  refine c_of hst hM p 18 rfl rfl (by omega) ?_
  repeat (first | (refine And.intro hM.1 (And.intro hM.2.1 ?_); rw [g_st hM]) | (refine And.intro hM.1 ?_; rw [fp_st hM]) | (refine And.intro hM.1 ?_; rw [fg_st hM]) | refine And.intro (by first | exact hM.1 | assumption | rfl | exact Nat.le_of_ble_eq_true rfl | exact Nat.zero_le _ | decide) ?_)
  refine c_of hst hM p 19 rfl rfl (by omega) ?_
  generalize hA : N (7 + p * 23 + 13) + N (7 + p * 23 + 14) + N (7 + p * 23 + 15) + N (7 + p * 23 + 18) - N (7 + p * 23 + 20) = came
  generalize hB : N (7 + p * 23 + 16) - N (7 + p * 23 + 17) = brk
  obtain ⟨rep, hC⟩ : ∃ rep, N (7 + p * 23 + 17) - N (7 + p * 23 + 18) - N (7 + p * 23 + 19) = rep := ⟨_, rfl⟩
  have eu : s_up N p (s_pcs N 287 (nI p) c3) = (decide (came = N (7 + p * 23 + 0)) && (decide (brk = N (7 + p * 23 + 1)) && decide (rep = s_pcs N 287 (nI p) c3))) := by
    rw [← hA, ← hB, ← hC]; rfl
  rw [eu] at q
  have loop : ∀ n i, i + n = c3 → K 84 [(5, .int (nI i)), (4, .int (rep - s_pcs N 287 (nI p) i)), (3, .int brk), (2, .int came), (0, .ref m), (1, .int (nI p))] [] (st h m F N) (0, 0) := by
    intro n
    induction n with
    | zero =>
      intro i hi
      have : i = c3 := by omega
      subst this
      refine hK _ _ _ _ ?_
      repeat (first | (refine And.intro hM.1 (And.intro hM.2.1 ?_); rw [g_st hM]) | (refine And.intro hM.1 ?_; rw [fp_st hM]) | (refine And.intro hM.1 ?_; rw [fg_st hM]) | refine And.intro (by first | exact hM.1 | assumption | rfl | exact Nat.le_of_ble_eq_true rfl | exact Nat.zero_le _ | decide) ?_)
      refine And.intro (k20 hM) (And.intro (vin hM (x := (3 : Int32)) (i := 3) rfl (by decide)) ?_); rw [ld_st hM (x := (3 : Int32)) (i := 3) rfl (by decide)]
      rw [k3.1]
      refine And.intro (fun hc => ?_) (fun hc => ?_)
      rotate_left
      · exact absurd (Int32.le_refl _) hc
      repeat (first | (refine And.intro hM.1 (And.intro hM.2.1 ?_); rw [g_st hM]) | (refine And.intro hM.1 ?_; rw [fp_st hM]) | (refine And.intro hM.1 ?_; rw [fg_st hM]) | refine And.intro (by first | exact hM.1 | assumption | rfl | exact Nat.le_of_ble_eq_true rfl | exact Nat.zero_le _ | decide) ?_)
      refine c_of hst hM p 0 rfl rfl (by omega) ?_
      refine And.intro (fun h1 => ?_) (fun h1 => ?_)
      · rw [decide_eq_false h1, Bool.false_and] at q
        repeat (refine And.intro (by first | assumption | rfl | exact Nat.le_of_ble_eq_true rfl | exact Nat.zero_le _ | decide) ?_)
        exact q
      rw [decide_eq_true h1, Bool.true_and] at q
      repeat (first | (refine And.intro hM.1 (And.intro hM.2.1 ?_); rw [g_st hM]) | (refine And.intro hM.1 ?_; rw [fp_st hM]) | (refine And.intro hM.1 ?_; rw [fg_st hM]) | refine And.intro (by first | exact hM.1 | assumption | rfl | exact Nat.le_of_ble_eq_true rfl | exact Nat.zero_le _ | decide) ?_)
      refine c_of hst hM p 1 rfl rfl (by omega) ?_
      refine And.intro (fun h2 => ?_) (fun h2 => ?_)
      · rw [decide_eq_false h2, Bool.false_and] at q
        repeat (refine And.intro (by first | assumption | rfl | exact Nat.le_of_ble_eq_true rfl | exact Nat.zero_le _ | decide) ?_)
        exact q
      rw [decide_eq_true h2, Bool.true_and] at q
      refine And.intro (fun h3 => ?_) (fun h3 => ?_)
      · rw [decide_eq_false (fun z => h3 (by rw [z, Int32.sub_self]))] at q
        repeat (refine And.intro (by first | assumption | rfl | exact Nat.le_of_ble_eq_true rfl | exact Nat.zero_le _ | decide) ?_)
        exact q
      · rw [decide_eq_true (sub0 h3)] at q
        repeat (refine And.intro (by first | assumption | rfl | exact Nat.le_of_ble_eq_true rfl | exact Nat.zero_le _ | decide) ?_)
        exact q
    | succ n ih =>
      intro i hi
      have i1 := ih (i + 1) (by omega)
      have e : s_pcs N 287 (nI p) (i + 1) = s_pcs N 287 (nI p) i + (if N (287 + i * 3 + 0) = nI p then N (287 + i * 3 + 1) else 0) := rfl
      rw [e, sub_sub', ← nI_1 i] at i1
      refine hK _ _ _ _ ?_
      repeat (first | (refine And.intro hM.1 (And.intro hM.2.1 ?_); rw [g_st hM]) | (refine And.intro hM.1 ?_; rw [fp_st hM]) | (refine And.intro hM.1 ?_; rw [fg_st hM]) | refine And.intro (by first | exact hM.1 | assumption | rfl | exact Nat.le_of_ble_eq_true rfl | exact Nat.zero_le _ | decide) ?_)
      refine And.intro (k20 hM) (And.intro (vin hM (x := (3 : Int32)) (i := 3) rfl (by decide)) ?_); rw [ld_st hM (x := (3 : Int32)) (i := 3) rfl (by decide)]
      rw [k3.1]
      refine And.intro (fun hc => ?_) (fun hc => ?_)
      · exact absurd (show nI c3 ≤ nI i from hc) (nI_ge (by omega) (by omega))
      repeat (first | (refine And.intro hM.1 (And.intro hM.2.1 ?_); rw [g_st hM]) | (refine And.intro hM.1 ?_; rw [fp_st hM]) | (refine And.intro hM.1 ?_; rw [fg_st hM]) | refine And.intro (by first | exact hM.1 | assumption | rfl | exact Nat.le_of_ble_eq_true rfl | exact Nat.zero_le _ | decide) ?_)
      refine c_underway hst hM 287 i 0 rfl rfl rfl (by omega) ?_
      refine And.intro (fun h1 => ?_) (fun h1 => ?_)
      · rw [if_neg h1] at i1
        exact i1
      · rw [if_pos h1] at i1
        repeat (first | (refine And.intro hM.1 (And.intro hM.2.1 ?_); rw [g_st hM]) | (refine And.intro hM.1 ?_; rw [fp_st hM]) | (refine And.intro hM.1 ?_; rw [fg_st hM]) | refine And.intro (by first | exact hM.1 | assumption | rfl | exact Nat.le_of_ble_eq_true rfl | exact Nat.zero_le _ | decide) ?_)
        refine c_underway hst hM 287 i 1 rfl rfl rfl (by omega) ?_
        exact i1
  have l0 := loop c3 0 (by omega)
  rw [show rep - s_pcs N 287 (nI p) 0 = rep from Int32.sub_zero _] at l0
  rw [← hC] at l0
  exact l0
theorem k_audit {l : Launch} (hst : l.stackTraces = false) {Q : Option Value → Hp → Prop} {X : String → Hp → Prop} {h : Hp} {m : Nat} {F N : Nat → Int32} (hM : MdS h m) (hL9 : MdL h m) {c0 c1 c2 c3 c4 : Nat} (hN : WFc N c0 c1 c2 c3 c4) (q : Q (some (.int (nI (s_aud N c3 c0)))) (st h m (upd F 0 0) N)) : CX9_audit l [.ref m] (st h m F N) Q X := by
  have k8 := hN.1.2
  refine eX9_audit hst (Nat.le_of_ble_eq_true rfl) (fun K hK => ?_)
  have loop : ∀ n i, i + n = c0 → K 9 [(2, .int (nI i)), (1, .int (nI (s_aud N c3 i))), (0, .ref m)] [] (st h m (upd F 0 0) N) (0, 0) := by
    intro n
    induction n with
    | zero =>
      intro i hi
      have : i = c0 := by omega
      subst this
      refine hK _ _ _ _ ?_
      repeat (first | (refine And.intro hM.1 (And.intro hM.2.1 ?_); rw [g_st hM]) | (refine And.intro hM.1 ?_; rw [fp_st hM]) | (refine And.intro hM.1 ?_; rw [fg_st hM]) | refine And.intro (by first | exact hM.1 | assumption | rfl | exact Nat.le_of_ble_eq_true rfl | exact Nat.zero_le _ | decide) ?_)
      refine And.intro (k20 hM) (And.intro (vin hM (x := (0 : Int32)) (i := 0) rfl (by decide)) ?_); rw [ld_st hM (x := (0 : Int32)) (i := 0) rfl (by decide)]
      rw [hN.1.1]
      refine And.intro (fun hc => ?_) (fun hc => ?_)
      · repeat (refine And.intro (by first | assumption | rfl | exact Nat.le_of_ble_eq_true rfl | exact Nat.zero_le _ | decide) ?_)
        exact q
      · exact absurd (Int32.le_refl _) hc
    | succ n ih =>
      intro i hi
      have i1 := ih (i + 1) (by omega)
      have e : s_aud N c3 (i + 1) = s_aud N c3 i + (if s_up N i (s_pcs N 287 (nI i) c3) = true then 0 else 1) := rfl
      refine hK _ _ _ _ ?_
      repeat (first | (refine And.intro hM.1 (And.intro hM.2.1 ?_); rw [g_st hM]) | (refine And.intro hM.1 ?_; rw [fp_st hM]) | (refine And.intro hM.1 ?_; rw [fg_st hM]) | refine And.intro (by first | exact hM.1 | assumption | rfl | exact Nat.le_of_ble_eq_true rfl | exact Nat.zero_le _ | decide) ?_)
      refine And.intro (k20 hM) (And.intro (vin hM (x := (0 : Int32)) (i := 0) rfl (by decide)) ?_); rw [ld_st hM (x := (0 : Int32)) (i := 0) rfl (by decide)]
      rw [hN.1.1]
      refine And.intro (fun hc => ?_) (fun hc => ?_)
      · exact absurd (show nI c0 ≤ nI i from hc) (nI_ge (by omega) (by omega))
      · repeat (first | (refine And.intro hM.1 (And.intro hM.2.1 ?_); rw [g_st hM]) | (refine And.intro hM.1 ?_; rw [fp_st hM]) | (refine And.intro hM.1 ?_; rw [fg_st hM]) | refine And.intro (by first | exact hM.1 | assumption | rfl | exact Nat.le_of_ble_eq_true rfl | exact Nat.zero_le _ | decide) ?_)
        refine c_addsUp hst hM hN (show i < c0 by omega) ?_
        cases hb : s_up N i (s_pcs N 287 (nI i) c3) with
        | true =>
          rw [if_pos hb] at e
          rw [e, ← nI_1 i, show nI (s_aud N c3 i + 0) = nI (s_aud N c3 i) + 0 from (Int32.add_zero _).symm] at i1
          refine And.intro (fun z => absurd z (by decide)) (fun _ => ?_)
          exact i1
        | false =>
          rw [if_neg (by rw [hb]; decide)] at e
          rw [e, ← nI_1 i, ← nI_1 (s_aud N c3 i)] at i1
          refine And.intro (fun _ => ?_) (fun z => absurd rfl z)
          exact i1
  repeat (first | (refine And.intro hM.1 (And.intro hM.2.1 ?_); rw [g_st hM]) | (refine And.intro hM.1 ?_; rw [fp_st hM]) | (refine And.intro hM.1 ?_; rw [fg_st hM]) | refine And.intro (by first | exact hM.1 | assumption | rfl | exact Nat.le_of_ble_eq_true rfl | exact Nat.zero_le _ | decide) ?_)
  exact loop c0 0 (by omega)
end R4

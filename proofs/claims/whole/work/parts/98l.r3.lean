section R3
theorem k_weakest {l : Launch} (hst : l.stackTraces = false) {Q : Option Value → Hp → Prop} {X : String → Hp → Prop} {h : Hp} {m : Nat} {F N : Nat → Int32} (hM : MdS h m) (hL9 : MdL h m) {c0 c1 c2 c3 c4 : Nat} {B : Int} (g : GI N c0 c1 c2 c3 c4 B) (x1 : s_wk N c0 = none → Q (some (.int 0)) (st h m (upd F 0 1) N)) (q : ∀ p, s_wk N c0 = some p → Q (some (.int (nI p))) (st h m (upd F 0 0) N)) : CX9_weakest l [.ref m] (st h m F N) Q X := by
  have hN := g.wf
  have k8 := hN.1.2
  refine eX9_weakest hst (Nat.le_of_ble_eq_true rfl) (fun K hK => ?_)
  have loop : ∀ n i, i + n = c0 → K 4 [(2, .int (nI i)), (1, .int (wkI (s_wk N i))), (0, .ref m)] [] (st h m F N) (0, 0) ∧ ∀ z, K 4 [(2, .int (nI i)), (1, .int (wkI (s_wk N i))), (3, .int z), (0, .ref m)] [] (st h m F N) (0, 0) := by
    intro n
    induction n with
    | zero =>
      intro i hi
      have : i = c0 := by omega
      subst this
      constructor
      rotate_left
      intro z
      all_goals
        refine hK _ _ _ _ ?_
        repeat (first | (refine And.intro hM.1 (And.intro hM.2.1 ?_); rw [g_st hM]) | (refine And.intro hM.1 ?_; rw [fp_st hM]) | (refine And.intro hM.1 ?_; rw [fg_st hM]) | refine And.intro (by first | exact hM.1 | assumption | rfl | exact Nat.le_of_ble_eq_true rfl | exact Nat.zero_le _ | decide) ?_)
        refine And.intro (k20 hM) (And.intro (vin hM (x := (0 : Int32)) (i := 0) rfl (by decide)) ?_); rw [ld_st hM (x := (0 : Int32)) (i := 0) rfl (by decide)]
        rw [hN.1.1]
        refine And.intro (fun hc => ?_) (fun hc => ?_)
        · cases wv : s_wk N i with
          | none =>
            repeat (first | (refine And.intro hM.1 (And.intro hM.2.1 ?_); rw [g_st hM]) | (refine And.intro hM.1 ?_; rw [fp_st hM]) | (refine And.intro hM.1 ?_; rw [fg_st hM]) | refine And.intro (by first | exact hM.1 | assumption | rfl | exact Nat.le_of_ble_eq_true rfl | exact Nat.zero_le _ | decide) ?_)
            refine And.intro (fun z => absurd z (by decide)) (fun _ => ?_)
            repeat (first | (refine And.intro hM.1 (And.intro hM.2.1 ?_); rw [g_st hM]) | (refine And.intro hM.1 ?_; rw [fp_st hM]) | (refine And.intro hM.1 ?_; rw [fg_st hM]) | refine And.intro (by first | exact hM.1 | assumption | rfl | exact Nat.le_of_ble_eq_true rfl | exact Nat.zero_le _ | decide) ?_)
            refine c_fails1 hst hM ?_
            repeat (first | (refine And.intro hM.1 (And.intro hM.2.1 ?_); rw [g_st hM]) | (refine And.intro hM.1 ?_; rw [fp_st hM]) | (refine And.intro hM.1 ?_; rw [fg_st hM]) | refine And.intro (by first | exact hM.1 | assumption | rfl | exact Nat.le_of_ble_eq_true rfl | exact Nat.zero_le _ | decide) ?_ | refine And.intro (fun _ => ?_) (fun hz => absurd hz (by decide)) | refine And.intro (fun hz => absurd hz (by decide)) (fun _ => ?_))
            exact x1 wv
          | some p =>
            have pl := (s_wk_lt N i p wv).1
            repeat (first | (refine And.intro hM.1 (And.intro hM.2.1 ?_); rw [g_st hM]) | (refine And.intro hM.1 ?_; rw [fp_st hM]) | (refine And.intro hM.1 ?_; rw [fg_st hM]) | refine And.intro (by first | exact hM.1 | assumption | rfl | exact Nat.le_of_ble_eq_true rfl | exact Nat.zero_le _ | decide) ?_)
            refine And.intro (fun _ => ?_) (fun z => absurd (nI_pos' (show p < 2 ^ 31 by omega)) z)
            repeat (first | (refine And.intro hM.1 (And.intro hM.2.1 ?_); rw [g_st hM]) | (refine And.intro hM.1 ?_; rw [fp_st hM]) | (refine And.intro hM.1 ?_; rw [fg_st hM]) | refine And.intro (by first | exact hM.1 | assumption | rfl | exact Nat.le_of_ble_eq_true rfl | exact Nat.zero_le _ | decide) ?_)
            refine c_fails0 hst hM ?_
            repeat (first | (refine And.intro hM.1 (And.intro hM.2.1 ?_); rw [g_st hM]) | (refine And.intro hM.1 ?_; rw [fp_st hM]) | (refine And.intro hM.1 ?_; rw [fg_st hM]) | refine And.intro (by first | exact hM.1 | assumption | rfl | exact Nat.le_of_ble_eq_true rfl | exact Nat.zero_le _ | decide) ?_ | refine And.intro (fun _ => ?_) (fun hz => absurd hz (by decide)) | refine And.intro (fun hz => absurd hz (by decide)) (fun _ => ?_))
            exact q p wv
        · exact absurd (Int32.le_refl _) hc
    | succ n ih =>
      intro i hi
      have hic : i < c0 := by omega
      obtain ⟨i1, i2⟩ := ih (i + 1) (by omega)
      have e : s_wk N (i + 1) = if N (7 + i * 23 + 21) ≤ 0 then s_wk N i else match s_wk N i with | none => some i | some p => if 0 ≤ Op.cmpValue (FP.fcmp (s_sh N i) (s_sh N p)) .g then some p else some i := rfl
      constructor
      rotate_left
      intro z
      all_goals
        refine hK _ _ _ _ ?_
        repeat (first | (refine And.intro hM.1 (And.intro hM.2.1 ?_); rw [g_st hM]) | (refine And.intro hM.1 ?_; rw [fp_st hM]) | (refine And.intro hM.1 ?_; rw [fg_st hM]) | refine And.intro (by first | exact hM.1 | assumption | rfl | exact Nat.le_of_ble_eq_true rfl | exact Nat.zero_le _ | decide) ?_)
        refine And.intro (k20 hM) (And.intro (vin hM (x := (0 : Int32)) (i := 0) rfl (by decide)) ?_); rw [ld_st hM (x := (0 : Int32)) (i := 0) rfl (by decide)]
        rw [hN.1.1]
        refine And.intro (fun hc => ?_) (fun hc => ?_)
        · exact absurd (show nI c0 ≤ nI i from hc) (nI_ge (by omega) (by omega))
        · repeat (first | (refine And.intro hM.1 (And.intro hM.2.1 ?_); rw [g_st hM]) | (refine And.intro hM.1 ?_; rw [fp_st hM]) | (refine And.intro hM.1 ?_; rw [fg_st hM]) | refine And.intro (by first | exact hM.1 | assumption | rfl | exact Nat.le_of_ble_eq_true rfl | exact Nat.zero_le _ | decide) ?_)
          refine c_of hst hM i 21 rfl rfl (by omega) ?_
          refine And.intro (fun hz => ?_) (fun hz => ?_)
          · rw [if_pos hz] at e
            rw [e, ← nI_1 i] at i2
            refine And.intro (fun _ => ?_) (fun z => absurd rfl z)
            exact i2 0
          · rw [if_neg hz] at e
            refine And.intro (fun z => absurd z (by decide)) (fun _ => ?_)
            cases wv : s_wk N i with
            | none =>
              rw [wv] at e
              rw [e, ← nI_1 i] at i2
              refine And.intro (fun _ => ?_) (fun z => absurd (by decide) z)
              exact i2 1
            | some p =>
              rw [wv] at e
              dsimp only at e
              obtain ⟨pl, pr9⟩ := s_wk_lt N i p wv
              refine And.intro (fun z => absurd z (nI_pos (show p < 2 ^ 31 by omega))) (fun _ => ?_)
              repeat (first | (refine And.intro hM.1 (And.intro hM.2.1 ?_); rw [g_st hM]) | (refine And.intro hM.1 ?_; rw [fp_st hM]) | (refine And.intro hM.1 ?_; rw [fg_st hM]) | refine And.intro (by first | exact hM.1 | assumption | rfl | exact Nat.le_of_ble_eq_true rfl | exact Nat.zero_le _ | decide) ?_)
              refine c_share hst hM g hic hz ?_
              repeat (first | (refine And.intro hM.1 (And.intro hM.2.1 ?_); rw [g_st hM]) | (refine And.intro hM.1 ?_; rw [fp_st hM]) | (refine And.intro hM.1 ?_; rw [fg_st hM]) | refine And.intro (by first | exact hM.1 | assumption | rfl | exact Nat.le_of_ble_eq_true rfl | exact Nat.zero_le _ | decide) ?_)
              refine c_share hst hM g (by omega) pr9 ?_
              refine And.intro (fun hg => ?_) (fun hg => ?_)
              · have hg' : 0 ≤ Op.cmpValue (FP.fcmp (s_sh N i) (s_sh N p)) .g := hg
                rw [if_pos hg'] at e
                rw [e, ← nI_1 i] at i2
                exact i2 1
              · have hg' : ¬ 0 ≤ Op.cmpValue (FP.fcmp (s_sh N i) (s_sh N p)) .g := hg
                rw [if_neg hg'] at e
                rw [e, ← nI_1 i] at i2
                exact i2 1
  exact (loop c0 0 (by omega)).1
end R3

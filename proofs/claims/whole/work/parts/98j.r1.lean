section R1
/-- a sample is written into the rows -/
def smw (h : Hp) (m i : Nat) (a b c d : Int32) : Hp := wI (wI (wI (wI (wI h (m + 15 + i) 0 a) (m + 15 + i) 1 b) (m + 15 + i) 2 c) (m + 15 + i) 3 d) (m + 21) i 1
theorem smw_f {h : Hp} {m i : Nat} {a b c d : Int32} (hi : i < 6) : hI (smw h m i a b c d) (m + 21) = upd (hI h (m + 21)) i 1 := funext fun k => by
  unfold smw
  by_cases z : k = i
  · subst z; rw [hI_wI_s, pk_us]
  · rw [hI_wI_k z, pk_un z, hI_wI_o (by omega), hI_wI_o (by omega), hI_wI_o (by omega), hI_wI_o (by omega)]
theorem k_sample {l : Launch} (hst : l.stackTraces = false) {Q : Option Value → Hp → Prop} {X : String → Hp → Prop} {h : Hp} {m : Nat} {F N : Nat → Int32} (hM : MdS h m) (hL9 : MdL h m) {c0 c1 c2 c3 c4 : Nat} (hN : WFc N c0 c1 c2 c3 c4) {S O P : Int32} (x1 : ¬ (((0 ≤ S ∧ S < 2) ∧ 0 ≤ O ∧ O < 3) ∧ (0 ≤ P ∧ P < nI c0)) → Q (some (.int 0)) (st h m (upd F 0 1) N)) (x2 : ∀ p, ((0 ≤ S ∧ S < 2) ∧ 0 ≤ O ∧ O < 3) → P = nI p → p < c0 → S = 0 → ¬ s_pos N p < N (7 + p * 23 + 2) → Q (some (.int 0)) (st h m (upd F 0 2) N)) (q : ∀ a b p, S = nI a → a < 2 → O = nI b → b < 3 → P = nI p → p < c0 → (a = 0 → s_pos N p < N (7 + p * 23 + 2)) → Q (some (.int (nI (s_fill (upd (hI h (m + 21)) (a * 3 + b) 1) a 3)))) (st (smw h m (a * 3 + b) (nI p) (N (7 + p * 23 + 0)) (s_pos N p) (N 5)) m (upd F 0 0) N)) : CX9_sample l [.ref m, .int S, .int O, .int P] (st h m F N) Q X := by
  have k8 := hN.1.2
  refine eX9_sample hst (Nat.le_of_ble_eq_true rfl) (fun K hK => ?_)
  repeat (refine And.intro (by first | assumption | rfl | exact Nat.le_of_ble_eq_true rfl | exact Nat.zero_le _ | decide) ?_)
  refine c_isPlace hst (fun hv => ?_) (fun hv => ?_)
  rotate_left
  · repeat (first | (refine And.intro hM.1 (And.intro hM.2.1 ?_); rw [g_st hM]) | (refine And.intro hM.1 ?_; rw [fp_st hM]) | (refine And.intro hM.1 ?_; rw [fg_st hM]) | refine And.intro (by first | exact hM.1 | assumption | rfl | exact Nat.le_of_ble_eq_true rfl | exact Nat.zero_le _ | decide) ?_ | refine And.intro (fun _ => ?_) (fun hz => absurd hz (by decide)) | refine And.intro (fun hz => absurd hz (by decide)) (fun _ => ?_))
    refine c_fails1 hst hM ?_
    repeat (first | (refine And.intro hM.1 (And.intro hM.2.1 ?_); rw [g_st hM]) | (refine And.intro hM.1 ?_; rw [fp_st hM]) | (refine And.intro hM.1 ?_; rw [fg_st hM]) | refine And.intro (by first | exact hM.1 | assumption | rfl | exact Nat.le_of_ble_eq_true rfl | exact Nat.zero_le _ | decide) ?_ | refine And.intro (fun _ => ?_) (fun hz => absurd hz (by decide)) | refine And.intro (fun hz => absurd hz (by decide)) (fun _ => ?_))
    exact x1 (fun z => hv z.1)
  repeat (first | (refine And.intro hM.1 (And.intro hM.2.1 ?_); rw [g_st hM]) | (refine And.intro hM.1 ?_; rw [fp_st hM]) | (refine And.intro hM.1 ?_; rw [fg_st hM]) | refine And.intro (by first | exact hM.1 | assumption | rfl | exact Nat.le_of_ble_eq_true rfl | exact Nat.zero_le _ | decide) ?_ | refine And.intro (fun _ => ?_) (fun hz => absurd hz (by decide)) | refine And.intro (fun hz => absurd hz (by decide)) (fun _ => ?_))
  by_cases hP : 0 ≤ P ∧ P < nI c0
  rotate_left
  · refine c_isPart0 hst hM hN.1.1 hN.1.2 hP ?_
    repeat (first | (refine And.intro hM.1 (And.intro hM.2.1 ?_); rw [g_st hM]) | (refine And.intro hM.1 ?_; rw [fp_st hM]) | (refine And.intro hM.1 ?_; rw [fg_st hM]) | refine And.intro (by first | exact hM.1 | assumption | rfl | exact Nat.le_of_ble_eq_true rfl | exact Nat.zero_le _ | decide) ?_ | refine And.intro (fun _ => ?_) (fun hz => absurd hz (by decide)) | refine And.intro (fun hz => absurd hz (by decide)) (fun _ => ?_))
    refine c_fails1 hst hM ?_
    repeat (first | (refine And.intro hM.1 (And.intro hM.2.1 ?_); rw [g_st hM]) | (refine And.intro hM.1 ?_; rw [fp_st hM]) | (refine And.intro hM.1 ?_; rw [fg_st hM]) | refine And.intro (by first | exact hM.1 | assumption | rfl | exact Nat.le_of_ble_eq_true rfl | exact Nat.zero_le _ | decide) ?_ | refine And.intro (fun _ => ?_) (fun hz => absurd hz (by decide)) | refine And.intro (fun hz => absurd hz (by decide)) (fun _ => ?_))
    exact x1 (fun z => hP z.2)
  obtain ⟨p, p1, p2⟩ := in9 (c := c0) (by omega) hP
  subst p2
  refine c_isPart1 hst hM hN.1.1 hN.1.2 p1 ?_
  repeat (first | (refine And.intro hM.1 (And.intro hM.2.1 ?_); rw [g_st hM]) | (refine And.intro hM.1 ?_; rw [fp_st hM]) | (refine And.intro hM.1 ?_; rw [fg_st hM]) | refine And.intro (by first | exact hM.1 | assumption | rfl | exact Nat.le_of_ble_eq_true rfl | exact Nat.zero_le _ | decide) ?_ | refine And.intro (fun _ => ?_) (fun hz => absurd hz (by decide)) | refine And.intro (fun hz => absurd hz (by decide)) (fun _ => ?_))
  refine c_fails0 hst hM ?_
  refine And.intro (fun z => absurd rfl z) (fun _ => ?_)
  obtain ⟨a, a2, ea⟩ := in9 (c := 2) (by decide) hv.1
  obtain ⟨b, b3, eb⟩ := in9 (c := 3) (by decide) hv.2
  have i6 : a * 3 + b < 6 := by omega
  have ei : (3 : Int32) * S + O = nI (a * 3 + b) := by rw [ea, eb]; exact ix3m a b
  have good : (a = 0 → s_pos N p < N (7 + p * 23 + 2)) → fX9_sample_53 l Q X K (lv_args 0 [.ref m, .int S, .int O, .int (nI p)]) [.int 2, .ref m] (st h m (upd F 0 0) N) (0, 0) := by
    intro h0
    have fin := q a b p ea a2 eb b3 rfl p1 h0
    repeat (first | (refine And.intro hM.1 (And.intro hM.2.1 ?_); rw [g_st hM]) | (refine And.intro hM.1 ?_; rw [fp_st hM]) | (refine And.intro hM.1 ?_; rw [fg_st hM]) | refine And.intro (by first | exact hM.1 | assumption | rfl | exact Nat.le_of_ble_eq_true rfl | exact Nat.zero_le _ | decide) ?_)
    refine c_fails0u hst hM ?_
    refine And.intro (fun _ => ?_) (fun z => absurd rfl z)
    refine And.intro hM.1 ?_
    refine And.intro (g13n hL9) ?_
    rw [g13 hL9]
    refine aa_of (H := st h m (upd F 0 0) N) (r := m + 15 + (a * 3 + b)) hL9.2.2.2.2.2.2.1.2 ei i6 (by decide) (hL9.2.2.2.2.2.2.2.1 _ i6).1 (by omega) ?_
    have hsm : ∀ h : Hp, MdL h m → hs h (m + 15 + (a * 3 + b)) = (20, 4) := fun h L => (L.2.2.2.2.2.2.2.1 _ i6).2
    refine is_of (H := st h m (upd F 0 0) N) (hsm h hL9) rfl (show 0 < 4 by decide) (by decide) ?_
    rw [st_wO (by omega) (by omega)]
    generalize hA : wI h (m + 15 + (a * 3 + b)) 0 (nI p) = hA9
    have mA : MdS hA9 m := by rw [← hA]; exact hM.of rfl rfl
    have lA : MdL hA9 m := by rw [← hA]; exact hL9.of rfl rfl
    have hM0 := hM
    have hM := mA
    repeat (first | (refine And.intro hM.1 (And.intro hM.2.1 ?_); rw [g_st hM]) | (refine And.intro hM.1 ?_; rw [fp_st hM]) | (refine And.intro hM.1 ?_; rw [fg_st hM]) | refine And.intro (by first | exact hM.1 | assumption | rfl | exact Nat.le_of_ble_eq_true rfl | exact Nat.zero_le _ | decide) ?_)
    refine c_of hst hM p 0 rfl rfl (by omega) ?_
    refine is_of (H := st hA9 m (upd F 0 0) N) (hsm hA9 lA) rfl (show 1 < 4 by decide) (by decide) ?_
    rw [st_wO (by omega) (by omega)]
    generalize hB : wI hA9 (m + 15 + (a * 3 + b)) 1 (N (7 + p * 23 + 0)) = hB9
    have mB : MdS hB9 m := by rw [← hB]; exact mA.of rfl rfl
    have lB : MdL hB9 m := by rw [← hB]; exact lA.of rfl rfl
    have hM := mB
    repeat (first | (refine And.intro hM.1 (And.intro hM.2.1 ?_); rw [g_st hM]) | (refine And.intro hM.1 ?_; rw [fp_st hM]) | (refine And.intro hM.1 ?_; rw [fg_st hM]) | refine And.intro (by first | exact hM.1 | assumption | rfl | exact Nat.le_of_ble_eq_true rfl | exact Nat.zero_le _ | decide) ?_)
    refine c_position hst hM p rfl (by omega) hN.cOk ?_
    refine is_of (H := st hB9 m (upd F 0 0) N) (hsm hB9 lB) rfl (show 2 < 4 by decide) (by decide) ?_
    rw [st_wO (by omega) (by omega)]
    generalize hC : wI hB9 (m + 15 + (a * 3 + b)) 2 (s_pos N p) = hC9
    have mC : MdS hC9 m := by rw [← hC]; exact mB.of rfl rfl
    have lC : MdL hC9 m := by rw [← hC]; exact lB.of rfl rfl
    have hM := mC
    repeat (first | (refine And.intro hM.1 (And.intro hM.2.1 ?_); rw [g_st hM]) | (refine And.intro hM.1 ?_; rw [fp_st hM]) | (refine And.intro hM.1 ?_; rw [fg_st hM]) | refine And.intro (by first | exact hM.1 | assumption | rfl | exact Nat.le_of_ble_eq_true rfl | exact Nat.zero_le _ | decide) ?_)
    refine And.intro (k20 hM) (And.intro (vin hM (x := (5 : Int32)) (i := 5) rfl (by decide)) ?_); rw [ld_st hM (x := (5 : Int32)) (i := 5) rfl (by decide)]
    refine is_of (H := st hC9 m (upd F 0 0) N) (hsm hC9 lC) rfl (show 3 < 4 by decide) (by decide) ?_
    rw [st_wO (by omega) (by omega)]
    generalize hD9 : wI hC9 (m + 15 + (a * 3 + b)) 3 (N 5) = hDD
    have mD : MdS hDD m := by rw [← hD9]; exact mC.of rfl rfl
    have lD : MdL hDD m := by rw [← hD9]; exact lC.of rfl rfl
    have hM := mD
    refine And.intro hM.1 ?_
    refine And.intro (g14n lD) ?_
    rw [g14 lD]
    refine zs_of (H := st hDD m (upd F 0 0) N) lD.2.2.2.2.2.2.2.2.1.2 ei i6 (by decide) rfl ?_
    rw [st_wO (by omega) (by omega)]
    have eE : wI hDD (m + 21) (a * 3 + b) 1 = smw h m (a * 3 + b) (nI p) (N (7 + p * 23 + 0)) (s_pos N p) (N 5) := by rw [← hD9, ← hC, ← hB, ← hA]; rfl
    rw [eE]
    have fl : hI (smw h m (a * 3 + b) (nI p) (N (7 + p * 23 + 0)) (s_pos N p) (N 5)) (m + 21) = upd (hI h (m + 21)) (a * 3 + b) 1 := smw_f i6
    have mE : MdS (smw h m (a * 3 + b) (nI p) (N (7 + p * 23 + 0)) (s_pos N p) (N 5)) m := hM0.of rfl rfl
    have lE : MdL (smw h m (a * 3 + b) (nI p) (N (7 + p * 23 + 0)) (s_pos N p) (N 5)) m := hL9.of rfl rfl
    generalize smw h m (a * 3 + b) (nI p) (N (7 + p * 23 + 0)) (s_pos N p) (N 5) = hE at fin fl mE lE ⊢
    have loop : ∀ (n i : Nat), i + n = 3 → K 125 [(6, .int (nI i)), (5, .int (nI (s_fill (hI hE (m + 21)) a i))), (4, .ref (m + 15 + (a * 3 + b))), (0, .ref m), (1, .int S), (2, .int O), (3, .int (nI p))] [] (st hE m (upd F 0 0) N) (0, 0) := by
      intro n
      induction n with
      | zero =>
        intro i hi
        have : i = 3 := by omega
        subst this
        refine hK _ _ _ _ ?_
        refine And.intro (fun hc => ?_) (fun hc => ?_)
        · repeat (refine And.intro (by first | assumption | rfl | exact Nat.le_of_ble_eq_true rfl | exact Nat.zero_le _ | decide) ?_)
          rw [fl]
          exact fin
        · exact absurd (show nI 3 ≤ nI 3 from Int32.le_refl _) hc
      | succ n ih =>
        intro i hi
        have nx := ih (i + 1) (by omega)
        have e : s_fill (hI hE (m + 21)) a (i + 1) = s_fill (hI hE (m + 21)) a i + (if hI hE (m + 21) (a * 3 + i) = 0 then 0 else 1) := rfl
        refine hK _ _ _ _ ?_
        refine And.intro (fun hc => ?_) (fun hc => ?_)
        · exact absurd (show nI 3 ≤ nI i from hc) (nI_ge (by omega) (by decide))
        · refine And.intro mE.1 ?_
          refine And.intro (g14n lE) ?_
          rw [g14 lE]
          refine za_of (H := st hE m (upd F 0 0) N) (j := a * 3 + i) lE.2.2.2.2.2.2.2.2.1.2 (by rw [ea]; exact ix3m a i) (by omega) (by decide) rfl ?_
          rw [st_o (by omega) (by omega)]
          refine And.intro (fun hz => ?_) (fun hz => ?_)
          · rw [if_pos hz] at e
            rw [e, ← nI_1 i, show nI (s_fill (hI hE (m + 21)) a i + 0) = nI (s_fill (hI hE (m + 21)) a i) + 0 from (Int32.add_zero _).symm] at nx
            exact nx
          · rw [if_neg hz] at e
            rw [e, ← nI_1 i, ← nI_1 (s_fill (hI hE (m + 21)) a i)] at nx
            exact nx
    exact loop 3 0 rfl
  refine And.intro (fun hS => ?_) (fun hS => ?_)
  · exact good (fun z => absurd (by rw [ea, z]; rfl) hS)
  repeat (first | (refine And.intro hM.1 (And.intro hM.2.1 ?_); rw [g_st hM]) | (refine And.intro hM.1 ?_; rw [fp_st hM]) | (refine And.intro hM.1 ?_; rw [fg_st hM]) | refine And.intro (by first | exact hM.1 | assumption | rfl | exact Nat.le_of_ble_eq_true rfl | exact Nat.zero_le _ | decide) ?_)
  refine c_position hst hM p rfl (by omega) hN.cOk ?_
  repeat (first | (refine And.intro hM.1 (And.intro hM.2.1 ?_); rw [g_st hM]) | (refine And.intro hM.1 ?_; rw [fp_st hM]) | (refine And.intro hM.1 ?_; rw [fg_st hM]) | refine And.intro (by first | exact hM.1 | assumption | rfl | exact Nat.le_of_ble_eq_true rfl | exact Nat.zero_le _ | decide) ?_)
  refine c_of hst hM p 2 rfl rfl (by omega) ?_
  refine And.intro (fun hl => ?_) (fun hl => ?_)
  · exact good (fun _ => hl)
  · repeat (first | (refine And.intro hM.1 (And.intro hM.2.1 ?_); rw [g_st hM]) | (refine And.intro hM.1 ?_; rw [fp_st hM]) | (refine And.intro hM.1 ?_; rw [fg_st hM]) | refine And.intro (by first | exact hM.1 | assumption | rfl | exact Nat.le_of_ble_eq_true rfl | exact Nat.zero_le _ | decide) ?_)
    refine c_fails1u hst hM ?_
    repeat (first | (refine And.intro hM.1 (And.intro hM.2.1 ?_); rw [g_st hM]) | (refine And.intro hM.1 ?_; rw [fp_st hM]) | (refine And.intro hM.1 ?_; rw [fg_st hM]) | refine And.intro (by first | exact hM.1 | assumption | rfl | exact Nat.le_of_ble_eq_true rfl | exact Nat.zero_le _ | decide) ?_ | refine And.intro (fun _ => ?_) (fun hz => absurd hz (by decide)) | refine And.intro (fun hz => absurd hz (by decide)) (fun _ => ?_))
    exact x2 p hv rfl p1 hS hl
end R1

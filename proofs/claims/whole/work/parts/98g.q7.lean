section Q7
theorem k_addKit {l : Launch} (hst : l.stackTraces = false) {Q : Option Value → Hp → Prop} {X : String → Hp → Prop} {h : Hp} {m : Nat} {F N : Nat → Int32} (hM : MdS h m) (hL9 : MdL h m) {c0 c1 c2 c3 c4 : Nat} (hN : WFc N c0 c1 c2 c3 c4) {r : Nat} (hr : F 5 = nI r) (r8 : r ≤ 8) {K9 P v : Int32} (x1 : ¬ ((0 ≤ P ∧ P < nI c0) ∧ 0 ≤ K9 ∧ K9 ≤ nI c1) → Q (some (.int 0)) (st h m (upd F 0 1) N)) (x2 : ((0 ≤ P ∧ P < nI c0) ∧ 0 ≤ K9 ∧ K9 ≤ nI c1) → ¬ (1 ≤ v ∧ v ≤ 9) → Q (some (.int 0)) (st h m (upd F 0 2) N)) (x3 : ((0 ≤ P ∧ P < nI c0) ∧ 0 ≤ K9 ∧ K9 ≤ nI c1) → (1 ≤ v ∧ v ≤ 9) → ((K9 = nI c1 ∧ c1 = 4) ∨ ∃ k c, K9 = nI k ∧ k < c1 ∧ N (191 + k * 9) = nI c ∧ c ≤ 4 ∧ (c = 4 ∨ s_has N k P c = true)) → Q (some (.int 0)) (st h m (upd F 0 3) N))
    (q1 : ∀ s, P = nI s → s < c0 → K9 = nI c1 → c1 < 4 → 1 ≤ v ∧ v ≤ 9 → Q (some (.int (nI 1))) (st (hpush h m r N) m (upd (upd F 0 0) 5 (nI (pr r))) (r_addi (r_newk N c1) c1 0 (nI s) v)))
    (q2 : ∀ s k c, P = nI s → s < c0 → K9 = nI k → k < c1 → N (191 + k * 9) = nI c → c < 4 → s_has N k P c = false → 1 ≤ v ∧ v ≤ 9 → Q (some (.int (nI (c + 1)))) (st (hpush h m r N) m (upd (upd F 0 0) 5 (nI (pr r))) (r_addi N k c (nI s) v))) : CX9_addKit l [.ref m, .int K9, .int P, .int v] (st h m F N) Q X := by
  have k8 := hN.1.2
  have k4 := hN.2.1.2
  refine eX9_addKit hst (Nat.le_of_ble_eq_true rfl) (fun K => ?_)
  have put : ∀ (h9 : Hp) (F9 M : Nat → Int32) (k c : Nat) (b K9 P : Int32), MdS h9 m → k < 4 → M (191 + k * 9) = nI c → c < 4 → Q (some (.int (nI (c + 1)))) (st h9 m F9 (r_addi M k c P v)) → fX9_addKit_165 l Q X K [(5, .int (nI (191 + k * 9))), (4, .int b), (0, .ref m), (1, .int K9), (2, .int P), (3, .int v)] [] (st h9 m F9 M) (0, 0) := by
    intro h9 F9 M k c b K9 P hM hk hc c4 fin
    have i1 : nI (191 + k * 9) + 1 + 2 * nI c = nI (191 + k * 9 + 1 + 2 * c + 0) := by
      rw [nI_1, show (2 : Int32) = nI 2 from rfl, pk_mul, nI_add]
      rfl
    have i2 : nI (191 + k * 9) + 2 + 2 * nI c = nI (191 + k * 9 + 1 + 2 * c + 1) := by
      rw [show (2 : Int32) = nI 2 from rfl, pk_mul, nI_add, nI_add, show 191 + k * 9 + 2 + 2 * c = 191 + k * 9 + 1 + 2 * c + 1 by omega]
    repeat (first | (refine And.intro hM.1 (And.intro hM.2.1 ?_); rw [g_st hM]) | (refine And.intro hM.1 ?_; rw [fp_st hM]) | (refine And.intro hM.1 ?_; rw [fg_st hM]) | refine And.intro (by first | exact hM.1 | assumption | rfl | exact Nat.le_of_ble_eq_true rfl | exact Nat.zero_le _ | decide) ?_)
    refine And.intro (k20 hM) (And.intro (vin hM (i := 191 + k * 9) rfl (by omega)) ?_); rw [ld_st hM (i := 191 + k * 9) rfl (by omega)]
    rw [hc]
    refine And.intro (k20 hM) (And.intro (vin hM (i := 191 + k * 9 + 1 + 2 * c + 0) i1 (by omega)) ?_); rw [sd_st hM (i := 191 + k * 9 + 1 + 2 * c + 0) i1 (by omega)]
    repeat (first | (refine And.intro hM.1 (And.intro hM.2.1 ?_); rw [g_st hM]) | (refine And.intro hM.1 ?_; rw [fp_st hM]) | (refine And.intro hM.1 ?_; rw [fg_st hM]) | refine And.intro (by first | exact hM.1 | assumption | rfl | exact Nat.le_of_ble_eq_true rfl | exact Nat.zero_le _ | decide) ?_)
    refine And.intro (k20 hM) (And.intro (vin hM (i := 191 + k * 9) rfl (by omega)) ?_); rw [ld_st hM (i := 191 + k * 9) rfl (by omega)]
    rw [pk_un (show 191 + k * 9 ≠ 191 + k * 9 + 1 + 2 * c + 0 by omega), hc]
    refine And.intro (k20 hM) (And.intro (vin hM (i := 191 + k * 9 + 1 + 2 * c + 1) i2 (by omega)) ?_); rw [sd_st hM (i := 191 + k * 9 + 1 + 2 * c + 1) i2 (by omega)]
    repeat (first | (refine And.intro hM.1 (And.intro hM.2.1 ?_); rw [g_st hM]) | (refine And.intro hM.1 ?_; rw [fp_st hM]) | (refine And.intro hM.1 ?_; rw [fg_st hM]) | refine And.intro (by first | exact hM.1 | assumption | rfl | exact Nat.le_of_ble_eq_true rfl | exact Nat.zero_le _ | decide) ?_)
    refine And.intro (k20 hM) (And.intro (vin hM (i := 191 + k * 9) rfl (by omega)) ?_); rw [ld_st hM (i := 191 + k * 9) rfl (by omega)]
    rw [pk_un (show 191 + k * 9 ≠ 191 + k * 9 + 1 + 2 * c + 1 by omega), pk_un (show 191 + k * 9 ≠ 191 + k * 9 + 1 + 2 * c + 0 by omega), hc]
    refine And.intro (k20 hM) (And.intro (vin hM (i := 191 + k * 9) rfl (by omega)) ?_); rw [sd_st hM (i := 191 + k * 9) rfl (by omega)]
    repeat (first | (refine And.intro hM.1 (And.intro hM.2.1 ?_); rw [g_st hM]) | (refine And.intro hM.1 ?_; rw [fp_st hM]) | (refine And.intro hM.1 ?_; rw [fg_st hM]) | refine And.intro (by first | exact hM.1 | assumption | rfl | exact Nat.le_of_ble_eq_true rfl | exact Nat.zero_le _ | decide) ?_)
    refine And.intro (k20 hM) (And.intro (vin hM (i := 191 + k * 9) rfl (by omega)) ?_); rw [ld_st hM (i := 191 + k * 9) rfl (by omega)]
    rw [pk_us, show nI c + 1 = nI (c + 1) from nI_1 c]
    repeat (first | (refine And.intro hM.1 (And.intro hM.2.1 ?_); rw [g_st hM]) | (refine And.intro hM.1 ?_; rw [fp_st hM]) | (refine And.intro hM.1 ?_; rw [fg_st hM]) | refine And.intro (by first | exact hM.1 | assumption | rfl | exact Nat.le_of_ble_eq_true rfl | exact Nat.zero_le _ | decide) ?_)
    unfold r_addi at fin
    rw [show nI c + 1 = nI (c + 1) from nI_1 c] at fin
    exact fin
  have eb : ∀ k : Nat, (191 : Int32) + nI k * 9 = nI (191 + k * 9) := fun k => by rw [show (191 : Int32) = nI 191 from rfl, show (9 : Int32) = nI 9 from rfl, pk_mul, nI_add]
  by_cases hP : 0 ≤ P ∧ P < nI c0
  rotate_left
  · repeat (first | (refine And.intro hM.1 (And.intro hM.2.1 ?_); rw [g_st hM]) | (refine And.intro hM.1 ?_; rw [fp_st hM]) | (refine And.intro hM.1 ?_; rw [fg_st hM]) | refine And.intro (by first | exact hM.1 | assumption | rfl | exact Nat.le_of_ble_eq_true rfl | exact Nat.zero_le _ | decide) ?_)
    refine c_isPart0 hst hM hN.1.1 hN.1.2 hP ?_
    repeat (first | (refine And.intro hM.1 (And.intro hM.2.1 ?_); rw [g_st hM]) | (refine And.intro hM.1 ?_; rw [fp_st hM]) | (refine And.intro hM.1 ?_; rw [fg_st hM]) | refine And.intro (by first | exact hM.1 | assumption | rfl | exact Nat.le_of_ble_eq_true rfl | exact Nat.zero_le _ | decide) ?_ | refine And.intro (fun _ => ?_) (fun hz => absurd hz (by decide)) | refine And.intro (fun hz => absurd hz (by decide)) (fun _ => ?_))
    refine c_fails1 hst hM ?_
    repeat (first | (refine And.intro hM.1 (And.intro hM.2.1 ?_); rw [g_st hM]) | (refine And.intro hM.1 ?_; rw [fp_st hM]) | (refine And.intro hM.1 ?_; rw [fg_st hM]) | refine And.intro (by first | exact hM.1 | assumption | rfl | exact Nat.le_of_ble_eq_true rfl | exact Nat.zero_le _ | decide) ?_ | refine And.intro (fun _ => ?_) (fun hz => absurd hz (by decide)) | refine And.intro (fun hz => absurd hz (by decide)) (fun _ => ?_))
    exact x1 (fun z => hP z.1)
  obtain ⟨s, s1, s2⟩ := in9 (c := c0) (by omega) hP
  subst s2
  repeat (first | (refine And.intro hM.1 (And.intro hM.2.1 ?_); rw [g_st hM]) | (refine And.intro hM.1 ?_; rw [fp_st hM]) | (refine And.intro hM.1 ?_; rw [fg_st hM]) | refine And.intro (by first | exact hM.1 | assumption | rfl | exact Nat.le_of_ble_eq_true rfl | exact Nat.zero_le _ | decide) ?_)
  refine c_isPart1 hst hM hN.1.1 hN.1.2 s1 ?_
  repeat (first | (refine And.intro hM.1 (And.intro hM.2.1 ?_); rw [g_st hM]) | (refine And.intro hM.1 ?_; rw [fp_st hM]) | (refine And.intro hM.1 ?_; rw [fg_st hM]) | refine And.intro (by first | exact hM.1 | assumption | rfl | exact Nat.le_of_ble_eq_true rfl | exact Nat.zero_le _ | decide) ?_ | refine And.intro (fun _ => ?_) (fun hz => absurd hz (by decide)) | refine And.intro (fun hz => absurd hz (by decide)) (fun _ => ?_))
  refine And.intro (k20 hM) (And.intro (vin hM (x := (1 : Int32)) (i := 1) rfl (by decide)) ?_); rw [ld_st hM (x := (1 : Int32)) (i := 1) rfl (by decide)]
  rw [hN.2.1.1]
  repeat (refine And.intro (by first | assumption | rfl | exact Nat.le_of_ble_eq_true rfl | exact Nat.zero_le _ | decide) ?_)
  by_cases hK : 0 ≤ K9 ∧ K9 ≤ nI c1
  rotate_left
  · refine c_isBet0 hst hK ?_
    repeat (first | (refine And.intro hM.1 (And.intro hM.2.1 ?_); rw [g_st hM]) | (refine And.intro hM.1 ?_; rw [fp_st hM]) | (refine And.intro hM.1 ?_; rw [fg_st hM]) | refine And.intro (by first | exact hM.1 | assumption | rfl | exact Nat.le_of_ble_eq_true rfl | exact Nat.zero_le _ | decide) ?_ | refine And.intro (fun _ => ?_) (fun hz => absurd hz (by decide)) | refine And.intro (fun hz => absurd hz (by decide)) (fun _ => ?_))
    refine c_fails1 hst hM ?_
    repeat (first | (refine And.intro hM.1 (And.intro hM.2.1 ?_); rw [g_st hM]) | (refine And.intro hM.1 ?_; rw [fp_st hM]) | (refine And.intro hM.1 ?_; rw [fg_st hM]) | refine And.intro (by first | exact hM.1 | assumption | rfl | exact Nat.le_of_ble_eq_true rfl | exact Nat.zero_le _ | decide) ?_ | refine And.intro (fun _ => ?_) (fun hz => absurd hz (by decide)) | refine And.intro (fun hz => absurd hz (by decide)) (fun _ => ?_))
    exact x1 (fun z => hK z.2)
  refine c_isBet1 hst hK ?_
  repeat (first | (refine And.intro hM.1 (And.intro hM.2.1 ?_); rw [g_st hM]) | (refine And.intro hM.1 ?_; rw [fp_st hM]) | (refine And.intro hM.1 ?_; rw [fg_st hM]) | refine And.intro (by first | exact hM.1 | assumption | rfl | exact Nat.le_of_ble_eq_true rfl | exact Nat.zero_le _ | decide) ?_ | refine And.intro (fun _ => ?_) (fun hz => absurd hz (by decide)) | refine And.intro (fun hz => absurd hz (by decide)) (fun _ => ?_))
  refine c_fails0 hst hM ?_
  repeat (first | (refine And.intro hM.1 (And.intro hM.2.1 ?_); rw [g_st hM]) | (refine And.intro hM.1 ?_; rw [fp_st hM]) | (refine And.intro hM.1 ?_; rw [fg_st hM]) | refine And.intro (by first | exact hM.1 | assumption | rfl | exact Nat.le_of_ble_eq_true rfl | exact Nat.zero_le _ | decide) ?_ | refine And.intro (fun _ => ?_) (fun hz => absurd hz (by decide)) | refine And.intro (fun hz => absurd hz (by decide)) (fun _ => ?_))
  by_cases hv : 1 ≤ v ∧ v ≤ 9
  rotate_left
  · refine c_isBet0 hst hv ?_
    repeat (first | (refine And.intro hM.1 (And.intro hM.2.1 ?_); rw [g_st hM]) | (refine And.intro hM.1 ?_; rw [fp_st hM]) | (refine And.intro hM.1 ?_; rw [fg_st hM]) | refine And.intro (by first | exact hM.1 | assumption | rfl | exact Nat.le_of_ble_eq_true rfl | exact Nat.zero_le _ | decide) ?_ | refine And.intro (fun _ => ?_) (fun hz => absurd hz (by decide)) | refine And.intro (fun hz => absurd hz (by decide)) (fun _ => ?_))
    refine c_fails1u hst hM ?_
    repeat (first | (refine And.intro hM.1 (And.intro hM.2.1 ?_); rw [g_st hM]) | (refine And.intro hM.1 ?_; rw [fp_st hM]) | (refine And.intro hM.1 ?_; rw [fg_st hM]) | refine And.intro (by first | exact hM.1 | assumption | rfl | exact Nat.le_of_ble_eq_true rfl | exact Nat.zero_le _ | decide) ?_ | refine And.intro (fun _ => ?_) (fun hz => absurd hz (by decide)) | refine And.intro (fun hz => absurd hz (by decide)) (fun _ => ?_))
    exact x2 ⟨hP, hK⟩ hv
  refine c_isBet1 hst hv ?_
  repeat (first | (refine And.intro hM.1 (And.intro hM.2.1 ?_); rw [g_st hM]) | (refine And.intro hM.1 ?_; rw [fp_st hM]) | (refine And.intro hM.1 ?_; rw [fg_st hM]) | refine And.intro (by first | exact hM.1 | assumption | rfl | exact Nat.le_of_ble_eq_true rfl | exact Nat.zero_le _ | decide) ?_ | refine And.intro (fun _ => ?_) (fun hz => absurd hz (by decide)) | refine And.intro (fun hz => absurd hz (by decide)) (fun _ => ?_))
  refine c_fails0u hst hM ?_
  repeat (first | (refine And.intro hM.1 (And.intro hM.2.1 ?_); rw [g_st hM]) | (refine And.intro hM.1 ?_; rw [fp_st hM]) | (refine And.intro hM.1 ?_; rw [fg_st hM]) | refine And.intro (by first | exact hM.1 | assumption | rfl | exact Nat.le_of_ble_eq_true rfl | exact Nat.zero_le _ | decide) ?_ | refine And.intro (fun _ => ?_) (fun hz => absurd hz (by decide)) | refine And.intro (fun hz => absurd hz (by decide)) (fun _ => ?_))
  refine And.intro (k20 hM) (And.intro (vin hM (x := (1 : Int32)) (i := 1) rfl (by decide)) ?_); rw [ld_st hM (x := (1 : Int32)) (i := 1) rfl (by decide)]
  rw [hN.2.1.1]
  obtain ⟨k, kk, k2⟩ := nI_of2 (n := c1) (nI_toInt (by omega)) (Int32.not_lt.mpr hK.1) hK.2
  subst k2
  refine And.intro (fun hne => ?_) (fun he => ?_)
  · -- a kit that is there
    have kl : k < c1 := by
      have : k ≠ c1 := fun z => hne (by rw [z])
      omega
    obtain ⟨c, c4', hc, hit⟩ := hN.2.2.2.2.2.2.1 k kl
    refine And.intro (fun _ => ?_) (fun z => absurd rfl z)
    repeat (first | (refine And.intro hM.1 (And.intro hM.2.1 ?_); rw [g_st hM]) | (refine And.intro hM.1 ?_; rw [fp_st hM]) | (refine And.intro hM.1 ?_; rw [fg_st hM]) | refine And.intro (by first | exact hM.1 | assumption | rfl | exact Nat.le_of_ble_eq_true rfl | exact Nat.zero_le _ | decide) ?_)
    refine c_items hst hM k rfl (by omega) ?_
    rw [hc]
    refine And.intro (fun he4 => ?_) (fun hne4 => ?_)
    · have : c = 4 := (nI_eq (by omega) (by decide)).mp (show nI c = nI 4 from he4)
      repeat (first | (refine And.intro hM.1 (And.intro hM.2.1 ?_); rw [g_st hM]) | (refine And.intro hM.1 ?_; rw [fp_st hM]) | (refine And.intro hM.1 ?_; rw [fg_st hM]) | refine And.intro (by first | exact hM.1 | assumption | rfl | exact Nat.le_of_ble_eq_true rfl | exact Nat.zero_le _ | decide) ?_)
      refine c_fails1u hst hM ?_
      repeat (first | (refine And.intro hM.1 (And.intro hM.2.1 ?_); rw [g_st hM]) | (refine And.intro hM.1 ?_; rw [fp_st hM]) | (refine And.intro hM.1 ?_; rw [fg_st hM]) | refine And.intro (by first | exact hM.1 | assumption | rfl | exact Nat.le_of_ble_eq_true rfl | exact Nat.zero_le _ | decide) ?_ | refine And.intro (fun _ => ?_) (fun hz => absurd hz (by decide)) | refine And.intro (fun hz => absurd hz (by decide)) (fun _ => ?_))
      exact x3 ⟨hP, hK⟩ hv (Or.inr ⟨k, c, rfl, kl, hc, c4', Or.inl this⟩)
    have c4 : c < 4 := by
      have : c ≠ 4 := fun z => hne4 (by rw [z]; rfl)
      omega
    repeat (first | (refine And.intro hM.1 (And.intro hM.2.1 ?_); rw [g_st hM]) | (refine And.intro hM.1 ?_; rw [fp_st hM]) | (refine And.intro hM.1 ?_; rw [fg_st hM]) | refine And.intro (by first | exact hM.1 | assumption | rfl | exact Nat.le_of_ble_eq_true rfl | exact Nat.zero_le _ | decide) ?_)
    refine c_hasItem hst hM k c rfl (by omega) c4' hc ?_
    cases hh : s_has N k (nI s) c with
    | true =>
      refine And.intro (fun z => absurd z (by decide)) (fun _ => ?_)
      repeat (first | (refine And.intro hM.1 (And.intro hM.2.1 ?_); rw [g_st hM]) | (refine And.intro hM.1 ?_; rw [fp_st hM]) | (refine And.intro hM.1 ?_; rw [fg_st hM]) | refine And.intro (by first | exact hM.1 | assumption | rfl | exact Nat.le_of_ble_eq_true rfl | exact Nat.zero_le _ | decide) ?_)
      refine c_fails1u hst hM ?_
      repeat (first | (refine And.intro hM.1 (And.intro hM.2.1 ?_); rw [g_st hM]) | (refine And.intro hM.1 ?_; rw [fp_st hM]) | (refine And.intro hM.1 ?_; rw [fg_st hM]) | refine And.intro (by first | exact hM.1 | assumption | rfl | exact Nat.le_of_ble_eq_true rfl | exact Nat.zero_le _ | decide) ?_ | refine And.intro (fun _ => ?_) (fun hz => absurd hz (by decide)) | refine And.intro (fun hz => absurd hz (by decide)) (fun _ => ?_))
      exact x3 ⟨hP, hK⟩ hv (Or.inr ⟨k, c, rfl, kl, hc, c4', Or.inr hh⟩)
    | false =>
      refine And.intro (fun _ => ?_) (fun z => absurd rfl z)
      repeat (first | (refine And.intro hM.1 (And.intro hM.2.1 ?_); rw [g_st hM]) | (refine And.intro hM.1 ?_; rw [fp_st hM]) | (refine And.intro hM.1 ?_; rw [fg_st hM]) | refine And.intro (by first | exact hM.1 | assumption | rfl | exact Nat.le_of_ble_eq_true rfl | exact Nat.zero_le _ | decide) ?_)
      refine c_fails0u hst hM ?_
      repeat (first | (refine And.intro hM.1 (And.intro hM.2.1 ?_); rw [g_st hM]) | (refine And.intro hM.1 ?_; rw [fp_st hM]) | (refine And.intro hM.1 ?_; rw [fg_st hM]) | refine And.intro (by first | exact hM.1 | assumption | rfl | exact Nat.le_of_ble_eq_true rfl | exact Nat.zero_le _ | decide) ?_ | refine And.intro (fun _ => ?_) (fun hz => absurd hz (by decide)) | refine And.intro (fun hz => absurd hz (by decide)) (fun _ => ?_))
      refine c_remember hst hM hL9 (F := upd F 0 0) ((pk_un (by decide)).trans hr) r8 ?_
      have hM : MdS (hpush h m r N) m := hM.push
      have fin := q2 s k c rfl s1 rfl kl hc c4 hh hv
      refine And.intro (fun _ => ?_) (fun z => absurd rfl z)
      rw [eb]
      exact put _ _ N k c 0 (nI k) (nI s) hM (by omega) hc c4 fin
  · have e : k = c1 := (nI_eq (by omega) (by omega)).mp he
    subst e
    refine And.intro (fun z => absurd z (by decide)) (fun _ => ?_)
    refine And.intro (fun hne4 => ?_) (fun he4 => ?_)
    rotate_left
    · have : k = 4 := (nI_eq (by omega) (by decide)).mp (show nI k = nI 4 from he4)
      repeat (first | (refine And.intro hM.1 (And.intro hM.2.1 ?_); rw [g_st hM]) | (refine And.intro hM.1 ?_; rw [fp_st hM]) | (refine And.intro hM.1 ?_; rw [fg_st hM]) | refine And.intro (by first | exact hM.1 | assumption | rfl | exact Nat.le_of_ble_eq_true rfl | exact Nat.zero_le _ | decide) ?_)
      refine c_fails1u hst hM ?_
      repeat (first | (refine And.intro hM.1 (And.intro hM.2.1 ?_); rw [g_st hM]) | (refine And.intro hM.1 ?_; rw [fp_st hM]) | (refine And.intro hM.1 ?_; rw [fg_st hM]) | refine And.intro (by first | exact hM.1 | assumption | rfl | exact Nat.le_of_ble_eq_true rfl | exact Nat.zero_le _ | decide) ?_ | refine And.intro (fun _ => ?_) (fun hz => absurd hz (by decide)) | refine And.intro (fun hz => absurd hz (by decide)) (fun _ => ?_))
      exact x3 ⟨hP, hK⟩ hv (Or.inl ⟨rfl, this⟩)
    have c4 : k < 4 := by
      have : k ≠ 4 := fun z => hne4 (by rw [z]; rfl)
      omega
    repeat (first | (refine And.intro hM.1 (And.intro hM.2.1 ?_); rw [g_st hM]) | (refine And.intro hM.1 ?_; rw [fp_st hM]) | (refine And.intro hM.1 ?_; rw [fg_st hM]) | refine And.intro (by first | exact hM.1 | assumption | rfl | exact Nat.le_of_ble_eq_true rfl | exact Nat.zero_le _ | decide) ?_)
    refine c_fails0u hst hM ?_
    repeat (first | (refine And.intro hM.1 (And.intro hM.2.1 ?_); rw [g_st hM]) | (refine And.intro hM.1 ?_; rw [fp_st hM]) | (refine And.intro hM.1 ?_; rw [fg_st hM]) | refine And.intro (by first | exact hM.1 | assumption | rfl | exact Nat.le_of_ble_eq_true rfl | exact Nat.zero_le _ | decide) ?_ | refine And.intro (fun _ => ?_) (fun hz => absurd hz (by decide)) | refine And.intro (fun hz => absurd hz (by decide)) (fun _ => ?_))
    refine c_remember hst hM hL9 (F := upd F 0 0) ((pk_un (by decide)).trans hr) r8 ?_
    have hM : MdS (hpush h m r N) m := hM.push
    have fin := q1 s rfl s1 rfl c4 hv
    refine And.intro (fun z => absurd z (by decide)) (fun _ => ?_)
    rw [eb]
    repeat (first | (refine And.intro hM.1 (And.intro hM.2.1 ?_); rw [g_st hM]) | (refine And.intro hM.1 ?_; rw [fp_st hM]) | (refine And.intro hM.1 ?_; rw [fg_st hM]) | refine And.intro (by first | exact hM.1 | assumption | rfl | exact Nat.le_of_ble_eq_true rfl | exact Nat.zero_le _ | decide) ?_)
    refine And.intro (k20 hM) (And.intro (vin hM (i := 191 + k * 9) rfl (by omega)) ?_); rw [sd_st hM (i := 191 + k * 9) rfl (by omega)]
    repeat (first | (refine And.intro hM.1 (And.intro hM.2.1 ?_); rw [g_st hM]) | (refine And.intro hM.1 ?_; rw [fp_st hM]) | (refine And.intro hM.1 ?_; rw [fg_st hM]) | refine And.intro (by first | exact hM.1 | assumption | rfl | exact Nat.le_of_ble_eq_true rfl | exact Nat.zero_le _ | decide) ?_)
    refine And.intro (k20 hM) (And.intro (vin hM (x := (1 : Int32)) (i := 1) rfl (by decide)) ?_); rw [ld_st hM (x := (1 : Int32)) (i := 1) rfl (by decide)]
    rw [pk_un (show 1 ≠ 191 + k * 9 by omega), hN.2.1.1]
    refine And.intro (k20 hM) (And.intro (vin hM (x := (1 : Int32)) (i := 1) rfl (by decide)) ?_); rw [sd_st hM (x := (1 : Int32)) (i := 1) rfl (by decide)]
    exact put _ _ (r_newk N k) k 0 1 (nI k) (nI s) hM (by omega) (by unfold r_newk; rw [pk_un (by omega), pk_us]; rfl) (by decide) fin
end Q7

section Q9
theorem g15 {h : Hp} {m : Nat} (hL9 : MdL h m) {F N : Nat → Int32} : hR (st h m F N) m 15 = m + 22 := hL9.2.2.2.2.2.2.2.2.2.1
theorem g15n {h : Hp} {m : Nat} (hL9 : MdL h m) {F N : Nat → Int32} : hR (st h m F N) m 15 ≠ 0 := by rw [g15 hL9]; omega
theorem st_wO {h : Hp} {m b k : Nat} {v : Int32} {F N : Nat → Int32} (h1 : b ≠ m) (h2 : b ≠ m + 1) : wI (st h m F N) b k v = st (wI h b k v) m F N := by
  rw [wI_row, wI_row, st_sO h1 h2, st_o h1 h2]
theorem k_append {l : Launch} (hst : l.stackTraces = false) {Q : Option Value → Hp → Prop} {X : String → Hp → Prop} {h : Hp} {m : Nat} {F N : Nat → Int32} (hM : MdS h m) (hL9 : MdL h m) {c0 c1 c2 c3 c4 : Nat} (hN : WFc N c0 c1 c2 c3 c4) {O : Int32} {n : Nat} (hF : F 16 = nI n) (n60 : n ≤ 60) (x1 : ¬ (32 ≤ O ∧ O ≤ 126) → Q (some (.int 0)) (st h m (upd F 0 1) N)) (x2 : 32 ≤ O ∧ O ≤ 126 → n = 60 → Q (some (.int 0)) (st h m (upd F 0 2) N)) (q : 32 ≤ O ∧ O ≤ 126 → n < 60 → Q (some (.int (nI (n + 1)))) (st (wI h (m + 22) n O) m (upd (upd F 0 0) 16 (nI (n + 1))) N)) : CX9_append l [.ref m, .int O] (st h m F N) Q X := by
  refine eX9_append hst (Nat.le_of_ble_eq_true rfl) (fun K => ?_)
  repeat (refine And.intro (by first | assumption | rfl | exact Nat.le_of_ble_eq_true rfl | exact Nat.zero_le _ | decide) ?_)
  by_cases hv : 32 ≤ O ∧ O ≤ 126
  rotate_left
  · refine c_isBet0 hst hv ?_
    repeat (first | (refine And.intro hM.1 (And.intro hM.2.1 ?_); rw [g_st hM]) | (refine And.intro hM.1 ?_; rw [fp_st hM]) | (refine And.intro hM.1 ?_; rw [fg_st hM]) | refine And.intro (by first | exact hM.1 | assumption | rfl | exact Nat.le_of_ble_eq_true rfl | exact Nat.zero_le _ | decide) ?_ | refine And.intro (fun _ => ?_) (fun hz => absurd hz (by decide)) | refine And.intro (fun hz => absurd hz (by decide)) (fun _ => ?_))
    refine c_fails1 hst hM ?_
    repeat (first | (refine And.intro hM.1 (And.intro hM.2.1 ?_); rw [g_st hM]) | (refine And.intro hM.1 ?_; rw [fp_st hM]) | (refine And.intro hM.1 ?_; rw [fg_st hM]) | refine And.intro (by first | exact hM.1 | assumption | rfl | exact Nat.le_of_ble_eq_true rfl | exact Nat.zero_le _ | decide) ?_ | refine And.intro (fun _ => ?_) (fun hz => absurd hz (by decide)) | refine And.intro (fun hz => absurd hz (by decide)) (fun _ => ?_))
    exact x1 hv
  refine c_isBet1 hst hv ?_
  repeat (first | (refine And.intro hM.1 (And.intro hM.2.1 ?_); rw [g_st hM]) | (refine And.intro hM.1 ?_; rw [fp_st hM]) | (refine And.intro hM.1 ?_; rw [fg_st hM]) | refine And.intro (by first | exact hM.1 | assumption | rfl | exact Nat.le_of_ble_eq_true rfl | exact Nat.zero_le _ | decide) ?_ | refine And.intro (fun _ => ?_) (fun hz => absurd hz (by decide)) | refine And.intro (fun hz => absurd hz (by decide)) (fun _ => ?_))
  refine c_fails0 hst hM ?_
  repeat (first | (refine And.intro hM.1 (And.intro hM.2.1 ?_); rw [g_st hM]) | (refine And.intro hM.1 ?_; rw [fp_st hM]) | (refine And.intro hM.1 ?_; rw [fg_st hM]) | refine And.intro (by first | exact hM.1 | assumption | rfl | exact Nat.le_of_ble_eq_true rfl | exact Nat.zero_le _ | decide) ?_ | refine And.intro (fun _ => ?_) (fun hz => absurd hz (by decide)) | refine And.intro (fun hz => absurd hz (by decide)) (fun _ => ?_))
  have e16 : upd F 0 0 16 = nI n := (pk_un (by decide)).trans hF
  rw [e16]
  refine And.intro (fun hne => ?_) (fun he => ?_)
  rotate_left
  · have : n = 60 := (nI_eq (by omega) (by decide)).mp (show nI n = nI 60 from he)
    repeat (first | (refine And.intro hM.1 (And.intro hM.2.1 ?_); rw [g_st hM]) | (refine And.intro hM.1 ?_; rw [fp_st hM]) | (refine And.intro hM.1 ?_; rw [fg_st hM]) | refine And.intro (by first | exact hM.1 | assumption | rfl | exact Nat.le_of_ble_eq_true rfl | exact Nat.zero_le _ | decide) ?_)
    refine c_fails1u hst hM ?_
    repeat (first | (refine And.intro hM.1 (And.intro hM.2.1 ?_); rw [g_st hM]) | (refine And.intro hM.1 ?_; rw [fp_st hM]) | (refine And.intro hM.1 ?_; rw [fg_st hM]) | refine And.intro (by first | exact hM.1 | assumption | rfl | exact Nat.le_of_ble_eq_true rfl | exact Nat.zero_le _ | decide) ?_ | refine And.intro (fun _ => ?_) (fun hz => absurd hz (by decide)) | refine And.intro (fun hz => absurd hz (by decide)) (fun _ => ?_))
    exact x2 hv this
  have nl : n < 60 := by
    have : n ≠ 60 := fun z => hne (by rw [z]; rfl)
    omega
  have hch : narrow .char (.int O) = .int O := by
    obtain ⟨j, j1, j2⟩ := nI_of2 (n := 126) rfl (fun z => absurd (Int32.le_trans hv.1 (Int32.le_of_lt z)) (by decide)) hv.2
    subst j2
    exact (pk_charN (by omega)).1
  repeat (first | (refine And.intro hM.1 (And.intro hM.2.1 ?_); rw [g_st hM]) | (refine And.intro hM.1 ?_; rw [fp_st hM]) | (refine And.intro hM.1 ?_; rw [fg_st hM]) | refine And.intro (by first | exact hM.1 | assumption | rfl | exact Nat.le_of_ble_eq_true rfl | exact Nat.zero_le _ | decide) ?_)
  refine c_fails0u hst hM ?_
  repeat (first | (refine And.intro hM.1 (And.intro hM.2.1 ?_); rw [g_st hM]) | (refine And.intro hM.1 ?_; rw [fp_st hM]) | (refine And.intro hM.1 ?_; rw [fg_st hM]) | refine And.intro (by first | exact hM.1 | assumption | rfl | exact Nat.le_of_ble_eq_true rfl | exact Nat.zero_le _ | decide) ?_ | refine And.intro (fun _ => ?_) (fun hz => absurd hz (by decide)) | refine And.intro (fun hz => absurd hz (by decide)) (fun _ => ?_))
  refine And.intro (g15n hL9) ?_
  rw [g15 hL9]
  repeat (first | (refine And.intro hM.1 (And.intro hM.2.1 ?_); rw [g_st hM]) | (refine And.intro hM.1 ?_; rw [fp_st hM]) | (refine And.intro hM.1 ?_; rw [fg_st hM]) | refine And.intro (by first | exact hM.1 | assumption | rfl | exact Nat.le_of_ble_eq_true rfl | exact Nat.zero_le _ | decide) ?_)
  rw [e16]
  refine cs_of (H := st h m (upd F 0 0) N) hL9.2.2.2.2.2.2.2.2.2.2 rfl nl (by decide) hch ?_
  rw [st_wO (by omega) (by omega)]
  have hM : MdS (wI h (m + 22) n O) m := hM.of rfl rfl
  repeat (first | (refine And.intro hM.1 (And.intro hM.2.1 ?_); rw [g_st hM]) | (refine And.intro hM.1 ?_; rw [fp_st hM]) | (refine And.intro hM.1 ?_; rw [fg_st hM]) | refine And.intro (by first | exact hM.1 | assumption | rfl | exact Nat.le_of_ble_eq_true rfl | exact Nat.zero_le _ | decide) ?_)
  rw [e16, nI_1]
  repeat (first | (refine And.intro hM.1 (And.intro hM.2.1 ?_); rw [g_st hM]) | (refine And.intro hM.1 ?_; rw [fp_st hM]) | (refine And.intro hM.1 ?_; rw [fg_st hM]) | refine And.intro (by first | exact hM.1 | assumption | rfl | exact Nat.le_of_ble_eq_true rfl | exact Nat.zero_le _ | decide) ?_)
  rw [show upd (upd F 0 0) 16 (nI (n + 1)) 16 = nI (n + 1) from pk_us]
  exact q hv nl
theorem g13 {h : Hp} {m : Nat} (hL9 : MdL h m) {F N : Nat → Int32} : hR (st h m F N) m 13 = m + 14 := hL9.2.2.2.2.2.2.1.1
theorem g13n {h : Hp} {m : Nat} (hL9 : MdL h m) {F N : Nat → Int32} : hR (st h m F N) m 13 ≠ 0 := by rw [g13 hL9]; omega
theorem g14 {h : Hp} {m : Nat} (hL9 : MdL h m) {F N : Nat → Int32} : hR (st h m F N) m 14 = m + 21 := hL9.2.2.2.2.2.2.2.2.1.1
theorem g14n {h : Hp} {m : Nat} (hL9 : MdL h m) {F N : Nat → Int32} : hR (st h m F N) m 14 ≠ 0 := by rw [g14 hL9]; omega
theorem za_of {H : Hp} {a n j : Nat} {i x : Int32} {f : FT} {L : LV} {St : List Value} {u : Nat × Nat} (e1 : hs H a = (21, n)) (hi : i = nI j) (hj : j < n) (hn9 : n < 2 ^ 31) (e2 : hI H a j = x) (q : f L (.int x :: St) H u) : o_zaload f L (.int i :: .ref a :: St) H u := by
  subst hi; subst e2
  have c : (nI j).toNatClampNeg = j := nI_clamp (by omega)
  refine ⟨by rw [e1], by rw [e1]; exact vp_in_nI hj hn9, ?_⟩
  rw [c]; exact q
theorem zs_of {H : Hp} {a n j : Nat} {i x : Int32} {f : FT} {L : LV} {St : List Value} {u : Nat × Nat} (e1 : hs H a = (21, n)) (hi : i = nI j) (hj : j < n) (hn9 : n < 2 ^ 31) (hx : narrow .boolean (.int x) = .int x) (q : f L St (wI H a j x) u) : o_zastore f L (.int x :: .int i :: .ref a :: St) H u := by
  subst hi
  have c : (nI j).toNatClampNeg = j := nI_clamp (by omega)
  refine ⟨by rw [e1], by rw [e1]; exact vp_in_nI hj hn9, hx, ?_⟩
  rw [c]; exact q
theorem c_isPlace {l : Launch} (hst : l.stackTraces = false) {Q : Option Value → Hp → Prop} {X : String → Hp → Prop} {h : Hp} {S O : Int32} (q1 : (0 ≤ S ∧ S < 2) ∧ 0 ≤ O ∧ O < 3 → Q (some (.int 1)) h) (q0 : ¬ ((0 ≤ S ∧ S < 2) ∧ 0 ≤ O ∧ O < 3) → Q (some (.int 0)) h) : CX9_isPlace l [.int S, .int O] h Q X := by
  have eS : (0 ≤ S ∧ S ≤ 1) ↔ (0 ≤ S ∧ S < 2) := le1 (P := S) (c := 2) (by decide)
  have eO : (0 ≤ O ∧ O ≤ 2) ↔ (0 ≤ O ∧ O < 3) := le1 (P := O) (c := 3) (by decide)
  refine eX9_isPlace hst (Nat.le_of_ble_eq_true rfl) (fun K => ?_)
  repeat (refine And.intro (by first | assumption | rfl | exact Nat.le_of_ble_eq_true rfl | exact Nat.zero_le _ | decide) ?_)
  by_cases h1 : 0 ≤ S ∧ S ≤ 1
  rotate_left
  · refine c_isBet0 hst h1 ?_
    refine And.intro (fun _ => ?_) (fun z => absurd rfl z)
    repeat (refine And.intro (by first | assumption | rfl | exact Nat.le_of_ble_eq_true rfl | exact Nat.zero_le _ | decide) ?_)
    exact q0 (fun z => h1 (eS.mpr z.1))
  refine c_isBet1 hst h1 ?_
  refine And.intro (fun z => absurd z (by decide)) (fun _ => ?_)
  repeat (refine And.intro (by first | assumption | rfl | exact Nat.le_of_ble_eq_true rfl | exact Nat.zero_le _ | decide) ?_)
  by_cases h2 : 0 ≤ O ∧ O ≤ 2
  rotate_left
  · refine c_isBet0 hst h2 ?_
    refine And.intro (fun _ => ?_) (fun z => absurd rfl z)
    repeat (refine And.intro (by first | assumption | rfl | exact Nat.le_of_ble_eq_true rfl | exact Nat.zero_le _ | decide) ?_)
    exact q0 (fun z => h2 (eO.mpr z.2))
  refine c_isBet1 hst h2 ?_
  refine And.intro (fun z => absurd z (by decide)) (fun _ => ?_)
  repeat (refine And.intro (by first | assumption | rfl | exact Nat.le_of_ble_eq_true rfl | exact Nat.zero_le _ | decide) ?_)
  exact q1 ⟨eS.mp h1, eO.mp h2⟩
theorem ix3m (a k : Nat) : (3 : Int32) * nI a + nI k = nI (a * 3 + k) := by rw [show (3 : Int32) = nI 3 from rfl, pk_mul, nI_add, Nat.mul_comm]
theorem k_sampled {l : Launch} (hst : l.stackTraces = false) {Q : Option Value → Hp → Prop} {X : String → Hp → Prop} {h : Hp} {m : Nat} {F N : Nat → Int32} (hM : MdS h m) (hL9 : MdL h m) {c0 c1 c2 c3 c4 : Nat} (hN : WFc N c0 c1 c2 c3 c4) {S O P : Int32} (hz : ∀ i, i < 6 → hI h (m + 21) i = 0 ∨ hI h (m + 21) i = 1) (x1 : ¬ ((0 ≤ S ∧ S < 2) ∧ 0 ≤ O ∧ O < 3) → Q (some (.int 0)) (st h m (upd F 0 1) N)) (x2 : ((0 ≤ S ∧ S < 2) ∧ 0 ≤ O ∧ O < 3) → ¬ (0 ≤ P ∧ P ≤ 3) → Q (some (.int 0)) (st h m (upd F 0 2) N)) (x3 : ∀ a b, S = nI a → a < 2 → O = nI b → b < 3 → (0 ≤ P ∧ P ≤ 3) → hI h (m + 21) (a * 3 + b) = 0 → Q (some (.int 0)) (st h m (upd F 0 3) N)) (q : ∀ a b k, S = nI a → a < 2 → O = nI b → b < 3 → P = nI k → k < 4 → hI h (m + 21) (a * 3 + b) ≠ 0 → Q (some (.int (hI h (m + 15 + (a * 3 + b)) k))) (st h m (upd F 0 0) N)) : CX9_sampled l [.ref m, .int S, .int O, .int P] (st h m F N) Q X := by
  refine eX9_sampled hst (Nat.le_of_ble_eq_true rfl) (fun K => ?_)
  repeat (refine And.intro (by first | assumption | rfl | exact Nat.le_of_ble_eq_true rfl | exact Nat.zero_le _ | decide) ?_)
  refine c_isPlace hst (fun hv => ?_) (fun hv => ?_)
  rotate_left
  · repeat (first | (refine And.intro hM.1 (And.intro hM.2.1 ?_); rw [g_st hM]) | (refine And.intro hM.1 ?_; rw [fp_st hM]) | (refine And.intro hM.1 ?_; rw [fg_st hM]) | refine And.intro (by first | exact hM.1 | assumption | rfl | exact Nat.le_of_ble_eq_true rfl | exact Nat.zero_le _ | decide) ?_ | refine And.intro (fun _ => ?_) (fun hz => absurd hz (by decide)) | refine And.intro (fun hz => absurd hz (by decide)) (fun _ => ?_))
    refine c_fails1 hst hM ?_
    repeat (first | (refine And.intro hM.1 (And.intro hM.2.1 ?_); rw [g_st hM]) | (refine And.intro hM.1 ?_; rw [fp_st hM]) | (refine And.intro hM.1 ?_; rw [fg_st hM]) | refine And.intro (by first | exact hM.1 | assumption | rfl | exact Nat.le_of_ble_eq_true rfl | exact Nat.zero_le _ | decide) ?_ | refine And.intro (fun _ => ?_) (fun hz => absurd hz (by decide)) | refine And.intro (fun hz => absurd hz (by decide)) (fun _ => ?_))
    exact x1 hv
  repeat (first | (refine And.intro hM.1 (And.intro hM.2.1 ?_); rw [g_st hM]) | (refine And.intro hM.1 ?_; rw [fp_st hM]) | (refine And.intro hM.1 ?_; rw [fg_st hM]) | refine And.intro (by first | exact hM.1 | assumption | rfl | exact Nat.le_of_ble_eq_true rfl | exact Nat.zero_le _ | decide) ?_ | refine And.intro (fun _ => ?_) (fun hz => absurd hz (by decide)) | refine And.intro (fun hz => absurd hz (by decide)) (fun _ => ?_))
  refine c_fails0 hst hM ?_
  repeat (first | (refine And.intro hM.1 (And.intro hM.2.1 ?_); rw [g_st hM]) | (refine And.intro hM.1 ?_; rw [fp_st hM]) | (refine And.intro hM.1 ?_; rw [fg_st hM]) | refine And.intro (by first | exact hM.1 | assumption | rfl | exact Nat.le_of_ble_eq_true rfl | exact Nat.zero_le _ | decide) ?_ | refine And.intro (fun _ => ?_) (fun hz => absurd hz (by decide)) | refine And.intro (fun hz => absurd hz (by decide)) (fun _ => ?_))
  obtain ⟨a, a2, ea⟩ := in9 (c := 2) (by decide) hv.1
  obtain ⟨b, b3, eb⟩ := in9 (c := 3) (by decide) hv.2
  by_cases hp : 0 ≤ P ∧ P ≤ 3
  rotate_left
  · refine c_isBet0 hst hp ?_
    repeat (first | (refine And.intro hM.1 (And.intro hM.2.1 ?_); rw [g_st hM]) | (refine And.intro hM.1 ?_; rw [fp_st hM]) | (refine And.intro hM.1 ?_; rw [fg_st hM]) | refine And.intro (by first | exact hM.1 | assumption | rfl | exact Nat.le_of_ble_eq_true rfl | exact Nat.zero_le _ | decide) ?_ | refine And.intro (fun _ => ?_) (fun hz => absurd hz (by decide)) | refine And.intro (fun hz => absurd hz (by decide)) (fun _ => ?_))
    refine c_fails1u hst hM ?_
    repeat (first | (refine And.intro hM.1 (And.intro hM.2.1 ?_); rw [g_st hM]) | (refine And.intro hM.1 ?_; rw [fp_st hM]) | (refine And.intro hM.1 ?_; rw [fg_st hM]) | refine And.intro (by first | exact hM.1 | assumption | rfl | exact Nat.le_of_ble_eq_true rfl | exact Nat.zero_le _ | decide) ?_ | refine And.intro (fun _ => ?_) (fun hz => absurd hz (by decide)) | refine And.intro (fun hz => absurd hz (by decide)) (fun _ => ?_))
    exact x2 hv hp
  refine c_isBet1 hst hp ?_
  repeat (first | (refine And.intro hM.1 (And.intro hM.2.1 ?_); rw [g_st hM]) | (refine And.intro hM.1 ?_; rw [fp_st hM]) | (refine And.intro hM.1 ?_; rw [fg_st hM]) | refine And.intro (by first | exact hM.1 | assumption | rfl | exact Nat.le_of_ble_eq_true rfl | exact Nat.zero_le _ | decide) ?_ | refine And.intro (fun _ => ?_) (fun hz => absurd hz (by decide)) | refine And.intro (fun hz => absurd hz (by decide)) (fun _ => ?_))
  refine c_fails0u hst hM ?_
  repeat (first | (refine And.intro hM.1 (And.intro hM.2.1 ?_); rw [g_st hM]) | (refine And.intro hM.1 ?_; rw [fp_st hM]) | (refine And.intro hM.1 ?_; rw [fg_st hM]) | refine And.intro (by first | exact hM.1 | assumption | rfl | exact Nat.le_of_ble_eq_true rfl | exact Nat.zero_le _ | decide) ?_ | refine And.intro (fun _ => ?_) (fun hz => absurd hz (by decide)) | refine And.intro (fun hz => absurd hz (by decide)) (fun _ => ?_))
  have i6 : a * 3 + b < 6 := by omega
  have ei : (3 : Int32) * S + O = nI (a * 3 + b) := by rw [ea, eb]; exact ix3m a b
  refine And.intro (g14n hL9) ?_
  rw [g14 hL9]
  refine za_of (H := st h m (upd F 0 0) N) hL9.2.2.2.2.2.2.2.2.1.2 ei i6 (by decide) rfl ?_
  rw [st_o (by omega) (by omega)]
  refine And.intro (fun hzz => ?_) (fun hzz => ?_)
  · repeat (first | (refine And.intro hM.1 (And.intro hM.2.1 ?_); rw [g_st hM]) | (refine And.intro hM.1 ?_; rw [fp_st hM]) | (refine And.intro hM.1 ?_; rw [fg_st hM]) | refine And.intro (by first | exact hM.1 | assumption | rfl | exact Nat.le_of_ble_eq_true rfl | exact Nat.zero_le _ | decide) ?_)
    refine c_fails0u hst hM ?_
    repeat (first | (refine And.intro hM.1 (And.intro hM.2.1 ?_); rw [g_st hM]) | (refine And.intro hM.1 ?_; rw [fp_st hM]) | (refine And.intro hM.1 ?_; rw [fg_st hM]) | refine And.intro (by first | exact hM.1 | assumption | rfl | exact Nat.le_of_ble_eq_true rfl | exact Nat.zero_le _ | decide) ?_ | refine And.intro (fun _ => ?_) (fun hz => absurd hz (by decide)) | refine And.intro (fun hz => absurd hz (by decide)) (fun _ => ?_))
    obtain ⟨k, k1, k2⟩ := nI_of2 (n := 3) rfl (Int32.not_lt.mpr hp.1) hp.2
    subst k2
    refine And.intro (g13n hL9) ?_
    rw [g13 hL9]
    refine aa_of (H := st h m (upd F 0 0) N) (r := m + 15 + (a * 3 + b)) hL9.2.2.2.2.2.2.1.2 ei i6 (by decide) (hL9.2.2.2.2.2.2.2.1 _ i6).1 (by omega) ?_
    refine ia_of (H := st h m (upd F 0 0) N) (hL9.2.2.2.2.2.2.2.1 _ i6).2 rfl (show k < 4 by omega) (by decide) rfl ?_
    rw [st_o (by omega) (by omega)]
    repeat (first | (refine And.intro hM.1 (And.intro hM.2.1 ?_); rw [g_st hM]) | (refine And.intro hM.1 ?_; rw [fp_st hM]) | (refine And.intro hM.1 ?_; rw [fg_st hM]) | refine And.intro (by first | exact hM.1 | assumption | rfl | exact Nat.le_of_ble_eq_true rfl | exact Nat.zero_le _ | decide) ?_)
    exact q a b k ea a2 eb b3 rfl (by omega) hzz
  · repeat (first | (refine And.intro hM.1 (And.intro hM.2.1 ?_); rw [g_st hM]) | (refine And.intro hM.1 ?_; rw [fp_st hM]) | (refine And.intro hM.1 ?_; rw [fg_st hM]) | refine And.intro (by first | exact hM.1 | assumption | rfl | exact Nat.le_of_ble_eq_true rfl | exact Nat.zero_le _ | decide) ?_)
    refine c_fails1u hst hM ?_
    repeat (first | (refine And.intro hM.1 (And.intro hM.2.1 ?_); rw [g_st hM]) | (refine And.intro hM.1 ?_; rw [fp_st hM]) | (refine And.intro hM.1 ?_; rw [fg_st hM]) | refine And.intro (by first | exact hM.1 | assumption | rfl | exact Nat.le_of_ble_eq_true rfl | exact Nat.zero_le _ | decide) ?_ | refine And.intro (fun _ => ?_) (fun hz => absurd hz (by decide)) | refine And.intro (fun hz => absurd hz (by decide)) (fun _ => ?_))
    exact x3 a b ea a2 eb b3 hp hzz
end Q9

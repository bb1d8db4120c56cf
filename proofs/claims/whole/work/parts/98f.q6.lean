section Q6
def pa9 (N : Nat → Int32) (c i : Nat) : Nat → Int32 := fun j => if 7 + c * 23 ≤ j ∧ j < 7 + c * 23 + i then 0 else N j
theorem pa9_end (N : Nat → Int32) (c : Nat) (s ol rl y : Int32) : upd (upd (upd (upd (upd (upd (pa9 N c 23) (7 + c * 23 + 0) s) (7 + c * 23 + 13) s) (7 + c * 23 + 4) ol) (7 + c * 23 + 5) rl) (7 + c * 23 + 6) y) 0 (nI c + 1) = r_addp N c s ol rl y := funext fun j => by
  unfold r_addp
  by_cases z0 : j = 0
  · subst z0; rw [pk_us, if_pos rfl]; exact nI_1 c
  rw [pk_un z0, if_neg z0]
  by_cases z6 : j = 7 + c * 23 + 6
  · subst z6; rw [pk_us, if_pos (by omega), if_neg (by omega), if_neg (by omega), if_neg (by omega), if_pos rfl]
  rw [pk_un z6]
  by_cases z5 : j = 7 + c * 23 + 5
  · subst z5; rw [pk_us, if_pos (by omega), if_neg (by omega), if_neg (by omega), if_pos rfl]
  rw [pk_un z5]
  by_cases z4 : j = 7 + c * 23 + 4
  · subst z4; rw [pk_us, if_pos (by omega), if_neg (by omega), if_pos rfl]
  rw [pk_un z4]
  by_cases z13 : j = 7 + c * 23 + 13
  · subst z13; rw [pk_us, if_pos (by omega), if_pos (Or.inr rfl)]
  rw [pk_un z13]
  by_cases z00 : j = 7 + c * 23 + 0
  · subst z00; rw [pk_us, if_pos (by omega), if_pos (Or.inl rfl)]
  rw [pk_un z00]
  unfold pa9
  by_cases w : 7 + c * 23 ≤ j ∧ j < 7 + c * 23 + 23
  · rw [if_pos w, if_pos w, if_neg (by omega), if_neg z4, if_neg z5, if_neg z6]
  · rw [if_neg w, if_neg w]
theorem pa9_0 (N : Nat → Int32) (c : Nat) : pa9 N c 0 = N := funext fun j => by
  unfold pa9
  rw [if_neg (by omega)]
theorem k_addPart {l : Launch} (hst : l.stackTraces = false) {Q : Option Value → Hp → Prop} {X : String → Hp → Prop} {h : Hp} {m : Nat} {F N : Nat → Int32} (hM : MdS h m) (hL9 : MdL h m) {c0 c1 c2 c3 c4 : Nat} (hN : WFc N c0 c1 c2 c3 c4) {r : Nat} (hr : F 5 = nI r) (r8 : r ≤ 8) {s ol rl y : Int32} (x1 : ¬ ((0 ≤ s ∧ s ≤ 999) ∧ (1 ≤ ol ∧ ol ≤ 9) ∧ (1 ≤ rl ∧ rl ≤ 9) ∧ 0 ≤ y ∧ y ≤ 100) → Q (some (.int 0)) (st h m (upd F 0 1) N)) (x2 : ((0 ≤ s ∧ s ≤ 999) ∧ (1 ≤ ol ∧ ol ≤ 9) ∧ (1 ≤ rl ∧ rl ≤ 9) ∧ 0 ≤ y ∧ y ≤ 100) → ¬ c0 < 8 → Q (some (.int 0)) (st h m (upd F 0 2) N)) (q : ((0 ≤ s ∧ s ≤ 999) ∧ (1 ≤ ol ∧ ol ≤ 9) ∧ (1 ≤ rl ∧ rl ≤ 9) ∧ 0 ≤ y ∧ y ≤ 100) → c0 < 8 → Q (some (.int (nI c0))) (st (hpush h m r N) m (upd (upd F 0 0) 5 (nI (pr r))) (r_addp N c0 s ol rl y))) : CX9_addPart l [.ref m, .int s, .int ol, .int rl, .int y] (st h m F N) Q X := by
  have k8 := hN.1.2
  have h0 := hN.1.1
  refine eX9_addPart hst (Nat.le_of_ble_eq_true rfl) (fun K hK => ?_)
  -- what is wrong with the arguments
  have bad : ∀ L, lget L 0 = some (.ref m) → ¬ ((0 ≤ s ∧ s ≤ 999) ∧ (1 ≤ ol ∧ ol ≤ 9) ∧ (1 ≤ rl ∧ rl ≤ 9) ∧ 0 ≤ y ∧ y ≤ 100) → fX9_addPart_61 l Q X K L [.int 1, .int 1, .ref m] (st h m F N) (0, 0) := by
    intro L hl hb
    repeat (first | (refine And.intro hM.1 (And.intro hM.2.1 ?_); rw [g_st hM]) | (refine And.intro hM.1 ?_; rw [fp_st hM]) | (refine And.intro hM.1 ?_; rw [fg_st hM]) | refine And.intro (by first | exact hM.1 | assumption | rfl | exact Nat.le_of_ble_eq_true rfl | exact Nat.zero_le _ | decide) ?_)
    refine c_fails1 hst hM ?_
    repeat (first | (refine And.intro hM.1 (And.intro hM.2.1 ?_); rw [g_st hM]) | (refine And.intro hM.1 ?_; rw [fp_st hM]) | (refine And.intro hM.1 ?_; rw [fg_st hM]) | refine And.intro (by first | exact hM.1 | assumption | rfl | exact Nat.le_of_ble_eq_true rfl | exact Nat.zero_le _ | decide) ?_ | refine And.intro (fun _ => ?_) (fun hz => absurd hz (by decide)) | refine And.intro (fun hz => absurd hz (by decide)) (fun _ => ?_))
    exact x1 hb
  have loop : ∀ (v : Int32) (n i : Nat), i + n = 23 → c0 < 8 → ((0 ≤ s ∧ s ≤ 999) ∧ (1 ≤ ol ∧ ol ≤ 9) ∧ (1 ≤ rl ∧ rl ≤ 9) ∧ 0 ≤ y ∧ y ≤ 100) → K 108 [(7, .int (nI i)), (6, .int (nI c0)), (5, .int v), (0, .ref m), (1, .int s), (2, .int ol), (3, .int rl), (4, .int y)] [] (st (hpush h m r N) m (upd (upd F 0 0) 5 (nI (pr r))) (pa9 N c0 i)) (0, 0) := by
    intro v n
    have hM : MdS (hpush h m r N) m := hM.push
    induction n with
    | zero =>
      intro i hi c8 ok
      have : i = 23 := by omega
      subst this
      refine hK _ _ _ _ ?_
      refine And.intro (fun hc => ?_) (fun hc => ?_)
      rotate_left
      · exact absurd (show nI 23 ≤ nI 23 from Int32.le_refl _) hc
      repeat (first | (refine And.intro hM.1 (And.intro hM.2.1 ?_); rw [g_st hM]) | (refine And.intro hM.1 ?_; rw [fp_st hM]) | (refine And.intro hM.1 ?_; rw [fg_st hM]) | refine And.intro (by first | exact hM.1 | assumption | rfl | exact Nat.le_of_ble_eq_true rfl | exact Nat.zero_le _ | decide) ?_)
      refine c_set hst hM c0 0 rfl rfl (by omega) ?_
      repeat (first | (refine And.intro hM.1 (And.intro hM.2.1 ?_); rw [g_st hM]) | (refine And.intro hM.1 ?_; rw [fp_st hM]) | (refine And.intro hM.1 ?_; rw [fg_st hM]) | refine And.intro (by first | exact hM.1 | assumption | rfl | exact Nat.le_of_ble_eq_true rfl | exact Nat.zero_le _ | decide) ?_)
      refine c_set hst hM c0 13 rfl rfl (by omega) ?_
      repeat (first | (refine And.intro hM.1 (And.intro hM.2.1 ?_); rw [g_st hM]) | (refine And.intro hM.1 ?_; rw [fp_st hM]) | (refine And.intro hM.1 ?_; rw [fg_st hM]) | refine And.intro (by first | exact hM.1 | assumption | rfl | exact Nat.le_of_ble_eq_true rfl | exact Nat.zero_le _ | decide) ?_)
      refine c_set hst hM c0 4 rfl rfl (by omega) ?_
      repeat (first | (refine And.intro hM.1 (And.intro hM.2.1 ?_); rw [g_st hM]) | (refine And.intro hM.1 ?_; rw [fp_st hM]) | (refine And.intro hM.1 ?_; rw [fg_st hM]) | refine And.intro (by first | exact hM.1 | assumption | rfl | exact Nat.le_of_ble_eq_true rfl | exact Nat.zero_le _ | decide) ?_)
      refine c_set hst hM c0 5 rfl rfl (by omega) ?_
      repeat (first | (refine And.intro hM.1 (And.intro hM.2.1 ?_); rw [g_st hM]) | (refine And.intro hM.1 ?_; rw [fp_st hM]) | (refine And.intro hM.1 ?_; rw [fg_st hM]) | refine And.intro (by first | exact hM.1 | assumption | rfl | exact Nat.le_of_ble_eq_true rfl | exact Nat.zero_le _ | decide) ?_)
      refine c_set hst hM c0 6 rfl rfl (by omega) ?_
      repeat (first | (refine And.intro hM.1 (And.intro hM.2.1 ?_); rw [g_st hM]) | (refine And.intro hM.1 ?_; rw [fp_st hM]) | (refine And.intro hM.1 ?_; rw [fg_st hM]) | refine And.intro (by first | exact hM.1 | assumption | rfl | exact Nat.le_of_ble_eq_true rfl | exact Nat.zero_le _ | decide) ?_)
      refine And.intro (k20 hM) (And.intro (vin hM (x := (0 : Int32)) (i := 0) rfl (by decide)) ?_); rw [ld_st hM (x := (0 : Int32)) (i := 0) rfl (by decide)]
      refine And.intro (k20 hM) (And.intro (vin hM (x := (0 : Int32)) (i := 0) rfl (by decide)) ?_); rw [sd_st hM (x := (0 : Int32)) (i := 0) rfl (by decide)]
      repeat (first | (refine And.intro hM.1 (And.intro hM.2.1 ?_); rw [g_st hM]) | (refine And.intro hM.1 ?_; rw [fp_st hM]) | (refine And.intro hM.1 ?_; rw [fg_st hM]) | refine And.intro (by first | exact hM.1 | assumption | rfl | exact Nat.le_of_ble_eq_true rfl | exact Nat.zero_le _ | decide) ?_)
      have fin := q ok c8
      rw [← pa9_end N c0 s ol rl y] at fin
      rw [show upd (upd (upd (upd (upd (pa9 N c0 23) (7 + c0 * 23 + 0) s) (7 + c0 * 23 + 13) s) (7 + c0 * 23 + 4) ol) (7 + c0 * 23 + 5) rl) (7 + c0 * 23 + 6) y 0 = nI c0 by
        rw [pk_un (by omega), pk_un (by omega), pk_un (by omega), pk_un (by omega), pk_un (by omega)]
        unfold pa9
        rw [if_neg (by omega)]
        exact h0]
      exact fin
    | succ n ih =>
      intro i hi c8 ok
      refine hK _ _ _ _ ?_
      refine And.intro (fun hc => ?_) (fun hc => ?_)
      · exact absurd (show nI 23 ≤ nI i from hc) (nI_ge (by omega) (by decide))
      repeat (first | (refine And.intro hM.1 (And.intro hM.2.1 ?_); rw [g_st hM]) | (refine And.intro hM.1 ?_; rw [fp_st hM]) | (refine And.intro hM.1 ?_; rw [fg_st hM]) | refine And.intro (by first | exact hM.1 | assumption | rfl | exact Nat.le_of_ble_eq_true rfl | exact Nat.zero_le _ | decide) ?_)
      refine c_set hst hM c0 i rfl rfl (by omega) ?_
      have nx := ih (i + 1) (by omega) c8 ok
      have e1 : pa9 N c0 (i + 1) = upd (pa9 N c0 i) (7 + c0 * 23 + i) 0 := funext fun j => by
        by_cases z : j = 7 + c0 * 23 + i
        · subst z
          rw [pk_us]
          unfold pa9
          rw [if_pos (by omega)]
        · rw [pk_un z]
          unfold pa9
          by_cases w : 7 + c0 * 23 ≤ j ∧ j < 7 + c0 * 23 + i
          · rw [if_pos w, if_pos (by omega)]
          · rw [if_neg w, if_neg (by omega)]
      rw [e1, ← nI_1 i] at nx
      exact nx
  have lead : ∀ v : Int32, (v ≠ 0 ↔ (1 ≤ ol ∧ ol ≤ 9) ∧ 1 ≤ rl ∧ rl ≤ 9) → fX9_addPart_25 l Q X K (lv_args 0 [.ref m, .int s, .int ol, .int rl, .int y]) [.int v] (st h m F N) (0, 0) := by
    intro v hv
    refine And.intro (fun h0 => ?_) (fun h0 => ?_)
    · exact bad _ rfl (fun z => absurd h0 (hv.mpr ⟨z.2.1, z.2.2.1⟩))
    have hl := hv.mp h0
    repeat (refine And.intro (by first | assumption | rfl | exact Nat.le_of_ble_eq_true rfl | exact Nat.zero_le _ | decide) ?_)
    by_cases h1 : 0 ≤ s ∧ s ≤ 999
    rotate_left
    · refine c_isBet0 hst h1 ?_
      refine And.intro (fun _ => ?_) (fun z => absurd rfl z)
      exact bad _ rfl (fun z => h1 z.1)
    refine c_isBet1 hst h1 ?_
    refine And.intro (fun z => absurd z (by decide)) (fun _ => ?_)
    repeat (refine And.intro (by first | assumption | rfl | exact Nat.le_of_ble_eq_true rfl | exact Nat.zero_le _ | decide) ?_)
    by_cases h2 : 0 ≤ y ∧ y ≤ 100
    rotate_left
    · refine c_isBet0 hst h2 ?_
      refine And.intro (fun z => absurd rfl z) (fun _ => ?_)
      exact bad _ rfl (fun z => h2 z.2.2.2)
    refine c_isBet1 hst h2 ?_
    refine And.intro (fun _ => ?_) (fun z => absurd z (by decide))
    have ok : ((0 ≤ s ∧ s ≤ 999) ∧ (1 ≤ ol ∧ ol ≤ 9) ∧ (1 ≤ rl ∧ rl ≤ 9) ∧ 0 ≤ y ∧ y ≤ 100) := ⟨h1, hl.1, hl.2, h2⟩
    repeat (first | (refine And.intro hM.1 (And.intro hM.2.1 ?_); rw [g_st hM]) | (refine And.intro hM.1 ?_; rw [fp_st hM]) | (refine And.intro hM.1 ?_; rw [fg_st hM]) | refine And.intro (by first | exact hM.1 | assumption | rfl | exact Nat.le_of_ble_eq_true rfl | exact Nat.zero_le _ | decide) ?_)
    refine c_fails0 hst hM ?_
    repeat (first | (refine And.intro hM.1 (And.intro hM.2.1 ?_); rw [g_st hM]) | (refine And.intro hM.1 ?_; rw [fp_st hM]) | (refine And.intro hM.1 ?_; rw [fg_st hM]) | refine And.intro (by first | exact hM.1 | assumption | rfl | exact Nat.le_of_ble_eq_true rfl | exact Nat.zero_le _ | decide) ?_ | refine And.intro (fun _ => ?_) (fun hz => absurd hz (by decide)) | refine And.intro (fun hz => absurd hz (by decide)) (fun _ => ?_))
    refine And.intro (k20 hM) (And.intro (vin hM (x := (0 : Int32)) (i := 0) rfl (by decide)) ?_); rw [ld_st hM (x := (0 : Int32)) (i := 0) rfl (by decide)]
    rw [hN.1.1]
    refine And.intro (fun hne => ?_) (fun he => ?_)
    rotate_left
    · have e8 : c0 = 8 := (nI_eq (by omega) (by decide)).mp (show nI c0 = nI 8 from he)
      repeat (first | (refine And.intro hM.1 (And.intro hM.2.1 ?_); rw [g_st hM]) | (refine And.intro hM.1 ?_; rw [fp_st hM]) | (refine And.intro hM.1 ?_; rw [fg_st hM]) | refine And.intro (by first | exact hM.1 | assumption | rfl | exact Nat.le_of_ble_eq_true rfl | exact Nat.zero_le _ | decide) ?_)
      refine c_fails1u hst hM ?_
      repeat (first | (refine And.intro hM.1 (And.intro hM.2.1 ?_); rw [g_st hM]) | (refine And.intro hM.1 ?_; rw [fp_st hM]) | (refine And.intro hM.1 ?_; rw [fg_st hM]) | refine And.intro (by first | exact hM.1 | assumption | rfl | exact Nat.le_of_ble_eq_true rfl | exact Nat.zero_le _ | decide) ?_ | refine And.intro (fun _ => ?_) (fun hz => absurd hz (by decide)) | refine And.intro (fun hz => absurd hz (by decide)) (fun _ => ?_))
      exact x2 ok (by omega)
    have c8 : c0 < 8 := by
      have : c0 ≠ 8 := fun z => hne (by rw [z]; rfl)
      omega
    repeat (first | (refine And.intro hM.1 (And.intro hM.2.1 ?_); rw [g_st hM]) | (refine And.intro hM.1 ?_; rw [fp_st hM]) | (refine And.intro hM.1 ?_; rw [fg_st hM]) | refine And.intro (by first | exact hM.1 | assumption | rfl | exact Nat.le_of_ble_eq_true rfl | exact Nat.zero_le _ | decide) ?_)
    refine c_fails0u hst hM ?_
    repeat (first | (refine And.intro hM.1 (And.intro hM.2.1 ?_); rw [g_st hM]) | (refine And.intro hM.1 ?_; rw [fp_st hM]) | (refine And.intro hM.1 ?_; rw [fg_st hM]) | refine And.intro (by first | exact hM.1 | assumption | rfl | exact Nat.le_of_ble_eq_true rfl | exact Nat.zero_le _ | decide) ?_ | refine And.intro (fun _ => ?_) (fun hz => absurd hz (by decide)) | refine And.intro (fun hz => absurd hz (by decide)) (fun _ => ?_))
    refine c_remember hst hM hL9 (F := upd F 0 0) ((pk_un (by decide)).trans hr) r8 ?_
    have hM : MdS (hpush h m r N) m := hM.push
    repeat (first | (refine And.intro hM.1 (And.intro hM.2.1 ?_); rw [g_st hM]) | (refine And.intro hM.1 ?_; rw [fp_st hM]) | (refine And.intro hM.1 ?_; rw [fg_st hM]) | refine And.intro (by first | exact hM.1 | assumption | rfl | exact Nat.le_of_ble_eq_true rfl | exact Nat.zero_le _ | decide) ?_)
    refine And.intro (k20 hM) (And.intro (vin hM (x := (0 : Int32)) (i := 0) rfl (by decide)) ?_); rw [ld_st hM (x := (0 : Int32)) (i := 0) rfl (by decide)]
    rw [hN.1.1]
    have l0 := loop v 23 0 rfl c8 ok
    rw [pa9_0] at l0
    exact l0
  repeat (refine And.intro (by first | assumption | rfl | exact Nat.le_of_ble_eq_true rfl | exact Nat.zero_le _ | decide) ?_)
  by_cases h1 : 1 ≤ ol ∧ ol ≤ 9
  rotate_left
  · refine c_isBet0 hst h1 ?_
    refine And.intro (fun _ => ?_) (fun z => absurd rfl z)
    exact lead 0 ⟨fun z => absurd rfl z, fun z => absurd z.1 h1⟩
  refine c_isBet1 hst h1 ?_
  refine And.intro (fun z => absurd z (by decide)) (fun _ => ?_)
  repeat (refine And.intro (by first | assumption | rfl | exact Nat.le_of_ble_eq_true rfl | exact Nat.zero_le _ | decide) ?_)
  by_cases h2 : 1 ≤ rl ∧ rl ≤ 9
  rotate_left
  · refine c_isBet0 hst h2 ?_
    refine And.intro (fun _ => ?_) (fun z => absurd rfl z)
    exact lead 0 ⟨fun z => absurd rfl z, fun z => absurd z.2 h2⟩
  refine c_isBet1 hst h2 ?_
  refine And.intro (fun z => absurd z (by decide)) (fun _ => ?_)
  exact lead 1 ⟨fun _ => ⟨h1, h2⟩, fun _ => by decide⟩
end Q6

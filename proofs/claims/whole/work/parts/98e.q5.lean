section Q5
theorem k_clear {l : Launch} (hst : l.stackTraces = false) {Q : Option Value → Hp → Prop} {X : String → Hp → Prop} {h : Hp} {m : Nat} {F N : Nat → Int32} (hM : MdS h m) (hL9 : MdL h m) {c0 c1 c2 c3 c4 : Nat} (hN : WFc N c0 c1 c2 c3 c4) (q : ∀ N', (∀ j, j < 359 → N' j = 0) → Q (some (.int (N 0))) (st h m (upd (upd F 0 0) 5 0) N')) : CX9_clear l [.ref m] (st h m F N) Q X := by
  refine eX9_clear hst (Nat.le_of_ble_eq_true rfl) (fun K hK => ?_)
  repeat (first | (refine And.intro hM.1 (And.intro hM.2.1 ?_); rw [g_st hM]) | (refine And.intro hM.1 ?_; rw [fp_st hM]) | (refine And.intro hM.1 ?_; rw [fg_st hM]) | refine And.intro (by first | exact hM.1 | assumption | rfl | exact Nat.le_of_ble_eq_true rfl | exact Nat.zero_le _ | decide) ?_)
  refine And.intro (k20 hM) (And.intro (vin hM (x := (0 : Int32)) (i := 0) rfl (by decide)) ?_); rw [ld_st hM (x := (0 : Int32)) (i := 0) rfl (by decide)]
  have loop : ∀ (n i : Nat) (M : Nat → Int32), i + n = 359 → (∀ j, j < i → M j = 0) → K 14 [(2, .int (nI i)), (1, .int (N 0)), (0, .ref m)] [] (st h m (upd F 0 0) M) (0, 0) := by
    intro n
    induction n with
    | zero =>
      intro i M hi hz
      have : i = 359 := by omega
      subst this
      refine hK _ _ _ _ ?_
      refine And.intro (fun hc => ?_) (fun hc => ?_)
      · repeat (first | (refine And.intro hM.1 (And.intro hM.2.1 ?_); rw [g_st hM]) | (refine And.intro hM.1 ?_; rw [fp_st hM]) | (refine And.intro hM.1 ?_; rw [fg_st hM]) | refine And.intro (by first | exact hM.1 | assumption | rfl | exact Nat.le_of_ble_eq_true rfl | exact Nat.zero_le _ | decide) ?_)
        exact q M hz
      · exact absurd (show nI 359 ≤ nI 359 from Int32.le_refl _) hc
    | succ n ih =>
      intro i M hi hz
      refine hK _ _ _ _ ?_
      refine And.intro (fun hc => ?_) (fun hc => ?_)
      · exact absurd (show nI 359 ≤ nI i from hc) (nI_ge (by omega) (by decide))
      · repeat (first | (refine And.intro hM.1 (And.intro hM.2.1 ?_); rw [g_st hM]) | (refine And.intro hM.1 ?_; rw [fp_st hM]) | (refine And.intro hM.1 ?_; rw [fg_st hM]) | refine And.intro (by first | exact hM.1 | assumption | rfl | exact Nat.le_of_ble_eq_true rfl | exact Nat.zero_le _ | decide) ?_)
        refine And.intro (k20 hM) (And.intro (vin hM (i := i) rfl (by omega)) ?_); rw [sd_st hM (i := i) rfl (by omega)]
        have nx := ih (i + 1) (upd M i 0) (by omega) (fun j hj => by
          by_cases z : j = i
          · subst z; exact pk_us
          · rw [pk_un z]; exact hz j (by omega))
        rw [← nI_1 i] at nx
        exact nx
  exact loop 359 0 N (by omega) (fun j hj => absurd hj (Nat.not_lt_zero j))
def rmt (N : Nat → Int32) (p i c t : Nat) : Nat → Int32 := fun j => if 7 + p * 23 + (9 + i) ≤ j ∧ j < 7 + p * 23 + (9 + t) then N (j + 1) else if j = 7 + p * 23 + 8 then nI c else N j
theorem k_removeSubstitute {l : Launch} (hst : l.stackTraces = false) {Q : Option Value → Hp → Prop} {X : String → Hp → Prop} {h : Hp} {m : Nat} {F N : Nat → Int32} (hM : MdS h m) (hL9 : MdL h m) {c0 c1 c2 c3 c4 : Nat} (hN : WFc N c0 c1 c2 c3 c4) {r : Nat} (hr : F 5 = nI r) (r8 : r ≤ 8) {P O : Int32} (x1 : ¬ ((0 ≤ P ∧ P < nI c0) ∧ 0 ≤ O ∧ O < nI c0) → Q (some (.int 0)) (st h m (upd F 0 1) N)) (x2 : ∀ p s c, P = nI p → p < c0 → O = nI s → s < c0 → N (7 + p * 23 + 8) = nI c → c ≤ 4 → s_place N p O c = -1 → Q (some (.int 0)) (st h m (upd F 0 2) N)) (q : ∀ p c i s, P = nI p → p < c0 → O = nI s → s < c0 → N (7 + p * 23 + 8) = nI (c + 1) → c + 1 ≤ 4 → i < c + 1 → s_place N p O (c + 1) = nI i → Q (some (.int (nI c))) (st (hpush h m r N) m (upd (upd F 0 0) 5 (nI (pr r))) (r_rems N p i c))) : CX9_removeSubstitute l [.ref m, .int P, .int O] (st h m F N) Q X := by
  have k8 := hN.1.2
  refine eX9_removeSubstitute hst (Nat.le_of_ble_eq_true rfl) (fun K hK => ?_)
  by_cases hP : 0 ≤ P ∧ P < nI c0
  rotate_left
  · (repeat (first | (refine And.intro hM.1 (And.intro hM.2.1 ?_); rw [g_st hM]) | (refine And.intro hM.1 ?_; rw [fp_st hM]) | (refine And.intro hM.1 ?_; rw [fg_st hM]) | refine And.intro (by first | exact hM.1 | assumption | rfl | exact Nat.le_of_ble_eq_true rfl | exact Nat.zero_le _ | decide) ?_))
    refine c_isPart0 hst hM hN.1.1 hN.1.2 hP ?_
    (repeat (first | (refine And.intro hM.1 (And.intro hM.2.1 ?_); rw [g_st hM]) | (refine And.intro hM.1 ?_; rw [fp_st hM]) | (refine And.intro hM.1 ?_; rw [fg_st hM]) | refine And.intro (by first | exact hM.1 | assumption | rfl | exact Nat.le_of_ble_eq_true rfl | exact Nat.zero_le _ | decide) ?_ | refine And.intro (fun _ => ?_) (fun hz => absurd hz (by decide)) | refine And.intro (fun hz => absurd hz (by decide)) (fun _ => ?_)))
    refine c_fails1 hst hM ?_
    (repeat (first | (refine And.intro hM.1 (And.intro hM.2.1 ?_); rw [g_st hM]) | (refine And.intro hM.1 ?_; rw [fp_st hM]) | (refine And.intro hM.1 ?_; rw [fg_st hM]) | refine And.intro (by first | exact hM.1 | assumption | rfl | exact Nat.le_of_ble_eq_true rfl | exact Nat.zero_le _ | decide) ?_ | refine And.intro (fun _ => ?_) (fun hz => absurd hz (by decide)) | refine And.intro (fun hz => absurd hz (by decide)) (fun _ => ?_)))
    exact x1 (fun z => hP z.1)
  obtain ⟨p, p1, p2⟩ := in9 (c := c0) (by have := hN.1.2; omega) hP
  subst p2
  (repeat (first | (refine And.intro hM.1 (And.intro hM.2.1 ?_); rw [g_st hM]) | (refine And.intro hM.1 ?_; rw [fp_st hM]) | (refine And.intro hM.1 ?_; rw [fg_st hM]) | refine And.intro (by first | exact hM.1 | assumption | rfl | exact Nat.le_of_ble_eq_true rfl | exact Nat.zero_le _ | decide) ?_))
  refine c_isPart1 hst hM hN.1.1 hN.1.2 p1 ?_
  (repeat (first | (refine And.intro hM.1 (And.intro hM.2.1 ?_); rw [g_st hM]) | (refine And.intro hM.1 ?_; rw [fp_st hM]) | (refine And.intro hM.1 ?_; rw [fg_st hM]) | refine And.intro (by first | exact hM.1 | assumption | rfl | exact Nat.le_of_ble_eq_true rfl | exact Nat.zero_le _ | decide) ?_ | refine And.intro (fun _ => ?_) (fun hz => absurd hz (by decide)) | refine And.intro (fun hz => absurd hz (by decide)) (fun _ => ?_)))
  by_cases hO : 0 ≤ O ∧ O < nI c0
  rotate_left
  · refine c_isPart0 hst hM hN.1.1 hN.1.2 hO ?_
    (repeat (first | (refine And.intro hM.1 (And.intro hM.2.1 ?_); rw [g_st hM]) | (refine And.intro hM.1 ?_; rw [fp_st hM]) | (refine And.intro hM.1 ?_; rw [fg_st hM]) | refine And.intro (by first | exact hM.1 | assumption | rfl | exact Nat.le_of_ble_eq_true rfl | exact Nat.zero_le _ | decide) ?_ | refine And.intro (fun _ => ?_) (fun hz => absurd hz (by decide)) | refine And.intro (fun hz => absurd hz (by decide)) (fun _ => ?_)))
    refine c_fails1 hst hM ?_
    (repeat (first | (refine And.intro hM.1 (And.intro hM.2.1 ?_); rw [g_st hM]) | (refine And.intro hM.1 ?_; rw [fp_st hM]) | (refine And.intro hM.1 ?_; rw [fg_st hM]) | refine And.intro (by first | exact hM.1 | assumption | rfl | exact Nat.le_of_ble_eq_true rfl | exact Nat.zero_le _ | decide) ?_ | refine And.intro (fun _ => ?_) (fun hz => absurd hz (by decide)) | refine And.intro (fun hz => absurd hz (by decide)) (fun _ => ?_)))
    exact x1 (fun z => hO z.2)
  obtain ⟨s, s1, s2⟩ := in9 (c := c0) (by have := hN.1.2; omega) hO
  subst s2
  refine c_isPart1 hst hM hN.1.1 hN.1.2 s1 ?_
  (repeat (first | (refine And.intro hM.1 (And.intro hM.2.1 ?_); rw [g_st hM]) | (refine And.intro hM.1 ?_; rw [fp_st hM]) | (refine And.intro hM.1 ?_; rw [fg_st hM]) | refine And.intro (by first | exact hM.1 | assumption | rfl | exact Nat.le_of_ble_eq_true rfl | exact Nat.zero_le _ | decide) ?_ | refine And.intro (fun _ => ?_) (fun hz => absurd hz (by decide)) | refine And.intro (fun hz => absurd hz (by decide)) (fun _ => ?_)))
  refine c_fails0 hst hM ?_
  (repeat (first | (refine And.intro hM.1 (And.intro hM.2.1 ?_); rw [g_st hM]) | (refine And.intro hM.1 ?_; rw [fp_st hM]) | (refine And.intro hM.1 ?_; rw [fg_st hM]) | refine And.intro (by first | exact hM.1 | assumption | rfl | exact Nat.le_of_ble_eq_true rfl | exact Nat.zero_le _ | decide) ?_ | refine And.intro (fun _ => ?_) (fun hz => absurd hz (by decide)) | refine And.intro (fun hz => absurd hz (by decide)) (fun _ => ?_)))
  obtain ⟨c', c4', hc⟩ := subc hN p1
  obtain ⟨n1, n2⟩ := place_neg (N := N) (p := p) (o := nI s) c4'
  refine c_placeOf hst hM p c' rfl (by omega) c4' hc ?_
  refine And.intro (fun hp => ?_) (fun hp => ?_)
  rotate_left
  · repeat (first | (refine And.intro hM.1 (And.intro hM.2.1 ?_); rw [g_st hM]) | (refine And.intro hM.1 ?_; rw [fp_st hM]) | (refine And.intro hM.1 ?_; rw [fg_st hM]) | refine And.intro (by first | exact hM.1 | assumption | rfl | exact Nat.le_of_ble_eq_true rfl | exact Nat.zero_le _ | decide) ?_)
    refine c_fails1u hst hM ?_
    repeat (first | (refine And.intro hM.1 (And.intro hM.2.1 ?_); rw [g_st hM]) | (refine And.intro hM.1 ?_; rw [fp_st hM]) | (refine And.intro hM.1 ?_; rw [fg_st hM]) | refine And.intro (by first | exact hM.1 | assumption | rfl | exact Nat.le_of_ble_eq_true rfl | exact Nat.zero_le _ | decide) ?_ | refine And.intro (fun _ => ?_) (fun hz => absurd hz (by decide)) | refine And.intro (fun hz => absurd hz (by decide)) (fun _ => ?_))
    exact x2 p s c' rfl p1 rfl s1 hc c4' (n1.mp (Int32.not_le.mp hp))
  have hne : s_place N p (nI s) c' ≠ -1 := fun z => absurd hp (by rw [z]; decide)
  obtain ⟨i, i1, i2⟩ := n2 hne
  obtain ⟨c, rfl⟩ : ∃ c, c' = c + 1 := ⟨c' - 1, by omega⟩
  repeat (first | (refine And.intro hM.1 (And.intro hM.2.1 ?_); rw [g_st hM]) | (refine And.intro hM.1 ?_; rw [fp_st hM]) | (refine And.intro hM.1 ?_; rw [fg_st hM]) | refine And.intro (by first | exact hM.1 | assumption | rfl | exact Nat.le_of_ble_eq_true rfl | exact Nat.zero_le _ | decide) ?_)
  refine c_fails0u hst hM ?_
  repeat (first | (refine And.intro hM.1 (And.intro hM.2.1 ?_); rw [g_st hM]) | (refine And.intro hM.1 ?_; rw [fp_st hM]) | (refine And.intro hM.1 ?_; rw [fg_st hM]) | refine And.intro (by first | exact hM.1 | assumption | rfl | exact Nat.le_of_ble_eq_true rfl | exact Nat.zero_le _ | decide) ?_ | refine And.intro (fun _ => ?_) (fun hz => absurd hz (by decide)) | refine And.intro (fun hz => absurd hz (by decide)) (fun _ => ?_))
  refine c_remember hst hM hL9 (F := upd F 0 0) ((pk_un (by decide)).trans hr) r8 ?_
  have hM : MdS (hpush h m r N) m := hM.push
  (repeat (first | (refine And.intro hM.1 (And.intro hM.2.1 ?_); rw [g_st hM]) | (refine And.intro hM.1 ?_; rw [fp_st hM]) | (refine And.intro hM.1 ?_; rw [fg_st hM]) | refine And.intro (by first | exact hM.1 | assumption | rfl | exact Nat.le_of_ble_eq_true rfl | exact Nat.zero_le _ | decide) ?_))
  refine c_placeOf hst hM p (c + 1) rfl (by omega) c4' hc ?_
  rw [i2]
  repeat (first | (refine And.intro hM.1 (And.intro hM.2.1 ?_); rw [g_st hM]) | (refine And.intro hM.1 ?_; rw [fp_st hM]) | (refine And.intro hM.1 ?_; rw [fg_st hM]) | refine And.intro (by first | exact hM.1 | assumption | rfl | exact Nat.le_of_ble_eq_true rfl | exact Nat.zero_le _ | decide) ?_)
  refine c_increase hst hM p 8 rfl rfl (by omega) ?_
  rw [hc, show nI (c + 1) + -1 = nI c from dec32 c (by omega)]
  have e0 : upd N (7 + p * 23 + 8) (nI c) = rmt N p i c i := funext fun j => by
    unfold rmt
    rw [if_neg (by omega)]
    by_cases z : j = 7 + p * 23 + 8
    · subst z; rw [pk_us, if_pos rfl]
    · rw [pk_un z, if_neg z]
  rw [e0]
  have fin := q p c i s rfl p1 rfl s1 hc c4' i1 i2
  have loop : ∀ (n t : Nat), t + n = c → i ≤ t → K 75 [(4, .int (nI t)), (3, .int (nI i)), (0, .ref m), (1, .int (nI p)), (2, .int (nI s))] [] (st (hpush h m r N) m (upd (upd F 0 0) 5 (nI (pr r))) (rmt N p i c t)) (0, 0) := by
    intro n
    induction n with
    | zero =>
      intro t ht hit
      have : t = c := by omega
      subst this
      have e8 : rmt N p i t t (7 + p * 23 + 8) = nI t := by
        unfold rmt
        rw [if_neg (by omega), if_pos rfl]
      refine hK _ _ _ _ ?_
      repeat (first | (refine And.intro hM.1 (And.intro hM.2.1 ?_); rw [g_st hM]) | (refine And.intro hM.1 ?_; rw [fp_st hM]) | (refine And.intro hM.1 ?_; rw [fg_st hM]) | refine And.intro (by first | exact hM.1 | assumption | rfl | exact Nat.le_of_ble_eq_true rfl | exact Nat.zero_le _ | decide) ?_)
      refine c_of hst hM p 8 rfl rfl (by omega) ?_
      rw [e8]
      refine And.intro (fun hcc => ?_) (fun hcc => ?_)
      · repeat (first | (refine And.intro hM.1 (And.intro hM.2.1 ?_); rw [g_st hM]) | (refine And.intro hM.1 ?_; rw [fp_st hM]) | (refine And.intro hM.1 ?_; rw [fg_st hM]) | refine And.intro (by first | exact hM.1 | assumption | rfl | exact Nat.le_of_ble_eq_true rfl | exact Nat.zero_le _ | decide) ?_)
        refine c_of hst hM p 8 rfl rfl (by omega) ?_
        rw [e8]
        repeat (first | (refine And.intro hM.1 (And.intro hM.2.1 ?_); rw [g_st hM]) | (refine And.intro hM.1 ?_; rw [fp_st hM]) | (refine And.intro hM.1 ?_; rw [fg_st hM]) | refine And.intro (by first | exact hM.1 | assumption | rfl | exact Nat.le_of_ble_eq_true rfl | exact Nat.zero_le _ | decide) ?_)
        exact fin
      · exact absurd (show nI t ≤ nI t from Int32.le_refl _) hcc
    | succ n ih =>
      intro t ht hit
      have e8 : rmt N p i c t (7 + p * 23 + 8) = nI c := by
        unfold rmt
        rw [if_neg (by omega), if_pos rfl]
      refine hK _ _ _ _ ?_
      repeat (first | (refine And.intro hM.1 (And.intro hM.2.1 ?_); rw [g_st hM]) | (refine And.intro hM.1 ?_; rw [fp_st hM]) | (refine And.intro hM.1 ?_; rw [fg_st hM]) | refine And.intro (by first | exact hM.1 | assumption | rfl | exact Nat.le_of_ble_eq_true rfl | exact Nat.zero_le _ | decide) ?_)
      refine c_of hst hM p 8 rfl rfl (by omega) ?_
      rw [e8]
      refine And.intro (fun hcc => ?_) (fun hcc => ?_)
      · exact absurd (show nI c ≤ nI t from hcc) (nI_ge (by omega) (by omega))
      · repeat (first | (refine And.intro hM.1 (And.intro hM.2.1 ?_); rw [g_st hM]) | (refine And.intro hM.1 ?_; rw [fp_st hM]) | (refine And.intro hM.1 ?_; rw [fg_st hM]) | refine And.intro (by first | exact hM.1 | assumption | rfl | exact Nat.le_of_ble_eq_true rfl | exact Nat.zero_le _ | decide) ?_)
        refine c_of hst hM p (9 + t + 1) rfl (show (9 : Int32) + nI t + 1 = nI (9 + t + 1) by rw [show (9 : Int32) = nI 9 from rfl, nI_add, nI_1]) (by omega) ?_
        repeat (first | (refine And.intro hM.1 (And.intro hM.2.1 ?_); rw [g_st hM]) | (refine And.intro hM.1 ?_; rw [fp_st hM]) | (refine And.intro hM.1 ?_; rw [fg_st hM]) | refine And.intro (by first | exact hM.1 | assumption | rfl | exact Nat.le_of_ble_eq_true rfl | exact Nat.zero_le _ | decide) ?_)
        refine c_set hst hM p (9 + t) rfl (show (9 : Int32) + nI t = nI (9 + t) from nI_add 9 t) (by omega) ?_
        have nx := ih (t + 1) (by omega) (by omega)
        have e1 : rmt N p i c (t + 1) = upd (rmt N p i c t) (7 + p * 23 + (9 + t)) (rmt N p i c t (7 + p * 23 + (9 + t + 1))) := funext fun j => by
          by_cases z : j = 7 + p * 23 + (9 + t)
          · subst z
            rw [pk_us]
            unfold rmt
            rw [if_pos (by omega), if_neg (by omega), if_neg (by omega)]
            rfl
          · rw [pk_un z]
            unfold rmt
            by_cases y : 7 + p * 23 + (9 + i) ≤ j ∧ j < 7 + p * 23 + (9 + t)
            · rw [if_pos y, if_pos (by omega)]
            · rw [if_neg y, if_neg (by omega)]
        rw [e1, ← nI_1 t] at nx
        exact nx
  exact loop (c - i) i (by omega) (Nat.le_refl i)
end Q5

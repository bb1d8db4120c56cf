section S6
theorem nIj {a b : Nat} (h : nI a = nI b) (ha : a < 2 ^ 31) (hb : b < 2 ^ 31) : a = b := (nI_eq ha hb).mp h
theorem lss_c (a b : Int32) : lss a b = lss b a := Int32.toInt_inj.mp (by rw [lss_i, lss_i, Int.min_comm])
theorem tk_alg (a x : Int32) : a - (a + -x) = x := by
  rw [← Int32.sub_eq_add_neg, Int32.sub_eq_add_neg a (a - x), Int32.neg_sub, Int32.add_comm, Int32.sub_add_cancel]
theorem iss_st {N : Nat → Int32} {p : Nat} {w : Int32} : r_issue N p w (7 + p * 23 + 0) = N (7 + p * 23 + 0) + -lss (N (7 + p * 23 + 0)) w := by
  unfold r_issue
  rw [pk_un (by omega), pk_us]
theorem tk_sub {N : Nat → Int32} {p n i : Nat} {v w : Int32} (hi : i < 4) : (r_subs p n (r_issue N p v) w).2 (7 + p * 23 + (9 + i)) = N (7 + p * 23 + (9 + i)) :=
  (r_subs_o n (fun q => by omega) (fun q => by omega)).trans (r_issue_o (by omega) (by omega))
theorem tk_o {N : Nat → Int32} {p i q : Nat} {v w : Int32} : ∀ n, i + n ≤ 4 → (∀ j, i ≤ j → j < i + n → ∃ s : Nat, s < 8 ∧ N (7 + p * 23 + (9 + j)) = nI s ∧ s ≠ q) → (r_subs p (i + n) (r_issue N p v) w).2 (7 + q * 23 + 0) = (r_subs p i (r_issue N p v) w).2 (7 + q * 23 + 0)
  | 0, _, _ => rfl
  | n + 1, h4, hs => by
    obtain ⟨s, s8, e, ne⟩ := hs (i + n) (by omega) (by omega)
    have ih := tk_o (v := v) (w := w) n (by omega) (fun j h1 h2 => hs j h1 (by omega))
    have d : (r_subs p (i + (n + 1)) (r_issue N p v) w).2 = r_issue (r_subs p (i + n) (r_issue N p v) w).2 ((r_subs p (i + n) (r_issue N p v) w).2 (7 + p * 23 + (9 + (i + n)))).toNatClampNeg (r_subs p (i + n) (r_issue N p v) w).1 := rfl
    rw [d, tk_sub (by omega), e, nI_clamp (by omega), r_issue_o (by omega) (by omega), ih]
theorem k_taken {l : Launch} (hst : l.stackTraces = false) {Q : Option Value → Hp → Prop} {X : String → Hp → Prop} {h : Hp} {m : Nat} {F N : Nat → Int32} (hM : MdS h m) (hL9 : MdL h m) {c0 c1 c2 c3 c4 : Nat} {B : Int} (g : GI N c0 c1 c2 c3 c4 B) {P O v : Int32} (x1 : ¬ ((0 ≤ P ∧ P < nI c0) ∧ 0 ≤ O ∧ O < nI c0) → Q (some (.int 0)) (st h m (upd F 0 1) N)) (x2 : (0 ≤ P ∧ P < nI c0) → (0 ≤ O ∧ O < nI c0) → ¬ (1 ≤ v ∧ v ≤ 999) → Q (some (.int 0)) (st h m (upd F 0 2) N)) (q : ∀ p s, P = nI p → p < c0 → O = nI s → s < c0 → 1 ≤ v ∧ v ≤ 999 → Q (some (.int (N (7 + s * 23 + 0) - (r_serve N p v).2 (7 + s * 23 + 0)))) (st h m (upd F 0 0) N)) : CX9_taken l [.ref m, .int P, .int O, .int v] (st h m F N) Q X := by
  have hN := g.wf
  have k8 := hN.1.2
  refine eX9_taken hst (Nat.le_of_ble_eq_true rfl) (fun K hK => ?_)
  by_cases hP : 0 ≤ P ∧ P < nI c0
  rotate_left
  · (repeat (first | (refine And.intro hM.1 (And.intro hM.2.1 ?_); rw [g_st hM]) | (refine And.intro hM.1 ?_; rw [fp_st hM]) | (refine And.intro hM.1 ?_; rw [fg_st hM]) | refine And.intro (by first | exact hM.1 | assumption | rfl | exact Nat.le_of_ble_eq_true rfl | exact Nat.zero_le _ | decide) ?_))
    refine c_isPart0 hst hM hN.1.1 hN.1.2 hP ?_
    (repeat (first | (refine And.intro hM.1 (And.intro hM.2.1 ?_); rw [g_st hM]) | (refine And.intro hM.1 ?_; rw [fp_st hM]) | (refine And.intro hM.1 ?_; rw [fg_st hM]) | refine And.intro (by first | exact hM.1 | assumption | rfl | exact Nat.le_of_ble_eq_true rfl | exact Nat.zero_le _ | decide) ?_ | refine And.intro (fun _ => ?_) (fun hz => absurd hz (by decide)) | refine And.intro (fun hz => absurd hz (by decide)) (fun _ => ?_)))
    refine c_fails1 hst hM ?_
    (repeat (first | (refine And.intro hM.1 (And.intro hM.2.1 ?_); rw [g_st hM]) | (refine And.intro hM.1 ?_; rw [fp_st hM]) | (refine And.intro hM.1 ?_; rw [fg_st hM]) | refine And.intro (by first | exact hM.1 | assumption | rfl | exact Nat.le_of_ble_eq_true rfl | exact Nat.zero_le _ | decide) ?_ | refine And.intro (fun _ => ?_) (fun hz => absurd hz (by decide)) | refine And.intro (fun hz => absurd hz (by decide)) (fun _ => ?_)))
    exact x1 (fun z => hP z.1)
  obtain ⟨p, p1, p2⟩ := in9 (c := c0) (by have := hN.1.2; omega) hP
  subst p2
  (repeat (first | (refine And.intro hM.1 (And.intro hM.2.1 ?_); rw [g_st hM]) | (refine And.intro hM.1 ?_; rw [fp_st hM]) | (refine And.intro hM.1 ?_; rw [fg_st hM]) | refine And.intro (by first | exact hM.1 | assumption | rfl | exact Nat.le_of_ble_eq_true rfl | exact Nat.zero_le _ | decide) ?_))
  refine c_isPart1 hst hM hN.1.1 hN.1.2 p1 ?_
  (repeat (first | (refine And.intro hM.1 (And.intro hM.2.1 ?_); rw [g_st hM]) | (refine And.intro hM.1 ?_; rw [fp_st hM]) | (refine And.intro hM.1 ?_; rw [fg_st hM]) | refine And.intro (by first | exact hM.1 | assumption | rfl | exact Nat.le_of_ble_eq_true rfl | exact Nat.zero_le _ | decide) ?_ | refine And.intro (fun _ => ?_) (fun hz => absurd hz (by decide)) | refine And.intro (fun hz => absurd hz (by decide)) (fun _ => ?_)))
  by_cases hO : 0 ≤ O ∧ O < nI c0
  rotate_left
  · refine c_isPart0 hst hM hN.1.1 hN.1.2 hO ?_
    (repeat (first | (refine And.intro hM.1 (And.intro hM.2.1 ?_); rw [g_st hM]) | (refine And.intro hM.1 ?_; rw [fp_st hM]) | (refine And.intro hM.1 ?_; rw [fg_st hM]) | refine And.intro (by first | exact hM.1 | assumption | rfl | exact Nat.le_of_ble_eq_true rfl | exact Nat.zero_le _ | decide) ?_ | refine And.intro (fun _ => ?_) (fun hz => absurd hz (by decide)) | refine And.intro (fun hz => absurd hz (by decide)) (fun _ => ?_)))
    refine c_fails1 hst hM ?_
    (repeat (first | (refine And.intro hM.1 (And.intro hM.2.1 ?_); rw [g_st hM]) | (refine And.intro hM.1 ?_; rw [fp_st hM]) | (refine And.intro hM.1 ?_; rw [fg_st hM]) | refine And.intro (by first | exact hM.1 | assumption | rfl | exact Nat.le_of_ble_eq_true rfl | exact Nat.zero_le _ | decide) ?_ | refine And.intro (fun _ => ?_) (fun hz => absurd hz (by decide)) | refine And.intro (fun hz => absurd hz (by decide)) (fun _ => ?_)))
    exact x1 (fun z => hO z.2)
  obtain ⟨s, s1, s2⟩ := in9 (c := c0) (by have := hN.1.2; omega) hO
  subst s2
  refine c_isPart1 hst hM hN.1.1 hN.1.2 s1 ?_
  (repeat (first | (refine And.intro hM.1 (And.intro hM.2.1 ?_); rw [g_st hM]) | (refine And.intro hM.1 ?_; rw [fp_st hM]) | (refine And.intro hM.1 ?_; rw [fg_st hM]) | refine And.intro (by first | exact hM.1 | assumption | rfl | exact Nat.le_of_ble_eq_true rfl | exact Nat.zero_le _ | decide) ?_ | refine And.intro (fun _ => ?_) (fun hz => absurd hz (by decide)) | refine And.intro (fun hz => absurd hz (by decide)) (fun _ => ?_)))
  refine c_fails0 hst hM ?_
  (repeat (first | (refine And.intro hM.1 (And.intro hM.2.1 ?_); rw [g_st hM]) | (refine And.intro hM.1 ?_; rw [fp_st hM]) | (refine And.intro hM.1 ?_; rw [fg_st hM]) | refine And.intro (by first | exact hM.1 | assumption | rfl | exact Nat.le_of_ble_eq_true rfl | exact Nat.zero_le _ | decide) ?_ | refine And.intro (fun _ => ?_) (fun hz => absurd hz (by decide)) | refine And.intro (fun hz => absurd hz (by decide)) (fun _ => ?_)))
  by_cases hv : 1 ≤ v ∧ v ≤ 999
  rotate_left
  · refine c_isQ0 hst hv ?_
    repeat (first | (refine And.intro hM.1 (And.intro hM.2.1 ?_); rw [g_st hM]) | (refine And.intro hM.1 ?_; rw [fp_st hM]) | (refine And.intro hM.1 ?_; rw [fg_st hM]) | refine And.intro (by first | exact hM.1 | assumption | rfl | exact Nat.le_of_ble_eq_true rfl | exact Nat.zero_le _ | decide) ?_ | refine And.intro (fun _ => ?_) (fun hz => absurd hz (by decide)) | refine And.intro (fun hz => absurd hz (by decide)) (fun _ => ?_))
    refine c_fails1u hst hM ?_
    repeat (first | (refine And.intro hM.1 (And.intro hM.2.1 ?_); rw [g_st hM]) | (refine And.intro hM.1 ?_; rw [fp_st hM]) | (refine And.intro hM.1 ?_; rw [fg_st hM]) | refine And.intro (by first | exact hM.1 | assumption | rfl | exact Nat.le_of_ble_eq_true rfl | exact Nat.zero_le _ | decide) ?_ | refine And.intro (fun _ => ?_) (fun hz => absurd hz (by decide)) | refine And.intro (fun hz => absurd hz (by decide)) (fun _ => ?_))
    exact x2 hP hO hv
  refine c_isQ1 hst hv ?_
  repeat (first | (refine And.intro hM.1 (And.intro hM.2.1 ?_); rw [g_st hM]) | (refine And.intro hM.1 ?_; rw [fp_st hM]) | (refine And.intro hM.1 ?_; rw [fg_st hM]) | refine And.intro (by first | exact hM.1 | assumption | rfl | exact Nat.le_of_ble_eq_true rfl | exact Nat.zero_le _ | decide) ?_ | refine And.intro (fun _ => ?_) (fun hz => absurd hz (by decide)) | refine And.intro (fun hz => absurd hz (by decide)) (fun _ => ?_))
  refine c_fails0u hst hM ?_
  repeat (first | (refine And.intro hM.1 (And.intro hM.2.1 ?_); rw [g_st hM]) | (refine And.intro hM.1 ?_; rw [fp_st hM]) | (refine And.intro hM.1 ?_; rw [fg_st hM]) | refine And.intro (by first | exact hM.1 | assumption | rfl | exact Nat.le_of_ble_eq_true rfl | exact Nat.zero_le _ | decide) ?_ | refine And.intro (fun _ => ?_) (fun hz => absurd hz (by decide)) | refine And.intro (fun hz => absurd hz (by decide)) (fun _ => ?_))
  refine c_of hst hM p 0 rfl rfl (by omega) ?_
  repeat (first | (refine And.intro hM.1 (And.intro hM.2.1 ?_); rw [g_st hM]) | (refine And.intro hM.1 ?_; rw [fp_st hM]) | (refine And.intro hM.1 ?_; rw [fg_st hM]) | refine And.intro (by first | exact hM.1 | assumption | rfl | exact Nat.le_of_ble_eq_true rfl | exact Nat.zero_le _ | decide) ?_)
  refine c_lesser hst ?_
  repeat (first | (refine And.intro hM.1 (And.intro hM.2.1 ?_); rw [g_st hM]) | (refine And.intro hM.1 ?_; rw [fp_st hM]) | (refine And.intro hM.1 ?_; rw [fg_st hM]) | refine And.intro (by first | exact hM.1 | assumption | rfl | exact Nat.le_of_ble_eq_true rfl | exact Nat.zero_le _ | decide) ?_)
  have fin := q p s rfl p1 rfl s1 hv
  obtain ⟨c, c4', hc, hsub⟩ := g.wf.sub p1
  obtain ⟨d1, d2⟩ := g.2.1 p c p1 hc c4'
  unfold r_serve at fin
  rw [hc, nI_clamp (by omega)] at fin
  rw [lss_c v]
  refine And.intro (fun hps => ?_) (fun hps => ?_)
  · repeat (refine And.intro (by first | assumption | rfl | exact Nat.le_of_ble_eq_true rfl | exact Nat.zero_le _ | decide) ?_)
    have hne : p ≠ s := fun z => hps (by rw [z])
    have loop : ∀ (n i : Nat), i + n = c → (∀ j, j < i → N (7 + p * 23 + (9 + j)) ≠ nI s) → K 78 [(5, .int (nI i)), (4, .int (r_subs p i (r_issue N p v) (v - lss (N (7 + p * 23 + 0)) v)).1), (0, .ref m), (1, .int (nI p)), (2, .int (nI s)), (3, .int v)] [] (st h m (upd F 0 0) N) (0, 0) ∧ ∀ y, K 78 [(5, .int (nI i)), (4, .int (r_subs p i (r_issue N p v) (v - lss (N (7 + p * 23 + 0)) v)).1), (6, .int y), (0, .ref m), (1, .int (nI p)), (2, .int (nI s)), (3, .int v)] [] (st h m (upd F 0 0) N) (0, 0) := by
      intro n
      induction n with
      | zero =>
        intro i hi hx
        have e0 : N (7 + s * 23 + 0) - (r_subs p c (r_issue N p v) (v - lss (N (7 + p * 23 + 0)) v)).2 (7 + s * 23 + 0) = 0 := by
          have e1 := tk_o (N := N) (p := p) (i := 0) (q := s) (v := v) (w := v - lss (N (7 + p * 23 + 0)) v) c (by omega) (fun j _ hj => by
            obtain ⟨t, t8, e⟩ := hsub j (by omega)
            exact ⟨t, t8, e, fun z => hx j (by omega) (by rw [e, z])⟩)
          rw [Nat.zero_add] at e1
          rw [e1, show (r_subs p 0 (r_issue N p v) (v - lss (N (7 + p * 23 + 0)) v)).2 = r_issue N p v from rfl, r_issue_o (by omega) (by omega), Int32.sub_self]
        rw [e0] at fin
        constructor
        rotate_left
        intro y
        all_goals
          refine hK _ _ _ _ ?_
          repeat (first | (refine And.intro hM.1 (And.intro hM.2.1 ?_); rw [g_st hM]) | (refine And.intro hM.1 ?_; rw [fp_st hM]) | (refine And.intro hM.1 ?_; rw [fg_st hM]) | refine And.intro (by first | exact hM.1 | assumption | rfl | exact Nat.le_of_ble_eq_true rfl | exact Nat.zero_le _ | decide) ?_)
          refine c_of hst hM p 8 rfl rfl (by omega) ?_
          rw [hc]
          refine And.intro (fun hcc => ?_) (fun hcc => ?_)
          · repeat (refine And.intro (by first | assumption | rfl | exact Nat.le_of_ble_eq_true rfl | exact Nat.zero_le _ | decide) ?_)
            exact fin
          · exact absurd (show nI c ≤ nI i by rw [show i = c by omega]; exact Int32.le_refl _) hcc
      | succ n ih =>
        intro i hi hx
        have hic : i < c := by omega
        obtain ⟨t, t8, et⟩ := hsub i hic
        have ep : t ≠ p := fun z => d1 i hic (by rw [et, z])
        have es : (r_subs p i (r_issue N p v) (v - lss (N (7 + p * 23 + 0)) v)).2 (7 + t * 23 + 0) = N (7 + t * 23 + 0) := by
          have e1 := tk_o (N := N) (p := p) (i := 0) (q := t) (v := v) (w := v - lss (N (7 + p * 23 + 0)) v) i (by omega) (fun j _ hj => by
            obtain ⟨t', t8', e⟩ := hsub j (by omega)
            exact ⟨t', t8', e, fun z => d2 j i (by omega) hic (by rw [e, et, z])⟩)
          rw [Nat.zero_add] at e1
          rw [e1, show (r_subs p 0 (r_issue N p v) (v - lss (N (7 + p * 23 + 0)) v)).2 = r_issue N p v from rfl, r_issue_o (by omega) (by omega)]
        have eS : r_subs p (i + 1) (r_issue N p v) (v - lss (N (7 + p * 23 + 0)) v) = ((r_subs p i (r_issue N p v) (v - lss (N (7 + p * 23 + 0)) v)).1 - lss (N (7 + t * 23 + 0)) (r_subs p i (r_issue N p v) (v - lss (N (7 + p * 23 + 0)) v)).1, r_issue (r_subs p i (r_issue N p v) (v - lss (N (7 + p * 23 + 0)) v)).2 t (r_subs p i (r_issue N p v) (v - lss (N (7 + p * 23 + 0)) v)).1) := by
          have d : r_subs p (i + 1) (r_issue N p v) (v - lss (N (7 + p * 23 + 0)) v) = ((r_subs p i (r_issue N p v) (v - lss (N (7 + p * 23 + 0)) v)).1 - lss ((r_subs p i (r_issue N p v) (v - lss (N (7 + p * 23 + 0)) v)).2 (7 + ((r_subs p i (r_issue N p v) (v - lss (N (7 + p * 23 + 0)) v)).2 (7 + p * 23 + (9 + i))).toNatClampNeg * 23 + 0)) (r_subs p i (r_issue N p v) (v - lss (N (7 + p * 23 + 0)) v)).1, r_issue (r_subs p i (r_issue N p v) (v - lss (N (7 + p * 23 + 0)) v)).2 ((r_subs p i (r_issue N p v) (v - lss (N (7 + p * 23 + 0)) v)).2 (7 + p * 23 + (9 + i))).toNatClampNeg (r_subs p i (r_issue N p v) (v - lss (N (7 + p * 23 + 0)) v)).1) := rfl
          rw [d, tk_sub (by omega), et, nI_clamp (by omega), es]
        generalize hl : (r_subs p i (r_issue N p v) (v - lss (N (7 + p * 23 + 0)) v)).1 = left at eS ⊢
        have ihn : t ≠ s → K 78 [(5, .int (nI (i + 1))), (4, .int (left - lss (N (7 + t * 23 + 0)) left)), (6, .int (lss (N (7 + t * 23 + 0)) left)), (0, .ref m), (1, .int (nI p)), (2, .int (nI s)), (3, .int v)] [] (st h m (upd F 0 0) N) (0, 0) := fun hts => by
          have := (ih (i + 1) (by omega) (fun j hj => by
            by_cases z : j = i
            · subst z
              rw [et]
              exact fun z => hts (nIj z (by omega) (by omega))
            · exact hx j (by omega))).2 (lss (N (7 + t * 23 + 0)) left)
          rw [eS] at this
          exact this
        have fe : t = s → Q (some (.int (lss (N (7 + t * 23 + 0)) left))) (st h m (upd F 0 0) N) := fun hts => by
          subst hts
          have e1 := tk_o (N := N) (p := p) (i := i + 1) (q := t) (v := v) (w := v - lss (N (7 + p * 23 + 0)) v) n (by omega) (fun j h1 hj => by
            obtain ⟨t', t8', e⟩ := hsub j (by omega)
            exact ⟨t', t8', e, fun z => d2 i j (by omega) (by omega) (by rw [e, et, z])⟩)
          rw [show i + 1 + n = c by omega, eS] at e1
          have e2 : N (7 + t * 23 + 0) - (r_subs p c (r_issue N p v) (v - lss (N (7 + p * 23 + 0)) v)).2 (7 + t * 23 + 0) = lss (N (7 + t * 23 + 0)) left := by
            rw [e1]
            show N (7 + t * 23 + 0) - r_issue _ t left (7 + t * 23 + 0) = _
            rw [iss_st, es, tk_alg]
          rw [e2] at fin
          exact fin
        constructor
        rotate_left
        intro y
        all_goals
          refine hK _ _ _ _ ?_
          repeat (first | (refine And.intro hM.1 (And.intro hM.2.1 ?_); rw [g_st hM]) | (refine And.intro hM.1 ?_; rw [fp_st hM]) | (refine And.intro hM.1 ?_; rw [fg_st hM]) | refine And.intro (by first | exact hM.1 | assumption | rfl | exact Nat.le_of_ble_eq_true rfl | exact Nat.zero_le _ | decide) ?_)
          refine c_of hst hM p 8 rfl rfl (by omega) ?_
          rw [hc]
          refine And.intro (fun hcc => ?_) (fun hcc => ?_)
          · exact absurd (show nI c ≤ nI i from hcc) (nI_ge hic (by omega))
          · repeat (first | (refine And.intro hM.1 (And.intro hM.2.1 ?_); rw [g_st hM]) | (refine And.intro hM.1 ?_; rw [fp_st hM]) | (refine And.intro hM.1 ?_; rw [fg_st hM]) | refine And.intro (by first | exact hM.1 | assumption | rfl | exact Nat.le_of_ble_eq_true rfl | exact Nat.zero_le _ | decide) ?_)
            refine c_of hst hM p (9 + i) rfl (show (9 : Int32) + nI i = nI (9 + i) from nI_add 9 i) (by omega) ?_
            rw [et]
            repeat (first | (refine And.intro hM.1 (And.intro hM.2.1 ?_); rw [g_st hM]) | (refine And.intro hM.1 ?_; rw [fp_st hM]) | (refine And.intro hM.1 ?_; rw [fg_st hM]) | refine And.intro (by first | exact hM.1 | assumption | rfl | exact Nat.le_of_ble_eq_true rfl | exact Nat.zero_le _ | decide) ?_)
            refine c_of hst hM t 0 rfl rfl (by omega) ?_
            repeat (first | (refine And.intro hM.1 (And.intro hM.2.1 ?_); rw [g_st hM]) | (refine And.intro hM.1 ?_; rw [fp_st hM]) | (refine And.intro hM.1 ?_; rw [fg_st hM]) | refine And.intro (by first | exact hM.1 | assumption | rfl | exact Nat.le_of_ble_eq_true rfl | exact Nat.zero_le _ | decide) ?_)
            refine c_lesser hst ?_
            rw [lss_c left]
            repeat (first | (refine And.intro hM.1 (And.intro hM.2.1 ?_); rw [g_st hM]) | (refine And.intro hM.1 ?_; rw [fp_st hM]) | (refine And.intro hM.1 ?_; rw [fg_st hM]) | refine And.intro (by first | exact hM.1 | assumption | rfl | exact Nat.le_of_ble_eq_true rfl | exact Nat.zero_le _ | decide) ?_)
            refine c_of hst hM p (9 + i) rfl (show (9 : Int32) + nI i = nI (9 + i) from nI_add 9 i) (by omega) ?_
            rw [et]
            refine And.intro (fun hts => ?_) (fun hts => ?_)
            · repeat (refine And.intro (by first | assumption | rfl | exact Nat.le_of_ble_eq_true rfl | exact Nat.zero_le _ | decide) ?_)
              have i1 := ihn (fun z => hts (by rw [z]))
              rw [← nI_1 i] at i1
              exact i1
            · repeat (refine And.intro (by first | assumption | rfl | exact Nat.le_of_ble_eq_true rfl | exact Nat.zero_le _ | decide) ?_)
              exact fe (nIj hts (by omega) (by omega))
    exact (loop c 0 (by omega) (fun j hj => absurd hj (Nat.not_lt_zero j))).1
  · repeat (refine And.intro (by first | assumption | rfl | exact Nat.le_of_ble_eq_true rfl | exact Nat.zero_le _ | decide) ?_)
    have hts : p = s := nIj hps (by omega) (by omega)
    subst hts
    have e1 := tk_o (N := N) (p := p) (i := 0) (q := p) (v := v) (w := v - lss (N (7 + p * 23 + 0)) v) c (by omega) (fun j _ hj => by
      obtain ⟨t, t8, e⟩ := hsub j (by omega)
      exact ⟨t, t8, e, fun z => d1 j (by omega) (by rw [e, z])⟩)
    rw [Nat.zero_add] at e1
    rw [e1, show (r_subs p 0 (r_issue N p v) (v - lss (N (7 + p * 23 + 0)) v)).2 = r_issue N p v from rfl] at fin
    have e2 : N (7 + p * 23 + 0) - r_issue N p v (7 + p * 23 + 0) = lss (N (7 + p * 23 + 0)) v := by
      rw [iss_st, tk_alg]
    rw [e2] at fin
    rw [show v - (v - lss (N (7 + p * 23 + 0)) v) = lss (N (7 + p * 23 + 0)) v by rw [Int32.sub_eq_add_neg v (lss _ _), tk_alg]]
    exact fin
end S6

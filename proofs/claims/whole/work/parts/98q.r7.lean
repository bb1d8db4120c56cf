section R7
theorem isC59 {c : Int32} : isC 59 59 c ↔ c = 59 := ⟨fun z => Int32.le_antisymm z.2 z.1, fun z => by rw [z]; decide⟩
theorem isC42 {c : Int32} : isC 42 42 c ↔ c = 42 := ⟨fun z => Int32.le_antisymm z.2 z.1, fun z => by rw [z]; decide⟩
theorem c_passQuantity1 {l : Launch} (hst : l.stackTraces = false) {Q : Option Value → Hp → Prop} {X : String → Hp → Prop} {h : Hp} {m : Nat} {F N : Nat → Int32} (hM : MdS h m) (hL9 : MdL h m) {p : Nat} (q0 : ∀ v, Q (some (.int v)) (st h m (PF F p 1) N)) : CX9_passQuantity l [.ref m] (st h m (PF F p 1) N) Q X := by
  refine eX9_passQuantity hst (Nat.le_of_ble_eq_true rfl) (fun K hK => ?_)
  repeat (first | (refine And.intro hM.1 (And.intro hM.2.1 ?_); rw [g_st hM]) | (refine And.intro hM.1 ?_; rw [fp_st hM]) | (refine And.intro hM.1 ?_; rw [fg_st hM]) | refine And.intro (by first | exact hM.1 | assumption | rfl | exact Nat.le_of_ble_eq_true rfl | exact Nat.zero_le _ | decide) ?_)
  refine c_pass1 hst hM hL9 ?_
  refine hK _ _ _ _ ?_
  refine And.intro (fun hc => ?_) (fun hc => ?_)
  · exact absurd (show (2 : Int32) ≤ 0 from hc) (by decide)
  repeat (first | (refine And.intro hM.1 (And.intro hM.2.1 ?_); rw [g_st hM]) | (refine And.intro hM.1 ?_; rw [fp_st hM]) | (refine And.intro hM.1 ?_; rw [fg_st hM]) | refine And.intro (by first | exact hM.1 | assumption | rfl | exact Nat.le_of_ble_eq_true rfl | exact Nat.zero_le _ | decide) ?_)
  refine c_sees1 hst hM hL9 ?_
  refine And.intro (fun _ => ?_) (fun z => absurd rfl z)
  repeat (refine And.intro (by first | assumption | rfl | exact Nat.le_of_ble_eq_true rfl | exact Nat.zero_le _ | decide) ?_)
  exact q0 _
theorem pq_ok {tx : Nat → Int32} {n p b p' : Nat} (h : pq tx n p = some (b, p')) : 1 ≤ b ∧ b ≤ 999 := by
  unfold pq at h
  split at h
  · rename_i z1
    have d1 := dg_pos z1
    have b1 := (dg_le z1 (by decide) (by decide)).2
    split at h
    · rename_i z2
      have b2 := (dg_le z2 (by decide) (by decide)).2
      split at h
      · rename_i z3
        have b3 := (dg_le z3 (by decide) (by decide)).2
        cases h
        omega
      · cases h
        omega
    · cases h
      omega
  · cases h
theorem c_passEntry {l : Launch} (hst : l.stackTraces = false) {Q : Option Value → Hp → Prop} {X : String → Hp → Prop} {h : Hp} {m : Nat} {F N : Nat → Int32} (hM : MdS h m) (hL9 : MdL h m) {n p : Nat} (e16 : F 16 = nI n) (n60 : n ≤ 60) (pn : p ≤ n) {d : Int32} {c0 c1 c2 c3 c4 : Nat} {B : Int} (g : GI N c0 c1 c2 c3 c4 B) (hday : ∀ p, p < c0 → 0 ≤ N 5 + N (7 + p * 23 + 5)) (q0 : ∀ j, pe (hI h (m + 22)) n p = .inr j → Q (some (.int 1)) (st h m (PF F j 1) N)) (q1 : ∀ e p', pe (hI h (m + 22)) n p = .inl (e, p') → d = 0 → Q (some (.int 1)) (st h m (PF F p' 0) N)) (q2 : ∀ e p' h' N', pe (hI h (m + 22)) n p = .inl (e, p') → d ≠ 0 → en N e = some N' → Mf m h h' → hI h' (m + 3) = hI h (m + 3) → Q (some (.int 1)) (st h' m (PF F p' 0) N')) (q3 : ∀ e p' h' F' N', pe (hI h (m + 22)) n p = .inl (e, p') → d ≠ 0 → en N e = none → Mf m h h' → hI h' (m + 3) = hI h (m + 3) → EF N e (PF F p' 0) F' → Q (some (.int 0)) (st h' m F' N')) : CX9_passEntry l [.ref m, .int d] (st h m (PF F p 0) N) Q X := by
  refine eX9_passEntry hst (Nat.le_of_ble_eq_true rfl) (fun K => ?_)
  generalize htx : hI h (m + 22) = tx at q0 q1 q2 q3
  have t1 : ∀ (q : Nat) (x y k : Int32), Q (some (.int 1)) (st h m (PF F q 1) N) → fX9_passEntry_133 l Q X K [(3, .int x), (4, .int y), (2, .int k), (0, .ref m), (1, .int d)] [] (st h m (PF F q 1) N) (0, 0) ∧ fX9_passEntry_133 l Q X K [(4, .int y), (3, .int x), (2, .int k), (0, .ref m), (1, .int d)] [] (st h m (PF F q 1) N) (0, 0) := by
    intro q x y k fin
    constructor
    all_goals
      repeat (first | (refine And.intro hM.1 (And.intro hM.2.1 ?_); rw [g_st hM]) | (refine And.intro hM.1 ?_; rw [fp_st hM]) | (refine And.intro hM.1 ?_; rw [fg_st hM]) | refine And.intro (by first | exact hM.1 | assumption | rfl | exact Nat.le_of_ble_eq_true rfl | exact Nat.zero_le _ | decide) ?_)
      refine c_pass1 hst hM hL9 ?_
      repeat (first | (refine And.intro hM.1 (And.intro hM.2.1 ?_); rw [g_st hM]) | (refine And.intro hM.1 ?_; rw [fp_st hM]) | (refine And.intro hM.1 ?_; rw [fg_st hM]) | refine And.intro (by first | exact hM.1 | assumption | rfl | exact Nat.le_of_ble_eq_true rfl | exact Nat.zero_le _ | decide) ?_)
      rw [PF_20]
      refine And.intro (fun _ => ?_) (fun z => absurd z (by decide))
      repeat (refine And.intro (by first | assumption | rfl | exact Nat.le_of_ble_eq_true rfl | exact Nat.zero_le _ | decide) ?_)
      exact fin
  have t0 : ∀ (q : Nat) (e : Ent), q ≤ n → pe tx n p = pend tx n q e → EnOk e → fX9_passEntry_133 l Q X K [(3, .int (nI e.a)), (4, .int (nI e.b)), (2, .int e.k), (0, .ref m), (1, .int d)] [] (st h m (PF F q 0) N) (0, 0) ∧ fX9_passEntry_133 l Q X K [(4, .int (nI e.b)), (3, .int (nI e.a)), (2, .int e.k), (0, .ref m), (1, .int d)] [] (st h m (PF F q 0) N) (0, 0) := by
    intro q e qn hpe he
    constructor
    all_goals
      repeat (first | (refine And.intro hM.1 (And.intro hM.2.1 ?_); rw [g_st hM]) | (refine And.intro hM.1 ?_; rw [fp_st hM]) | (refine And.intro hM.1 ?_; rw [fg_st hM]) | refine And.intro (by first | exact hM.1 | assumption | rfl | exact Nat.le_of_ble_eq_true rfl | exact Nat.zero_le _ | decide) ?_)
      refine c_pass hst hM hL9 e16 n60 qn (by decide) (fun hc hq => ?_) (fun hc => ?_)
      · rw [htx] at hc
        have hp : pe tx n p = .inl (e, q + 1) := by rw [hpe]; unfold pend; rw [if_pos (isC59.mp hc)]
        repeat (first | (refine And.intro hM.1 (And.intro hM.2.1 ?_); rw [g_st hM]) | (refine And.intro hM.1 ?_; rw [fp_st hM]) | (refine And.intro hM.1 ?_; rw [fg_st hM]) | refine And.intro (by first | exact hM.1 | assumption | rfl | exact Nat.le_of_ble_eq_true rfl | exact Nat.zero_le _ | decide) ?_)
        rw [PF_20]
        refine And.intro (fun z => absurd rfl z) (fun _ => ?_)
        refine And.intro (fun hd => ?_) (fun hd => ?_)
        · repeat (refine And.intro (by first | assumption | rfl | exact Nat.le_of_ble_eq_true rfl | exact Nat.zero_le _ | decide) ?_)
          exact q1 e (q + 1) hp hd
        · repeat (first | (refine And.intro hM.1 (And.intro hM.2.1 ?_); rw [g_st hM]) | (refine And.intro hM.1 ?_; rw [fp_st hM]) | (refine And.intro hM.1 ?_; rw [fg_st hM]) | refine And.intro (by first | exact hM.1 | assumption | rfl | exact Nat.le_of_ble_eq_true rfl | exact Nat.zero_le _ | decide) ?_)
          refine c_carryOut hst hM hL9 (F := PF F (q + 1) 0) g he hday (fun h' N' en9 f e3 => ?_) (fun h' F' N' en9 f e3 ef => ?_)
          · refine And.intro (fun z => absurd z (by decide)) (fun _ => ?_)
            repeat (refine And.intro (by first | assumption | rfl | exact Nat.le_of_ble_eq_true rfl | exact Nat.zero_le _ | decide) ?_)
            exact q2 e (q + 1) h' N' hp hd en9 f e3
          · refine And.intro (fun _ => ?_) (fun z => absurd rfl z)
            repeat (refine And.intro (by first | assumption | rfl | exact Nat.le_of_ble_eq_true rfl | exact Nat.zero_le _ | decide) ?_)
            exact q3 e (q + 1) h' F' N' hp hd en9 f e3 ef
      · rw [htx] at hc
        have hp : pe tx n p = .inr q := by rw [hpe]; unfold pend; rw [if_neg (fun z => hc (isC59.mpr z))]
        repeat (first | (refine And.intro hM.1 (And.intro hM.2.1 ?_); rw [g_st hM]) | (refine And.intro hM.1 ?_; rw [fp_st hM]) | (refine And.intro hM.1 ?_; rw [fg_st hM]) | refine And.intro (by first | exact hM.1 | assumption | rfl | exact Nat.le_of_ble_eq_true rfl | exact Nat.zero_le _ | decide) ?_)
        rw [PF_20]
        refine And.intro (fun _ => ?_) (fun z => absurd z (by decide))
        repeat (refine And.intro (by first | assumption | rfl | exact Nat.le_of_ble_eq_true rfl | exact Nat.zero_le _ | decide) ?_)
        exact q0 q hp
  have c25 : ∀ c : Int32, (p < n → c = tx p) → (¬ p < n → c = 32) → fX9_passEntry_25 l Q X K (lv_args 0 [.ref m, .int d]) [.int c] (st h m (PF F p 0) N) (0, 0) := by
    intro c hc1 hc2
    have inn : c ≠ 32 → p < n := fun z => Classical.byContradiction fun y => z (hc2 y)
    have et : p < n → tat tx n p = c := fun z => (if_pos z).trans (hc1 z).symm
    refine And.intro (fun h107 => ?_) (fun h107 => ?_)
    · subst h107
      have pl := inn (by decide)
      have ep : pe tx n p = if isC 48 51 (tat tx n (p + 1)) then pend tx n (p + 2) (107, dg (tat tx n (p + 1)), 0) else .inr (p + 1) := by
        unfold pe
        rw [if_pos (et pl)]
      repeat (first | (refine And.intro hM.1 (And.intro hM.2.1 ?_); rw [g_st hM]) | (refine And.intro hM.1 ?_; rw [fp_st hM]) | (refine And.intro hM.1 ?_; rw [fg_st hM]) | refine And.intro (by first | exact hM.1 | assumption | rfl | exact Nat.le_of_ble_eq_true rfl | exact Nat.zero_le _ | decide) ?_)
      rw [PF_17, nI_1, PF_u17]
      refine And.intro (fun z => absurd rfl z) (fun _ => ?_)
      repeat (first | (refine And.intro hM.1 (And.intro hM.2.1 ?_); rw [g_st hM]) | (refine And.intro hM.1 ?_; rw [fp_st hM]) | (refine And.intro hM.1 ?_; rw [fg_st hM]) | refine And.intro (by first | exact hM.1 | assumption | rfl | exact Nat.le_of_ble_eq_true rfl | exact Nat.zero_le _ | decide) ?_)
      refine c_pass hst hM hL9 e16 n60 (by omega) (by decide) (fun h1 l1 => ?_) (fun h1 => ?_)
      · rw [htx] at h1 ⊢
        rw [if_pos h1] at ep
        have d1 := dg_le h1 (by decide) (by decide)
        rw [d1.1]
        exact (t0 (p + 2) (107, dg (tat tx n (p + 1)), 0) (by omega) ep ⟨Or.inl rfl, d1.2, Nat.zero_le _, fun y => absurd y (show ¬ isL (107 : Int32) by decide)⟩).1
      · rw [htx] at h1
        rw [if_neg h1] at ep
        exact (t1 (p + 1) 0 0 107 (q0 _ ep)).1
    refine And.intro (fun h100 => ?_) (fun h100 => ?_)
    rotate_left
    · subst h100
      have pl := inn (by decide)
      have ep : pe tx n p = if isC 49 57 (tat tx n (p + 1)) then pend tx n (p + 2) (100, dg (tat tx n (p + 1)), 0) else .inr (p + 1) := by
        unfold pe
        rw [if_neg (by rw [et pl]; decide), if_pos (et pl)]
      repeat (first | (refine And.intro hM.1 (And.intro hM.2.1 ?_); rw [g_st hM]) | (refine And.intro hM.1 ?_; rw [fp_st hM]) | (refine And.intro hM.1 ?_; rw [fg_st hM]) | refine And.intro (by first | exact hM.1 | assumption | rfl | exact Nat.le_of_ble_eq_true rfl | exact Nat.zero_le _ | decide) ?_)
      rw [PF_17, nI_1, PF_u17]
      refine And.intro (fun _ => ?_) (fun z => absurd z (by decide))
      repeat (first | (refine And.intro hM.1 (And.intro hM.2.1 ?_); rw [g_st hM]) | (refine And.intro hM.1 ?_; rw [fp_st hM]) | (refine And.intro hM.1 ?_; rw [fg_st hM]) | refine And.intro (by first | exact hM.1 | assumption | rfl | exact Nat.le_of_ble_eq_true rfl | exact Nat.zero_le _ | decide) ?_)
      refine c_pass hst hM hL9 e16 n60 (by omega) (by decide) (fun h1 l1 => ?_) (fun h1 => ?_)
      · rw [htx] at h1 ⊢
        rw [if_pos h1] at ep
        have d1 := dg_le h1 (by decide) (by decide)
        have fin := (t0 (p + 2) (100, dg (tat tx n (p + 1)), 0) (by omega) ep ⟨Or.inr (Or.inl rfl), d1.2, Nat.zero_le _, fun y => absurd y (show ¬ isL (100 : Int32) by decide)⟩).1
        dsimp only [Ent.k, Ent.a, Ent.b] at fin
        rw [← one_dg h1] at fin
        exact fin
      · rw [htx] at h1
        rw [if_neg h1] at ep
        exact (t1 (p + 1) (1 + 0) 0 100 (q0 _ ep)).1
    repeat (refine And.intro (by first | assumption | rfl | exact Nat.le_of_ble_eq_true rfl | exact Nat.zero_le _ | decide) ?_)
    refine c_isLetter hst (fun hl => ?_) (fun hl => ?_)
    rotate_left
    · have ep : pe tx n p = .inr p := by
        unfold pe
        by_cases pl : p < n
        · rw [et pl, if_neg h107, if_neg h100, if_neg hl]
        · have e0 : tat tx n p = 0 := if_neg pl
          rw [e0, if_neg (by decide), if_neg (by decide), if_neg (by decide)]
      refine And.intro (fun _ => ?_) (fun z => absurd rfl z)
      refine And.intro hM.1 ?_
      refine And.intro (Or.inr (by decide)) ?_
      rw [fp_st hM, PF_u20]
      exact (t1 p 0 0 c (q0 _ ep)).2
    have pl := inn (by rcases hl with z | z | z | z <;> (rw [z]; decide))
    have ep : pe tx n p = if isC 48 55 (tat tx n (p + 1)) then (if tat tx n (p + 2) = 42 then pqty tx n (p + 3) c (dg (tat tx n (p + 1))) else .inr (p + 2)) else .inr (p + 1) := by
      unfold pe
      rw [et pl, if_neg h107, if_neg h100, if_pos hl]
    refine And.intro (fun z => absurd z (by decide)) (fun _ => ?_)
    repeat (first | (refine And.intro hM.1 (And.intro hM.2.1 ?_); rw [g_st hM]) | (refine And.intro hM.1 ?_; rw [fp_st hM]) | (refine And.intro hM.1 ?_; rw [fg_st hM]) | refine And.intro (by first | exact hM.1 | assumption | rfl | exact Nat.le_of_ble_eq_true rfl | exact Nat.zero_le _ | decide) ?_)
    rw [PF_17, nI_1, PF_u17]
    repeat (first | (refine And.intro hM.1 (And.intro hM.2.1 ?_); rw [g_st hM]) | (refine And.intro hM.1 ?_; rw [fp_st hM]) | (refine And.intro hM.1 ?_; rw [fg_st hM]) | refine And.intro (by first | exact hM.1 | assumption | rfl | exact Nat.le_of_ble_eq_true rfl | exact Nat.zero_le _ | decide) ?_)
    refine c_pass hst hM hL9 e16 n60 (by omega) (by decide) (fun h1 l1 => ?_) (fun h1 => ?_)
    rotate_left
    · rw [htx] at h1
      rw [if_neg h1] at ep
      repeat (first | (refine And.intro hM.1 (And.intro hM.2.1 ?_); rw [g_st hM]) | (refine And.intro hM.1 ?_; rw [fp_st hM]) | (refine And.intro hM.1 ?_; rw [fg_st hM]) | refine And.intro (by first | exact hM.1 | assumption | rfl | exact Nat.le_of_ble_eq_true rfl | exact Nat.zero_le _ | decide) ?_)
      refine c_pass1 hst hM hL9 ?_
      repeat (first | (refine And.intro hM.1 (And.intro hM.2.1 ?_); rw [g_st hM]) | (refine And.intro hM.1 ?_; rw [fp_st hM]) | (refine And.intro hM.1 ?_; rw [fg_st hM]) | refine And.intro (by first | exact hM.1 | assumption | rfl | exact Nat.le_of_ble_eq_true rfl | exact Nat.zero_le _ | decide) ?_)
      refine c_passQuantity1 hst hM hL9 (fun v => ?_)
      exact (t1 (p + 1) 0 v c (q0 _ ep)).2
    rw [htx] at h1 ⊢
    rw [if_pos h1] at ep
    have d1 := dg_le h1 (by decide) (by decide)
    rw [d1.1]
    repeat (first | (refine And.intro hM.1 (And.intro hM.2.1 ?_); rw [g_st hM]) | (refine And.intro hM.1 ?_; rw [fp_st hM]) | (refine And.intro hM.1 ?_; rw [fg_st hM]) | refine And.intro (by first | exact hM.1 | assumption | rfl | exact Nat.le_of_ble_eq_true rfl | exact Nat.zero_le _ | decide) ?_)
    refine c_pass hst hM hL9 e16 n60 (by omega) (by decide) (fun h2 l2 => ?_) (fun h2 => ?_)
    rotate_left
    · rw [htx] at h2
      rw [if_neg (fun z => h2 (isC42.mpr z))] at ep
      repeat (first | (refine And.intro hM.1 (And.intro hM.2.1 ?_); rw [g_st hM]) | (refine And.intro hM.1 ?_; rw [fp_st hM]) | (refine And.intro hM.1 ?_; rw [fg_st hM]) | refine And.intro (by first | exact hM.1 | assumption | rfl | exact Nat.le_of_ble_eq_true rfl | exact Nat.zero_le _ | decide) ?_)
      refine c_passQuantity1 hst hM hL9 (fun v => ?_)
      exact (t1 (p + 2) _ v c (q0 _ ep)).2
    rw [htx] at h2
    rw [if_pos (isC42.mp h2), pqty_eq] at ep
    repeat (first | (refine And.intro hM.1 (And.intro hM.2.1 ?_); rw [g_st hM]) | (refine And.intro hM.1 ?_; rw [fp_st hM]) | (refine And.intro hM.1 ?_; rw [fg_st hM]) | refine And.intro (by first | exact hM.1 | assumption | rfl | exact Nat.le_of_ble_eq_true rfl | exact Nat.zero_le _ | decide) ?_)
    refine c_passQuantity hst hM hL9 e16 n60 (by omega) (fun b p' hq pn' => ?_) (fun hq v => ?_)
    · rw [htx] at hq
      rw [hq] at ep
      obtain ⟨b1, b9⟩ := pq_ok hq
      exact (t0 p' (c, dg (tat tx n (p + 1)), b) pn' ep ⟨Or.inr (Or.inr ⟨hl, b1⟩), d1.2, b9, fun _ => dg_le7 h1⟩).2
    · rw [htx] at hq
      rw [hq] at ep
      exact (t1 (p + 3) _ v c (q0 _ ep)).2
  repeat (first | (refine And.intro hM.1 (And.intro hM.2.1 ?_); rw [g_st hM]) | (refine And.intro hM.1 ?_; rw [fp_st hM]) | (refine And.intro hM.1 ?_; rw [fg_st hM]) | refine And.intro (by first | exact hM.1 | assumption | rfl | exact Nat.le_of_ble_eq_true rfl | exact Nat.zero_le _ | decide) ?_)
  rw [PF_17, PF_o (k := 16) (by decide) (by decide), e16]
  refine And.intro (fun hc => ?_) (fun hc => ?_)
  · exact c25 32 (fun z => absurd (show nI n ≤ nI p from hc) (nI_ge z (by omega))) (fun _ => rfl)
  · have pl : p < n := Classical.byContradiction fun y => hc (show nI n ≤ nI p from nI_le (by omega) (by omega))
    refine And.intro hM.1 ?_
    refine And.intro (g15n hL9) ?_
    rw [g15 hL9]
    repeat (first | (refine And.intro hM.1 (And.intro hM.2.1 ?_); rw [g_st hM]) | (refine And.intro hM.1 ?_; rw [fp_st hM]) | (refine And.intro hM.1 ?_; rw [fg_st hM]) | refine And.intro (by first | exact hM.1 | assumption | rfl | exact Nat.le_of_ble_eq_true rfl | exact Nat.zero_le _ | decide) ?_)
    rw [PF_17]
    refine ca_of (H := st h m (PF F p 0) N) hL9.2.2.2.2.2.2.2.2.2.2 rfl (show p < 60 by omega) (by decide) ((st_o_at (by omega) (by omega)).trans (congrFun htx p)) ?_
    exact c25 (tx p) (fun _ => rfl) (fun z => absurd pl z)
end R7

section R8
theorem pe_le {tx : Nat → Int32} {n p p' : Nat} {e : Ent} (h : pe tx n p = .inl (e, p')) : p < n ∧ p + 3 ≤ p' ∧ p' ≤ n := by
  have pl : p < n := by
    refine Classical.byContradiction fun z => ?_
    have e0 : tat tx n p = 0 := if_neg z
    unfold pe at h
    rw [e0, if_neg (by decide), if_neg (by decide), if_neg (by decide)] at h
    cases h
  have k := au_pe (tx := tx) (E := (0, fun _ => 0, fun _ => 0, fun _ => 0)) pl (by decide)
  rw [h] at k
  exact ⟨pl, k.1, k.2.1⟩
theorem c_goOver0 {l : Launch} (hst : l.stackTraces = false) {Q : Option Value → Hp → Prop} {X : String → Hp → Prop} {h : Hp} {m : Nat} {F N : Nat → Int32} (hM : MdS h m) (hL9 : MdL h m) {n : Nat} (e16 : F 16 = nI n) (n60 : n ≤ 60) {c0 c1 c2 c3 c4 : Nat} {B : Int} (g : GI N c0 c1 c2 c3 c4 B) (hday : ∀ p, p < c0 → 0 ≤ N 5 + N (7 + p * 23 + 5)) (q0 : ∀ j v, rd (hI h (m + 22)) n = .inr j → Q (some (.int v)) (st h m (PF F j 1) N)) (q1 : ∀ es, rd (hI h (m + 22)) n = .inl es → Q (some (.int (nI es.length))) (st h m (PF F n 0) N)) : CX9_goOver l [.ref m, .int 0] (st h m F N) Q X := by
  refine eX9_goOver hst (Nat.le_of_ble_eq_true rfl) (fun K hK => ?_)
  have stop : ∀ (k : Nat) (F' : Nat → Int32), Q (some (.int (nI k))) (st h m F' N) → K 14 [(3, .int 0), (2, .int (nI k)), (0, .ref m), (1, .int 0)] [] (st h m F' N) (0, 0) := by
    intro k F' fin
    refine hK _ _ _ _ ?_
    refine And.intro (fun _ => ?_) (fun z => absurd rfl z)
    repeat (refine And.intro (by first | assumption | rfl | exact Nat.le_of_ble_eq_true rfl | exact Nat.zero_le _ | decide) ?_)
    exact fin
  have loop : ∀ (f p k : Nat), n - p < f → p ≤ n → (∀ j v, pg (hI h (m + 22)) n f p = .inr j → Q (some (.int v)) (st h m (PF F j 1) N)) → (∀ es, pg (hI h (m + 22)) n f p = .inl es → Q (some (.int (nI (k + es.length)))) (st h m (PF F n 0) N)) → K 14 [(3, .int 1), (2, .int (nI k)), (0, .ref m), (1, .int 0)] [] (st h m (PF F p 0) N) (0, 0) := by
    intro f
    induction f with
    | zero => intro p k hf; exact absurd hf (Nat.not_lt_zero _)
    | succ f ih =>
      intro p k hf pn a0 a1
      have eq : pg (hI h (m + 22)) n (f + 1) p = match pe (hI h (m + 22)) n p with | .inr j => .inr j | .inl (e, p') => if p' < n then (match pg (hI h (m + 22)) n f p' with | .inl es => .inl (e :: es) | .inr j => .inr j) else .inl [e] := rfl
      refine hK _ _ _ _ ?_
      refine And.intro (fun z => absurd z (by decide)) (fun _ => ?_)
      repeat (first | (refine And.intro hM.1 (And.intro hM.2.1 ?_); rw [g_st hM]) | (refine And.intro hM.1 ?_; rw [fp_st hM]) | (refine And.intro hM.1 ?_; rw [fg_st hM]) | refine And.intro (by first | exact hM.1 | assumption | rfl | exact Nat.le_of_ble_eq_true rfl | exact Nat.zero_le _ | decide) ?_)
      refine c_passEntry hst hM hL9 e16 n60 pn g hday (fun j hp => ?_) (fun e p' hp _ => ?_) (fun e p' h' N' hp hd => absurd rfl hd) (fun e p' h' F' N' hp hd => absurd rfl hd)
      · rw [hp] at eq
        refine And.intro (fun _ => ?_) (fun z => absurd z (by decide))
        repeat (first | (refine And.intro hM.1 (And.intro hM.2.1 ?_); rw [g_st hM]) | (refine And.intro hM.1 ?_; rw [fp_st hM]) | (refine And.intro hM.1 ?_; rw [fg_st hM]) | refine And.intro (by first | exact hM.1 | assumption | rfl | exact Nat.le_of_ble_eq_true rfl | exact Nat.zero_le _ | decide) ?_)
        rw [PF_20]
        refine And.intro (fun _ => ?_) (fun z => absurd z (by decide))
        have := stop (k + 1) (PF F j 1) (a0 j _ eq)
        rw [← nI_1 k] at this
        exact this
      · obtain ⟨pl, p3, pn'⟩ := pe_le hp
        rw [hp] at eq
        dsimp only at eq
        refine And.intro (fun _ => ?_) (fun z => absurd z (by decide))
        repeat (first | (refine And.intro hM.1 (And.intro hM.2.1 ?_); rw [g_st hM]) | (refine And.intro hM.1 ?_; rw [fp_st hM]) | (refine And.intro hM.1 ?_; rw [fg_st hM]) | refine And.intro (by first | exact hM.1 | assumption | rfl | exact Nat.le_of_ble_eq_true rfl | exact Nat.zero_le _ | decide) ?_)
        rw [PF_20]
        refine And.intro (fun z => absurd rfl z) (fun _ => ?_)
        repeat (first | (refine And.intro hM.1 (And.intro hM.2.1 ?_); rw [g_st hM]) | (refine And.intro hM.1 ?_; rw [fp_st hM]) | (refine And.intro hM.1 ?_; rw [fg_st hM]) | refine And.intro (by first | exact hM.1 | assumption | rfl | exact Nat.le_of_ble_eq_true rfl | exact Nat.zero_le _ | decide) ?_)
        rw [PF_17, PF_o (k := 16) (by decide) (by decide), e16]
        by_cases hl : p' < n
        · rw [if_pos hl] at eq
          refine And.intro (fun z => absurd (show nI n ≤ nI p' from z) (nI_ge hl (by omega))) (fun _ => ?_)
          have nx := ih p' (k + 1) (by omega) pn' (fun j v hr => a0 j v (by rw [eq, hr])) (fun es hr => by
            have := a1 (e :: es) (by rw [eq, hr])
            rw [List.length_cons, show k + (es.length + 1) = k + 1 + es.length by omega] at this
            exact this)
          rw [← nI_1 k] at nx
          exact nx
        · rw [if_neg hl] at eq
          have : p' = n := by omega
          subst this
          refine And.intro (fun _ => ?_) (fun z => absurd (Int32.le_refl _) z)
          have := stop (k + 1) (PF F p' 0) (a1 [e] eq)
          rw [← nI_1 k] at this
          exact this
  refine And.intro hM.1 ?_
  rw [fp_st hM]
  refine And.intro hM.1 ?_
  refine And.intro (Or.inl rfl) ?_
  rw [fp_st hM]
  exact loop 61 0 0 (by omega) (Nat.zero_le _) q0 (fun es hr => by rw [Nat.zero_add]; exact q1 es hr)
end R8

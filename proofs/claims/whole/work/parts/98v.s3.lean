section S3
theorem c_goOver1 {l : Launch} (hst : l.stackTraces = false) {Q : Option Value → Hp → Prop} {X : String → Hp → Prop} {h : Hp} {m : Nat} {F N : Nat → Int32} (hM : MdS h m) (hL9 : MdL h m) {n : Nat} (e16 : F 16 = nI n) (n60 : n ≤ 60) {c0 c1 c2 c3 c4 : Nat} {B D : Int} (g : GI N c0 c1 c2 c3 c4 B) (dd : DI N c0 D) (hB : B + 19980 ≤ 16000000) (hD : D + 180 ≤ 1000000) {es : List Ent} (hes : rd (hI h (m + 22)) n = .inl es) (q1 : ∀ M h', run es N = .inl M → Mf m h h' → hI h' (m + 3) = hI h (m + 3) → Q (some (.int (nI es.length))) (st h' m (PF F n 0) M)) (q0 : ∀ i Mi ei p' h' F' N', run es N = .inr (i, Mi, ei) → Mf m h h' → hI h' (m + 3) = hI h (m + 3) → EF Mi ei (PF F p' 0) F' → Q (some (.int (-1 - nI i))) (st h' m F' N')) : CX9_goOver l [.ref m, .int 1] (st h m F N) Q X := by
  refine eX9_goOver hst (Nat.le_of_ble_eq_true rfl) (fun K hK => ?_)
  have stop : ∀ (k : Nat) (F' M : Nat → Int32) (h1 : Hp), Q (some (.int (nI k))) (st h1 m F' M) → K 14 [(3, .int 0), (2, .int (nI k)), (0, .ref m), (1, .int 1)] [] (st h1 m F' M) (0, 0) := by
    intro k F' M h1 fin
    refine hK _ _ _ _ ?_
    refine And.intro (fun _ => ?_) (fun z => absurd rfl z)
    repeat (refine And.intro (by first | assumption | rfl | exact Nat.le_of_ble_eq_true rfl | exact Nat.zero_le _ | decide) ?_)
    exact fin
  have loop : ∀ (f p k : Nat) (h1 : Hp) (N1 : Nat → Int32) (b2 b3 b4 : Nat), n - p < f → p ≤ n → 3 * k ≤ p → Mf m h h1 → hI h1 (m + 3) = hI h (m + 3) → GI N1 c0 c1 b2 b3 b4 (B + 999 * k) → DI N1 c0 (D + 9 * k) → (∀ j, pg (hI h (m + 22)) n f p ≠ .inr j) → (∀ es M h', pg (hI h (m + 22)) n f p = .inl es → run es N1 = .inl M → Mf m h h' → hI h' (m + 3) = hI h (m + 3) → Q (some (.int (nI (k + es.length)))) (st h' m (PF F n 0) M)) → (∀ es i Mi ei p' h' F' N', pg (hI h (m + 22)) n f p = .inl es → run es N1 = .inr (i, Mi, ei) → Mf m h h' → hI h' (m + 3) = hI h (m + 3) → EF Mi ei (PF F p' 0) F' → Q (some (.int (-1 - nI (k + i)))) (st h' m F' N')) → K 14 [(3, .int 1), (2, .int (nI k)), (0, .ref m), (1, .int 1)] [] (st h1 m (PF F p 0) N1) (0, 0) := by
    intro f
    induction f with
    | zero => intro p k h1 N1 b2 b3 b4 hf; exact absurd hf (Nat.not_lt_zero _)
    | succ f ih =>
      intro p k h1 N1 b2 b3 b4 hf pn hk f1 e3 g1 d1 ar a1 a0
      have eq : pg (hI h (m + 22)) n (f + 1) p = match pe (hI h (m + 22)) n p with | .inr j => .inr j | .inl (e, p') => if p' < n then (match pg (hI h (m + 22)) n f p' with | .inl es => .inl (e :: es) | .inr j => .inr j) else .inl [e] := rfl
      have tx1 : hI h1 (m + 22) = hI h (m + 22) := f1.2.2.2.2 _ (by omega) (by omega)
      have hM1 := hM.mf f1
      have hL1 := hL9.mf f1
      refine hK _ _ _ _ ?_
      refine And.intro (fun z => absurd z (by decide)) (fun _ => ?_)
      (repeat (refine And.intro (by first | assumption | rfl | exact Nat.le_of_ble_eq_true rfl | exact Nat.zero_le _ | decide) ?_)); refine And.intro (hM1.1) ?_; (repeat (refine And.intro (by first | assumption | rfl | exact Nat.le_of_ble_eq_true rfl | exact Nat.zero_le _ | decide) ?_))
      refine c_passEntry hst hM1 hL1 e16 n60 pn g1 (fun p hp => d1.sum hp) (fun j hp => ?_) (fun e p' hp hd => absurd hd (by decide)) (fun e p' h' N' hp _ en9 f2 e32 => ?_) (fun e p' h' F' N' hp _ en9 f2 e32 ef => ?_)
      · rw [tx1] at hp
        rw [hp] at eq
        exact absurd eq (ar j)
      · rw [tx1] at hp
        obtain ⟨pl, p3, pn'⟩ := pe_le hp
        have he := pe_en hp
        rw [hp] at eq
        dsimp only at eq
        have f3 := f1.trans f2
        have e33 := e32.trans e3
        obtain ⟨⟨x2, x3, x4, g2⟩, d2⟩ := en_ok g1 d1 he en9 (by omega) (by omega)
        have hM := hM1.mf f2
        refine And.intro (fun _ => ?_) (fun z => absurd z (by decide))
        repeat (first | (refine And.intro hM.1 (And.intro hM.2.1 ?_); rw [g_st hM]) | (refine And.intro hM.1 ?_; rw [fp_st hM]) | (refine And.intro hM.1 ?_; rw [fg_st hM]) | refine And.intro (by first | exact hM.1 | assumption | rfl | exact Nat.le_of_ble_eq_true rfl | exact Nat.zero_le _ | decide) ?_)
        rw [PF_20]
        refine And.intro (fun z => absurd rfl z) (fun _ => ?_)
        repeat (first | (refine And.intro hM.1 (And.intro hM.2.1 ?_); rw [g_st hM]) | (refine And.intro hM.1 ?_; rw [fp_st hM]) | (refine And.intro hM.1 ?_; rw [fg_st hM]) | refine And.intro (by first | exact hM.1 | assumption | rfl | exact Nat.le_of_ble_eq_true rfl | exact Nat.zero_le _ | decide) ?_)
        rw [PF_17, PF_o (k := 16) (by decide) (by decide), e16]
        by_cases hl : p' < n
        · rw [if_pos hl] at eq
          refine And.intro (fun z => absurd (show nI n ≤ nI p' from z) (nI_ge hl (by omega))) (fun _ => ?_)
          have nx := ih p' (k + 1) h' N' x2 x3 x4 (by omega) pn' (by omega) f3 e33 (by rw [show B + 999 * ((k + 1 : Nat) : Int) = B + 999 * (k : Int) + 999 by omega]; exact g2) (by rw [show D + 9 * ((k + 1 : Nat) : Int) = D + 9 * (k : Int) + 9 by omega]; exact d2) (fun j hr => ar j (by rw [eq, hr])) (fun es M h9 hr hrun f9 e9 => by
            have := a1 (e :: es) M h9 (by rw [eq, hr]) (by rw [run_cons, en9]; dsimp only; rw [hrun]) f9 e9
            rw [List.length_cons, show k + (es.length + 1) = k + 1 + es.length by omega] at this
            exact this) (fun es i Mi ei p9 h9 F9 N9 hr hrun f9 e9 ef => by
            have := a0 (e :: es) (i + 1) Mi ei p9 h9 F9 N9 (by rw [eq, hr]) (by rw [run_cons, en9]; dsimp only; rw [hrun]) f9 e9 ef
            rw [show k + (i + 1) = k + 1 + i by omega] at this
            exact this)
          rw [← nI_1 k] at nx
          exact nx
        · rw [if_neg hl] at eq
          have : p' = n := by omega
          subst this
          refine And.intro (fun _ => ?_) (fun z => absurd (Int32.le_refl _) z)
          have := stop (k + 1) (PF F p' 0) N' h' (a1 [e] N' h' eq (by rw [run_cons, en9]; rfl) f3 e33)
          rw [← nI_1 k] at this
          exact this
      · rw [tx1] at hp
        rw [hp] at eq
        dsimp only at eq
        have f3 := f1.trans f2
        have e33 := e32.trans e3
        refine And.intro (fun z => absurd rfl z) (fun _ => ?_)
        repeat (refine And.intro (by first | assumption | rfl | exact Nat.le_of_ble_eq_true rfl | exact Nat.zero_le _ | decide) ?_)
        have fin : ∀ es, pg (hI h (m + 22)) n (f + 1) p = .inl (e :: es) → Q (some (.int (-1 - nI k))) (st h' m F' N') := fun es hr => a0 (e :: es) 0 N1 e p' h' F' N' hr (by rw [run_cons, en9]) f3 e33 ef
        by_cases hl : p' < n
        · rw [if_pos hl] at eq
          cases hr : pg (hI h (m + 22)) n f p' with
          | inl es => exact fin es (by rw [eq, hr])
          | inr j => exact absurd (by rw [eq, hr]) (ar j)
        · rw [if_neg hl] at eq
          exact fin [] eq
  refine And.intro hM.1 ?_
  rw [fp_st hM]
  refine And.intro hM.1 ?_
  refine And.intro (Or.inl rfl) ?_
  rw [fp_st hM]
  refine loop 61 0 0 h N c2 c3 c4 (by omega) (Nat.zero_le _) (by omega) Mf.rf rfl (by rw [show B + 999 * ((0 : Nat) : Int) = B by omega]; exact g) (by rw [show D + 9 * ((0 : Nat) : Int) = D by omega]; exact dd) (fun j hr => ?_) (fun es' M h' hr hrun f9 e9 => ?_) (fun es' i Mi ei p' h' F' N' hr hrun f9 e9 ef => ?_)
  · have := hes.symm.trans hr
    cases this
  · have : es = es' := Sum.inl.inj (hes.symm.trans hr)
    subst this
    rw [Nat.zero_add]
    exact q1 M h' hrun f9 e9
  · have : es = es' := Sum.inl.inj (hes.symm.trans hr)
    subst this
    rw [Nat.zero_add]
    exact q0 i Mi ei p' h' F' N' hrun f9 e9 ef
end S3

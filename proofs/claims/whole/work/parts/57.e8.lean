section E8
theorem loc_congr {w : Nat} {ρ ρ' : Nat → Nat} (e : ∀ k, k < 36 → ρ' k = ρ k) {j : Nat} (hj : j < 359) : loc w ρ' j = loc w ρ j := by
  by_cases h1 : j < 227
  · exact loc_lo h1
  · by_cases h2 : j < 287
    · rw [loc_r1 (by omega) h2, loc_r1 (by omega) h2, e _ (by omega)]
    · rw [loc_r2 (by omega), loc_r2 (by omega), e _ (by omega)]
theorem Wv.nns {E : List (Nat × Int32)} {h0 H : Hp} {w : Nat} {σ ρ : Nat → Nat} {N : Nat → Int32} {c0 c1 c2 c3 c4 : Nat} (W : Wv E h0 H w σ ρ N c0 c1 c2 c3 c4) (nn : ∀ k, k < 36 → σ k = ρ k) : Wv E h0 H w σ σ N c0 c1 c2 c3 c4 := ⟨W.1, W.k.rho W.k.s_sig (fun j hj hv => ⟨j, hj, hv, loc_congr nn hj, rfl⟩), W.2.2⟩
theorem d_copyBatchRep {l : Launch} (hst : l.stackTraces = false) {Q : Option Value → Hp → Prop} {X : String → Hp → Prop} {h0 H : Hp} {w : Nat} {σ : Nat → Nat} {N : Nat → Int32} {V : Nat → Prop} (W : Wk h0 H w σ σ N V) {w2 : Nat} {σ2 : Nat → Nat} {Vs : Nat → Prop} (S : Rep h0 w2 σ2 σ2 N Vs) (hd : w2 + 80 ≤ w ∨ w + 80 ≤ w2) {c : Nat} (hc : N 3 = nI c) (c12 : c ≤ 12) (hs0 : Vs 3) (hvs : ∀ i f, i < c → f < 3 → Vs (287 + i * 3 + f))
    (q : ∀ H', Wk h0 H' w σ σ N (fun j => V j ∨ j = 3 ∨ (287 ≤ j ∧ j < 287 + c * 3)) → Q none H') : CX1_copyFrom l [.ref (w + 4), .ref (w2 + 4)] H Q X := by
  have src : ∀ {H' : Hp}, Fr w h0 H' → Wk H' H' w2 σ2 σ2 N Vs := fun F => S.fr F hd
  refine eX1_copyFrom hst (Nat.le_of_ble_eq_true rfl) (fun K hK => ?_)
  have hk : ∀ (n i : Nat) (H' : Hp), i + n = c → Wk h0 H' w σ σ N (fun j => V j ∨ j = 3 ∨ (287 ≤ j ∧ j < 287 + i * 3)) → ∀ L, (L = [(2, .int (nI i)), (0, .ref (w + 4)), (1, .ref (w2 + 4))] ∨ ∃ a, L = [(2, .int (nI i)), (3, a), (0, .ref (w + 4)), (1, .ref (w2 + 4))]) → K 10 L [] H' (0, 0) := by
    intro n
    induction n with
    | zero =>
      intro i H' hi W' L hL
      rcases hL with hL | ⟨a, hL⟩ <;> subst hL
      all_goals
        refine hK _ _ _ _ ?_
        refine iRSk W' (Or.inr (Or.inl rfl)) ?_
        rw [hc]
        refine And.intro (fun hcc => ?_) (fun hcc => ?_)
        · repeat (refine And.intro (by first | assumption | rfl | exact Nat.le_of_ble_eq_true rfl | exact Nat.zero_le _ | decide) ?_)
          rw [show i = c by omega] at W'
          exact q H' W'
        · exact absurd (nI_le (by omega) (by omega)) hcc
    | succ n ih =>
      intro i H' hi W' L hL
      have i12 : i < 12 := by omega
      rcases hL with hL | ⟨a, hL⟩ <;> subst hL
      all_goals
        refine hK _ _ _ _ ?_
        refine iRSk W' (Or.inr (Or.inl rfl)) ?_
        rw [hc]
        refine And.intro (fun hcc => ?_) (fun hcc => ?_)
        · exact absurd hcc (nI_ge (by omega) (by omega))
        · refine gBR (src W'.1) ?_
          refine aRep (src W'.1) rfl i12 ?_
          refine gBR W' ?_
          refine aRep W' rfl i12 ?_
          refine gI_of ((src W'.1).k_rp i12) ((src W'.1).ld (j := 287 + i * 3 + 0) (by omega) (loc_rep w2 σ2 i 0 (by decide)) (hvs i 0 (by omega) (by decide))) ?_
          refine gI_of ((src W'.1).k_rp i12) ((src W'.1).ld (j := 287 + i * 3 + 1) (by omega) (loc_rep w2 σ2 i 1 (by decide)) (hvs i 1 (by omega) (by decide))) ?_
          refine gI_of ((src W'.1).k_rp i12) ((src W'.1).ld (j := 287 + i * 3 + 2) (by omega) (loc_rep w2 σ2 i 2 (by decide)) (hvs i 2 (by omega) (by decide))) ?_
          (repeat (refine And.intro (by first | assumption | rfl | exact Nat.le_of_ble_eq_true rfl | exact Nat.zero_le _ | decide) ?_)); refine And.intro (W'.k_rp i12) ?_; (repeat (refine And.intro (by first | assumption | rfl | exact Nat.le_of_ble_eq_true rfl | exact Nat.zero_le _ | decide) ?_))
          refine d_becomeRep hst W' i12 (fun H1 W1 => ?_)
          rw [upd_self, upd_self, upd_self] at W1
          have := ih (i + 1) H1 (by omega) (W1.mono (fun j _ hv => by
            rcases hv with h | h | h
            · exact Or.inl (Or.inl (Or.inl (Or.inl h)))
            · exact Or.inl (Or.inl (Or.inl (Or.inr (Or.inl h))))
            · by_cases y : j < 287 + i * 3
              · exact Or.inl (Or.inl (Or.inl (Or.inr (Or.inr ⟨h.1, y⟩))))
              · omega)) _ (Or.inr ⟨.ref (σ2 (12 + i)), rfl⟩)
          rw [← nI_1 i] at this
          exact this
  refine iRSk (src W.1) hs0 ?_
  refine yRS W rfl (fun H1 W1 => ?_)
  exact hk c 0 H1 (by omega) (W1.mono (fun j _ hv => by
    rcases hv with h | h | h
    · exact Or.inl h
    · exact Or.inr h
    · omega)) _ (Or.inl rfl)
theorem d_copyBatchOrd {l : Launch} (hst : l.stackTraces = false) {Q : Option Value → Hp → Prop} {X : String → Hp → Prop} {h0 H : Hp} {w : Nat} {σ : Nat → Nat} {N : Nat → Int32} {V : Nat → Prop} (W : Wk h0 H w σ σ N V) {w2 : Nat} {σ2 : Nat → Nat} {Vs : Nat → Prop} (S : Rep h0 w2 σ2 σ2 N Vs) (hd : w2 + 80 ≤ w ∨ w + 80 ≤ w2) {c : Nat} (hc : N 4 = nI c) (c12 : c ≤ 12) (hs0 : Vs 4) (hvs : ∀ i f, i < c → f < 3 → Vs (323 + i * 3 + f))
    (q : ∀ H', Wk h0 H' w σ σ N (fun j => V j ∨ j = 4 ∨ (323 ≤ j ∧ j < 323 + c * 3)) → Q none H') : CX1_copyFrom l [.ref (w + 18), .ref (w2 + 18)] H Q X := by
  have src : ∀ {H' : Hp}, Fr w h0 H' → Wk H' H' w2 σ2 σ2 N Vs := fun F => S.fr F hd
  refine eX1_copyFrom hst (Nat.le_of_ble_eq_true rfl) (fun K hK => ?_)
  have hk : ∀ (n i : Nat) (H' : Hp), i + n = c → Wk h0 H' w σ σ N (fun j => V j ∨ j = 4 ∨ (323 ≤ j ∧ j < 323 + i * 3)) → ∀ L, (L = [(2, .int (nI i)), (0, .ref (w + 18)), (1, .ref (w2 + 18))] ∨ ∃ a, L = [(2, .int (nI i)), (3, a), (0, .ref (w + 18)), (1, .ref (w2 + 18))]) → K 10 L [] H' (0, 0) := by
    intro n
    induction n with
    | zero =>
      intro i H' hi W' L hL
      rcases hL with hL | ⟨a, hL⟩ <;> subst hL
      all_goals
        refine hK _ _ _ _ ?_
        refine iOSk W' (Or.inr (Or.inl rfl)) ?_
        rw [hc]
        refine And.intro (fun hcc => ?_) (fun hcc => ?_)
        · repeat (refine And.intro (by first | assumption | rfl | exact Nat.le_of_ble_eq_true rfl | exact Nat.zero_le _ | decide) ?_)
          rw [show i = c by omega] at W'
          exact q H' W'
        · exact absurd (nI_le (by omega) (by omega)) hcc
    | succ n ih =>
      intro i H' hi W' L hL
      have i12 : i < 12 := by omega
      rcases hL with hL | ⟨a, hL⟩ <;> subst hL
      all_goals
        refine hK _ _ _ _ ?_
        refine iOSk W' (Or.inr (Or.inl rfl)) ?_
        rw [hc]
        refine And.intro (fun hcc => ?_) (fun hcc => ?_)
        · exact absurd hcc (nI_ge (by omega) (by omega))
        · refine gBO (src W'.1) ?_
          refine aOrd (src W'.1) rfl i12 ?_
          refine gBO W' ?_
          refine aOrd W' rfl i12 ?_
          refine gI_of ((src W'.1).k_od i12) ((src W'.1).ld (j := 323 + i * 3 + 0) (by omega) (loc_ord w2 σ2 i 0 (by decide)) (hvs i 0 (by omega) (by decide))) ?_
          refine gI_of ((src W'.1).k_od i12) ((src W'.1).ld (j := 323 + i * 3 + 1) (by omega) (loc_ord w2 σ2 i 1 (by decide)) (hvs i 1 (by omega) (by decide))) ?_
          refine gI_of ((src W'.1).k_od i12) ((src W'.1).ld (j := 323 + i * 3 + 2) (by omega) (loc_ord w2 σ2 i 2 (by decide)) (hvs i 2 (by omega) (by decide))) ?_
          (repeat (refine And.intro (by first | assumption | rfl | exact Nat.le_of_ble_eq_true rfl | exact Nat.zero_le _ | decide) ?_)); refine And.intro (W'.k_od i12) ?_; (repeat (refine And.intro (by first | assumption | rfl | exact Nat.le_of_ble_eq_true rfl | exact Nat.zero_le _ | decide) ?_))
          refine d_becomeOrd hst W' i12 (fun H1 W1 => ?_)
          rw [upd_self, upd_self, upd_self] at W1
          have := ih (i + 1) H1 (by omega) (W1.mono (fun j _ hv => by
            rcases hv with h | h | h
            · exact Or.inl (Or.inl (Or.inl (Or.inl h)))
            · exact Or.inl (Or.inl (Or.inl (Or.inr (Or.inl h))))
            · by_cases y : j < 323 + i * 3
              · exact Or.inl (Or.inl (Or.inl (Or.inr (Or.inr ⟨h.1, y⟩))))
              · omega)) _ (Or.inr ⟨.ref (σ2 (24 + i)), rfl⟩)
          rw [← nI_1 i] at this
          exact this
  refine iOSk (src W.1) hs0 ?_
  refine yOS W rfl (fun H1 W1 => ?_)
  exact hk c 0 H1 (by omega) (W1.mono (fun j _ hv => by
    rcases hv with h | h | h
    · exact Or.inl h
    · exact Or.inr h
    · omega)) _ (Or.inl rfl)
theorem d_copyWorld {l : Launch} (hst : l.stackTraces = false) {Q : Option Value → Hp → Prop} {X : String → Hp → Prop} {h0 H : Hp} {w : Nat} {σ : Nat → Nat} {N : Nat → Int32} (W : Wk h0 H w σ σ N (fun _ => False)) {w2 : Nat} {σ2 : Nat → Nat} {c0 c1 c2 c3 c4 : Nat} (S : Rep h0 w2 σ2 σ2 N (vld N c0 c1 c2 c3 c4)) (hN : WFc N c0 c1 c2 c3 c4) (hd : w2 + 80 ≤ w ∨ w + 80 ≤ w2)
    (q : ∀ H', Wv [] h0 H' w σ σ N c0 c1 c2 c3 c4 → Q none H') : CX7_copyFrom l [.ref w, .ref w2] H Q X := by
  have src : ∀ {H' : Hp}, Fr w h0 H' → Wk H' H' w2 σ2 σ2 N (vld N c0 c1 c2 c3 c4) := fun F => S.fr F hd
  have k0 := hN.1.2
  have k1 := hN.2.1.2
  have k2 := hN.2.2.1.2
  have k3 := hN.2.2.2.1.2
  have k4 := hN.2.2.2.2.1.2
  refine eX7_copyFrom hst (Nat.le_of_ble_eq_true rfl) (fun K hK hK2 hK3 => ?_)
  have hk3 : ∀ (n i : Nat) (H' : Hp), i + n = c2 → Wk h0 H' w σ σ N (fun j => vld N c0 c1 c2 c3 c4 j ∧ (j < 3 ∨ (7 ≤ j ∧ j < 227 + i * 5))) → K 88 [(2, .int (nI i)), (0, .ref w), (1, .ref w2)] [] H' (0, 0) := by
    intro n
    induction n with
    | zero =>
      intro i H' hi W'
      have ei : i = c2 := by omega
      subst ei
      refine hK3 _ _ _ _ ?_
      refine iWCk W' ⟨Or.inl (by decide), Or.inl (by decide)⟩ ?_
      rw [hN.2.2.1.1]
      refine And.intro (fun hcc => ?_) (fun hcc => ?_)
      · refine iRQk (src W'.1) (Or.inl (by decide)) ?_
        refine yRQ W' rfl (fun H1 W1 => ?_)
        refine gReps W1 ?_
        refine gReps (src W1.1) ?_
        (repeat (refine And.intro (by first | assumption | rfl | exact Nat.le_of_ble_eq_true rfl | exact Nat.zero_le _ | decide) ?_)); refine And.intro (W1.s_reps.2.1) ?_; (repeat (refine And.intro (by first | assumption | rfl | exact Nat.le_of_ble_eq_true rfl | exact Nat.zero_le _ | decide) ?_))
        refine d_copyBatchRep hst W1 S hd hN.2.2.2.1.1 k3 (Or.inl (by decide)) (fun i f hi hf => v_rep hi hf) (fun H2 W2 => ?_)
        refine gOrds W2 ?_
        refine gOrds (src W2.1) ?_
        (repeat (refine And.intro (by first | assumption | rfl | exact Nat.le_of_ble_eq_true rfl | exact Nat.zero_le _ | decide) ?_)); refine And.intro (W2.s_ords.2.1) ?_; (repeat (refine And.intro (by first | assumption | rfl | exact Nat.le_of_ble_eq_true rfl | exact Nat.zero_le _ | decide) ?_))
        refine d_copyBatchOrd hst W2 S hd hN.2.2.2.2.1.1 k4 (Or.inl (by decide)) (fun i f hi hf => v_ord hi hf) (fun H3 W3 => ?_)
        refine iDayk (src W3.1) (Or.inl (by decide)) ?_
        refine yDay W3 rfl (fun H4 W4 => ?_)
        repeat (refine And.intro (by first | assumption | rfl | exact Nat.le_of_ble_eq_true rfl | exact Nat.zero_le _ | decide) ?_)
        refine q H4 ⟨hN, W4.mono (fun j _ hv => ?_), fun q hq => absurd hq List.not_mem_nil⟩
        by_cases g : j < 7
        · have : j < 3 ∨ j = 3 ∨ j = 4 ∨ j = 5 ∨ j = 6 := by omega
          rcases this with g | g | g | g | g
          · exact Or.inl (Or.inl (Or.inl (Or.inl ⟨hv, Or.inl g⟩)))
          · exact Or.inl (Or.inl (Or.inr (Or.inl g)))
          · exact Or.inl (Or.inr (Or.inl g))
          · exact Or.inr g
          · exact Or.inl (Or.inl (Or.inl (Or.inr g)))
        · by_cases g2 : j < 227 + i * 5
          · exact Or.inl (Or.inl (Or.inl (Or.inl ⟨hv, Or.inr ⟨by omega, g2⟩⟩)))
          · have h3 : (287 ≤ j ∧ j < 287 + c3 * 3) ∨ (323 ≤ j ∧ j < 323 + c4 * 3) := by
              unfold vld at hv
              omega
            rcases h3 with h | h
            · exact Or.inl (Or.inl (Or.inr (Or.inr h)))
            · exact Or.inl (Or.inr (Or.inr h))
      · exact absurd (nI_le (by omega) (by omega)) hcc
    | succ n ih =>
      intro i H' hi W'
      have i12 : i < 12 := by omega
      refine hK3 _ _ _ _ ?_
      refine iWCk W' ⟨Or.inl (by decide), Or.inl (by decide)⟩ ?_
      rw [hN.2.2.1.1]
      refine And.intro (fun hcc => ?_) (fun hcc => ?_)
      · exact absurd hcc (nI_ge (by omega) (by omega))
      · refine gWaits W' ?_
        refine aWait W' rfl i12 ?_
        refine gWaits (src W'.1) ?_
        refine aWait (src W'.1) rfl i12 ?_
        (repeat (refine And.intro (by first | assumption | rfl | exact Nat.le_of_ble_eq_true rfl | exact Nat.zero_le _ | decide) ?_)); refine And.intro (W'.k_wt i12) ?_; (repeat (refine And.intro (by first | assumption | rfl | exact Nat.le_of_ble_eq_true rfl | exact Nat.zero_le _ | decide) ?_))
        refine d_copyWait hst W' S hd i12 (fun k hk => v_wait (by omega) hk) (fun H1 W1 => ?_)
        have := ih (i + 1) H1 (by omega) (W1.mono (fun j _ hv => by
          rcases hv with ⟨hv, h | h⟩
          · exact Or.inl ⟨hv, Or.inl h⟩
          · by_cases y : j < 227 + i * 5
            · exact Or.inl ⟨hv, Or.inr ⟨h.1, y⟩⟩
            · exact Or.inr (by omega)))
        rw [← nI_1 i] at this
        exact this
  have hk2 : ∀ (n i : Nat) (H' : Hp), i + n = c1 → Wk h0 H' w σ σ N (fun j => vld N c0 c1 c2 c3 c4 j ∧ (j < 2 ∨ (7 ≤ j ∧ j < 191 + i * 9))) → K 49 [(2, .int (nI i)), (0, .ref w), (1, .ref w2)] [] H' (0, 0) := by
    intro n
    induction n with
    | zero =>
      intro i H' hi W'
      have ei : i = c1 := by omega
      subst ei
      refine hK2 _ _ _ _ ?_
      refine iKCk W' ⟨Or.inl (by decide), Or.inl (by decide)⟩ ?_
      rw [hN.2.1.1]
      refine And.intro (fun hcc => ?_) (fun hcc => ?_)
      · refine iWCk (src W'.1) (Or.inl (by decide)) ?_
        refine yWC W' rfl (fun H1 W1 => ?_)
        refine hk3 c2 0 H1 (by omega) (W1.mono (fun j _ hv => ?_))
        obtain ⟨hv, h⟩ := hv
        by_cases y : j = 2
        · exact Or.inr y
        · refine Or.inl ⟨hv, ?_⟩
          have : j < 227 → 7 ≤ j → j < 191 + i * 9 := fun h1 h2 => by unfold vld at hv; omega
          omega
      · exact absurd (nI_le (by omega) (by omega)) hcc
    | succ n ih =>
      intro i H' hi W'
      have i4 : i < 4 := by omega
      refine hK2 _ _ _ _ ?_
      refine iKCk W' ⟨Or.inl (by decide), Or.inl (by decide)⟩ ?_
      rw [hN.2.1.1]
      refine And.intro (fun hcc => ?_) (fun hcc => ?_)
      · exact absurd hcc (nI_ge (by omega) (by omega))
      · refine gKits W' ?_
        refine aKit W' rfl i4 ?_
        refine gKits (src W'.1) ?_
        refine aKit (src W'.1) rfl i4 ?_
        (repeat (refine And.intro (by first | assumption | rfl | exact Nat.le_of_ble_eq_true rfl | exact Nat.zero_le _ | decide) ?_)); refine And.intro ((W'.s_kit i i4).2.1) ?_; (repeat (refine And.intro (by first | assumption | rfl | exact Nat.le_of_ble_eq_true rfl | exact Nat.zero_le _ | decide) ?_))
        refine d_copyKit hst W' S hd i4 (v_kit (by omega)) (fun j hj => by have := hj.2; omega) (fun H1 W1 => ?_)
        have := ih (i + 1) H1 (by omega) (W1.mono (fun j _ hv => by
          rcases hv with ⟨hv, h | h⟩
          · exact Or.inl ⟨hv, Or.inl h⟩
          · by_cases y : j < 191 + i * 9
            · exact Or.inl ⟨hv, Or.inr ⟨h.1, y⟩⟩
            · exact Or.inr ⟨by omega, by omega, hv⟩))
        rw [← nI_1 i] at this
        exact this
  have hk1 : ∀ (n i : Nat) (H' : Hp), i + n = c0 → Wk h0 H' w σ σ N (fun j => vld N c0 c1 c2 c3 c4 j ∧ (j < 1 ∨ (7 ≤ j ∧ j < 7 + i * 23))) → K 10 [(2, .int (nI i)), (0, .ref w), (1, .ref w2)] [] H' (0, 0) := by
    intro n
    induction n with
    | zero =>
      intro i H' hi W'
      have ei : i = c0 := by omega
      subst ei
      refine hK _ _ _ _ ?_
      refine iPCk W' ⟨Or.inl (by decide), Or.inl (by decide)⟩ ?_
      rw [hN.1.1]
      refine And.intro (fun hcc => ?_) (fun hcc => ?_)
      · refine iKCk (src W'.1) (Or.inl (by decide)) ?_
        refine yKC W' rfl (fun H1 W1 => ?_)
        refine hk2 c1 0 H1 (by omega) (W1.mono (fun j _ hv => ?_))
        obtain ⟨hv, h⟩ := hv
        by_cases y : j = 1
        · exact Or.inr y
        · refine Or.inl ⟨hv, ?_⟩
          have : j < 191 → 7 ≤ j → j < 7 + i * 23 := fun h1 h2 => by unfold vld at hv; omega
          omega
      · exact absurd (nI_le (by omega) (by omega)) hcc
    | succ n ih =>
      intro i H' hi W'
      have i8 : i < 8 := by omega
      refine hK _ _ _ _ ?_
      refine iPCk W' ⟨Or.inl (by decide), Or.inl (by decide)⟩ ?_
      rw [hN.1.1]
      refine And.intro (fun hcc => ?_) (fun hcc => ?_)
      · exact absurd hcc (nI_ge (by omega) (by omega))
      · refine gParts W' ?_
        refine aPart W' rfl i8 ?_
        refine gParts (src W'.1) ?_
        refine aPart (src W'.1) rfl i8 ?_
        (repeat (refine And.intro (by first | assumption | rfl | exact Nat.le_of_ble_eq_true rfl | exact Nat.zero_le _ | decide) ?_)); refine And.intro ((W'.s_part i i8).2.1) ?_; (repeat (refine And.intro (by first | assumption | rfl | exact Nat.le_of_ble_eq_true rfl | exact Nat.zero_le _ | decide) ?_))
        refine d_copyPart hst W' S hd i8 (fun k hk h => v_part (by omega) hk h) (fun j hj => by have := hj.2; omega) (fun H1 W1 => ?_)
        have := ih (i + 1) H1 (by omega) (W1.mono (fun j _ hv => by
          rcases hv with ⟨hv, h | h⟩
          · exact Or.inl ⟨hv, Or.inl h⟩
          · by_cases y : j < 7 + i * 23
            · exact Or.inl ⟨hv, Or.inr ⟨h.1, y⟩⟩
            · exact Or.inr ⟨by omega, by omega, hv⟩))
        rw [← nI_1 i] at this
        exact this
  refine iPCk (src W.1) (Or.inl (by decide)) ?_
  refine yPC W rfl (fun H1 W1 => ?_)
  exact hk1 c0 0 H1 (by omega) (W1.mono (fun j _ hv => by
    rcases hv with ⟨hv, h⟩
    exact Or.inr (by omega)))
end E8

section E7
theorem ShP.same {s s' : Nat → Nat × Nat} {R R' : Nat → Nat → Nat} {w : Nat} {σ : Nat → Nat} (h : ShP s R w σ) (e : ∀ a, w ≤ a → a < w + 80 → s' a = s a ∧ R' a = R a) : ShP s' R' w σ := by
  obtain ⟨a0, a1, a2, a3, a4, a5, a6, a7, a8, a9, a10, a11, ⟨b1, b2, b3⟩, a13⟩ := h
  have S : ∀ k, k < 80 → s' (w + k) = s (w + k) := fun k hk => (e (w + k) (by omega) (by omega)).1
  have T : ∀ k, k < 80 → R' (w + k) = R (w + k) := fun k hk => (e (w + k) (by omega) (by omega)).2
  have S0 : s' w = s w := S 0 (by decide)
  have T0 : R' w = R w := T 0 (by decide)
  refine ⟨a0, by rw [S0]; exact a1, by rw [T0, S 1 (by decide)]; exact a2, by rw [T0, S 2 (by decide)]; exact a3, by rw [T0, S 3 (by decide)]; exact a4, by rw [T0, S 4 (by decide), T 4 (by decide), S 5 (by decide)]; exact a5, by rw [T0, S 18 (by decide), T 18 (by decide), S 19 (by decide)]; exact a6, fun p hp => ?_, fun k hk => ?_, fun i hi => ?_, fun i hi => ?_, fun i hi => ?_, ⟨fun a h1 h2 => ?_, fun a h1 h2 => ?_, fun a h1 h2 => ?_⟩, a13⟩
  · have g := a7 p hp
    rw [T 1 (by decide), show w + 32 + 3 * p = w + (32 + 3 * p) by omega, show w + 33 + 3 * p = w + (33 + 3 * p) by omega, show w + 34 + 3 * p = w + (34 + 3 * p) by omega, S _ (by omega), S _ (by omega), S _ (by omega), T _ (by omega)]
    rw [show w + 32 + 3 * p = w + (32 + 3 * p) by omega, show w + 33 + 3 * p = w + (33 + 3 * p) by omega, show w + 34 + 3 * p = w + (34 + 3 * p) by omega] at g
    exact g
  · have g := a8 k hk
    rw [T 2 (by decide), show w + 56 + 3 * k = w + (56 + 3 * k) by omega, show w + 57 + 3 * k = w + (57 + 3 * k) by omega, show w + 58 + 3 * k = w + (58 + 3 * k) by omega, S _ (by omega), S _ (by omega), S _ (by omega), T _ (by omega)]
    rw [show w + 56 + 3 * k = w + (56 + 3 * k) by omega, show w + 57 + 3 * k = w + (57 + 3 * k) by omega, show w + 58 + 3 * k = w + (58 + 3 * k) by omega] at g
    exact g
  · rw [T 3 (by decide)]; exact a9 i hi
  · rw [T 5 (by decide)]; exact a10 i hi
  · rw [T 19 (by decide)]; exact a11 i hi
  · rw [(e a (by omega) (by omega)).1]; exact b1 a h1 h2
  · rw [(e a (by omega) (by omega)).1]; exact b2 a h1 h2
  · rw [(e a (by omega) (by omega)).1]; exact b3 a h1 h2
theorem Rep.same {H H' : Hp} {w : Nat} {σ ρ : Nat → Nat} {N : Nat → Int32} {V : Nat → Prop} (h : Rep H w σ ρ N V) (e : ∀ a, w ≤ a → a < w + 80 → hs H' a = hs H a ∧ hR H' a = hR H a) (i : ∀ a, w ≤ a → a < w + 80 → hI H' a = hI H a) : Rep H' w σ ρ N V := by
  refine ⟨h.1.same e, h.2.1, fun j hj hv => ?_⟩
  have g := loc_rng h.2.1 hj
  rw [i _ g.1 g.2]
  exact h.2.2 j hj hv
theorem Rep.fr {h0 H : Hp} {w w2 : Nat} {σ ρ : Nat → Nat} {N : Nat → Int32} {V : Nat → Prop} (h : Rep h0 w2 σ ρ N V) (F : Fr w h0 H) (hd : w2 + 80 ≤ w ∨ w + 80 ≤ w2) : Wk H H w2 σ ρ N V :=
  ⟨Fr.rfl' _ _, h.same (fun a h1 h2 => ⟨by rw [F.2.1], (F.2.2.2 a (by omega)).2⟩) (fun a h1 h2 => (F.2.2.2 a (by omega)).1)⟩
theorem Wk.row {h0 H : Hp} {w : Nat} {σ ρ : Nat → Nat} {N : Nat → Int32} {V : Nat → Prop} (W : Wk h0 H w σ ρ N V) {b : Nat} {f : Nat → Int32} {V' : Nat → Prop} (h1 : w ≤ b) (h2 : b < w + 80) (hv : ∀ j, j < 359 → V' j → ((loc w ρ j).1 ≠ b ∧ V j) ∨ ((loc w ρ j).1 = b ∧ f (loc w ρ j).2 = N j)) : Wk h0 (sRow H b f) w σ ρ N V' := by
  refine ⟨⟨W.1.1, W.1.2.1, W.1.2.2.1, fun a ha => ⟨(hI_sRow_ne (by omega)).trans (W.1.2.2.2 a ha).1, (W.1.2.2.2 a ha).2⟩⟩, W.2.1, W.2.2.1, fun j hj hvj => ?_⟩
  rcases hv j hj hvj with ⟨e, v⟩ | ⟨e, v⟩
  · rw [hI_sRow_ne e]; exact W.2.2.2 j hj v
  · rw [e, hI_sRow]; exact v
theorem loc_cell {w : Nat} {ρ : Nat → Nat} (h : RhoOk w ρ) {j b : Nat} (hj : j < 359) (hb : (33 ≤ b ∧ b < 56 ∧ b % 3 ≠ 2) ∨ (57 ≤ b ∧ b < 68 ∧ b % 3 ≠ 2)) (e : (loc w ρ j).1 = w + b) : (b < 56 ∧ b % 3 = 0 ∧ ∃ k, k < 4 ∧ j = 7 + (b - 33) / 3 * 23 + (9 + k)) ∨ (b < 56 ∧ b % 3 = 1 ∧ ∃ k, k < 8 ∧ j = 7 + (b - 34) / 3 * 23 + (13 + k)) ∨ (57 ≤ b ∧ b % 3 = 0 ∧ ∃ k, k < 4 ∧ j = 191 + (b - 57) / 3 * 9 + 1 + 2 * k + 0) ∨ (57 ≤ b ∧ b % 3 = 1 ∧ ∃ k, k < 4 ∧ j = 191 + (b - 58) / 3 * 9 + 1 + 2 * k + 1) := by
  by_cases h1 : j < 227
  · revert e
    unfold loc
    by_cases a1 : j < 7
    · rw [if_pos a1]
      (repeat' split) <;> (intro e; dsimp only at e; omega)
    · rw [if_neg a1]
      by_cases a2 : j < 191
      · rw [if_pos a2]
        by_cases a3 : (j - 7) % 23 < 8
        · rw [if_pos a3]; intro e; dsimp only at e; omega
        · rw [if_neg a3]
          by_cases a4 : (j - 7) % 23 = 8
          · rw [if_pos a4]; intro e; dsimp only at e; omega
          · rw [if_neg a4]
            by_cases a5 : (j - 7) % 23 < 13
            · rw [if_pos a5]
              intro e
              dsimp only at e
              exact Or.inl ⟨by omega, by omega, (j - 7) % 23 - 9, by omega, by omega⟩
            · rw [if_neg a5]
              by_cases a6 : (j - 7) % 23 < 21
              · rw [if_pos a6]
                intro e
                dsimp only at e
                exact Or.inr (Or.inl ⟨by omega, by omega, (j - 7) % 23 - 13, by omega, by omega⟩)
              · rw [if_neg a6]; intro e; dsimp only at e; omega
      · rw [if_neg a2, if_pos h1]
        by_cases a3 : (j - 191) % 9 = 0
        · rw [if_pos a3]; intro e; dsimp only at e; omega
        · rw [if_neg a3]
          by_cases a4 : (j - 191) % 9 % 2 = 1
          · rw [if_pos a4]
            intro e
            dsimp only at e
            exact Or.inr (Or.inr (Or.inl ⟨by omega, by omega, (j - 191) % 9 / 2, by omega, by omega⟩))
          · rw [if_neg a4]
            intro e
            dsimp only at e
            exact Or.inr (Or.inr (Or.inr ⟨by omega, by omega, (j - 191) % 9 / 2 - 1, by omega, by omega⟩))
  · obtain ⟨i, f, hi, e2, -⟩ := loc_hi (w := w) (ρ := ρ) (show 227 ≤ j by omega) hj
    rw [e2] at e
    have := rho_rng h hi
    dsimp only at e
    omega
theorem cpy_at {f g : Nat → Int32} {n k : Nat} (h : k < n) : va_cpy f g 0 0 n k = f k := by
  rw [pk_cpy_in (Nat.zero_le k) (by omega), Nat.zero_add, Nat.sub_zero]
theorem d_copyPart {l : Launch} (hst : l.stackTraces = false) {Q : Option Value → Hp → Prop} {X : String → Hp → Prop} {h0 H : Hp} {w : Nat} {σ ρ : Nat → Nat} {N : Nat → Int32} {V : Nat → Prop} (W : Wk h0 H w σ ρ N V) {w2 : Nat} {σ2 ρ2 : Nat → Nat} {Vs : Nat → Prop} (S : Rep h0 w2 σ2 ρ2 N Vs) (hd : w2 + 80 ≤ w ∨ w + 80 ≤ w2) {p : Nat} (hp : p < 8) (hvs : ∀ k, k < 23 → k < 9 ∨ 13 ≤ k → Vs (7 + p * 23 + k)) (hV : ∀ j, V j → j < 7 + p * 23 ∨ 7 + p * 23 + 23 ≤ j)
    (q : ∀ H', Wk h0 H' w σ ρ N (fun j => V j ∨ (7 + p * 23 ≤ j ∧ j < 7 + p * 23 + 23 ∧ Vs j)) → Q none H') : CX3_copyFrom l [.ref (w + 32 + 3 * p), .ref (w2 + 32 + 3 * p)] H Q X := by
  have src : ∀ {H' : Hp}, Fr w h0 H' → Wk H' H' w2 σ2 ρ2 N Vs := fun F => S.fr F hd
  have w0 := W.s_0
  refine eX3_copyFrom hst (Nat.le_of_ble_eq_true rfl) (fun K => ?_)
  refine iPartk (src W.1) hp (k := 0) (by decide) (hvs 0 (by decide) (by decide)) ?_
  refine yPart W hp (k := 0) (by decide) rfl (fun H1 W1 => ?_)
  refine iPartk (src W1.1) hp (k := 1) (by decide) (hvs 1 (by decide) (by decide)) ?_
  refine yPart W1 hp (k := 1) (by decide) rfl (fun H2 W2 => ?_)
  refine iPartk (src W2.1) hp (k := 2) (by decide) (hvs 2 (by decide) (by decide)) ?_
  refine yPart W2 hp (k := 2) (by decide) rfl (fun H3 W3 => ?_)
  refine iPartk (src W3.1) hp (k := 3) (by decide) (hvs 3 (by decide) (by decide)) ?_
  refine yPart W3 hp (k := 3) (by decide) rfl (fun H4 W4 => ?_)
  refine iPartk (src W4.1) hp (k := 4) (by decide) (hvs 4 (by decide) (by decide)) ?_
  refine yPart W4 hp (k := 4) (by decide) rfl (fun H5 W5 => ?_)
  refine iPartk (src W5.1) hp (k := 5) (by decide) (hvs 5 (by decide) (by decide)) ?_
  refine yPart W5 hp (k := 5) (by decide) rfl (fun H6 W6 => ?_)
  refine iPartk (src W6.1) hp (k := 6) (by decide) (hvs 6 (by decide) (by decide)) ?_
  refine yPart W6 hp (k := 6) (by decide) rfl (fun H7 W7 => ?_)
  refine iPartk (src W7.1) hp (k := 7) (by decide) (hvs 7 (by decide) (by decide)) ?_
  refine yPart W7 hp (k := 7) (by decide) rfl (fun H8 W8 => ?_)
  refine iRqdk (src W8.1) hp (hvs 21 (by decide) (by decide)) ?_
  refine yRqd W8 hp rfl (fun H9 W9 => ?_)
  refine iSrvk (src W9.1) hp (hvs 22 (by decide) (by decide)) ?_
  refine ySrv W9 hp rfl (fun HA WA => ?_)
  refine iSCk (src WA.1) hp (hvs 8 (by decide) (by decide)) ?_
  refine ySC WA hp rfl (fun HB WB => ?_)
  have VA : Wk h0 HB w σ ρ N (fun j => V j ∨ (7 + p * 23 ≤ j ∧ j < 7 + p * 23 + 9) ∨ (7 + p * 23 + 21 ≤ j ∧ j < 7 + p * 23 + 23)) := WB.mono (fun j _ hv => by
    rcases hv with h | h | h
    · exact Or.inl (Or.inl (Or.inl (Or.inl (Or.inl (Or.inl (Or.inl (Or.inl (Or.inl (Or.inl (Or.inl h))))))))))
    · omega
    · omega)
  clear WB WA W9 W8 W7 W6 W5 W4 W3 W2 W1
  refine gSubs (src VA.1) hp ?_
  refine gSubs VA hp ?_
  have sA := ((src VA.1).s_part p hp).2.2.2.1
  have sB := (VA.s_part p hp).2.2.2.1
  refine And.intro (by rw [sA]) (And.intro (by rw [sB]) (And.intro (by decide) (And.intro (by decide) (And.intro (by decide) (And.intro (by rw [sA]; decide) (And.intro (by rw [sB]; decide) (And.intro (by decide) ?_)))))))
  have V2 : Wk h0 (cpI HB (w2 + 33 + 3 * p) 0 (w + 33 + 3 * p) 0 4) w σ ρ N (fun j => V j ∨ (7 + p * 23 ≤ j ∧ j < 7 + p * 23 + 9) ∨ (7 + p * 23 + 21 ≤ j ∧ j < 7 + p * 23 + 23) ∨ (7 + p * 23 + 9 ≤ j ∧ j < 7 + p * 23 + 13 ∧ Vs j)) := by
    refine VA.row (b := w + 33 + 3 * p) (f := va_cpy (hI HB (w2 + 33 + 3 * p)) (hI HB (w + 33 + 3 * p)) 0 0 4) (by omega) (by omega) (fun j hj hv => ?_)
    by_cases g : 7 + p * 23 + 9 ≤ j ∧ j < 7 + p * 23 + 13
    · have ej : j = 7 + p * 23 + (9 + (j - (7 + p * 23 + 9))) := by omega
      have hvs2 : Vs j := by
        rcases hv with h | h | h | h
        · have := hV j h; omega
        · omega
        · omega
        · exact h.2.2
      generalize j - (7 + p * 23 + 9) = k at ej
      subst ej
      rw [loc_p9 w ρ p k hp (by omega)]
      refine Or.inr ⟨rfl, ?_⟩
      dsimp only
      rw [cpy_at (by omega)]
      exact (src VA.1).ld (by omega) (loc_p9 w2 ρ2 p k hp (by omega)) hvs2
    · refine Or.inl ⟨fun z => ?_, ?_⟩
      · have := loc_cell W.s_rho (b := 33 + 3 * p) hj (by omega) (by omega)
        omega
      · rcases hv with h | h | h | h
        · exact Or.inl h
        · exact Or.inr (Or.inl h)
        · exact Or.inr (Or.inr h)
        · omega
  refine gMovs (src V2.1) hp ?_
  refine gMovs V2 hp ?_
  have tA := ((src V2.1).s_part p hp).2.2.2.2.2
  have tB := (V2.s_part p hp).2.2.2.2.2
  refine And.intro (by rw [tA]) (And.intro (by rw [tB]) (And.intro (by decide) (And.intro (by decide) (And.intro (by decide) (And.intro (by rw [tA]; decide) (And.intro (by rw [tB]; decide) (And.intro (by decide) ?_)))))))
  repeat (refine And.intro (by first | assumption | rfl | exact Nat.le_of_ble_eq_true rfl | exact Nat.zero_le _ | decide) ?_)
  refine q _ ?_
  refine V2.row (b := w + 34 + 3 * p) (f := va_cpy (hI (cpI HB (w2 + 33 + 3 * p) 0 (w + 33 + 3 * p) 0 4) (w2 + 34 + 3 * p)) (hI (cpI HB (w2 + 33 + 3 * p) 0 (w + 33 + 3 * p) 0 4) (w + 34 + 3 * p)) 0 0 8) (by omega) (by omega) (fun j hj hv => ?_)
  by_cases g : 7 + p * 23 + 13 ≤ j ∧ j < 7 + p * 23 + 21
  · have ej : j = 7 + p * 23 + (13 + (j - (7 + p * 23 + 13))) := by omega
    have hvs2 : Vs j := by
      rcases hv with h | h
      · have := hV j h; omega
      · exact h.2.2
    generalize j - (7 + p * 23 + 13) = k at ej
    subst ej
    rw [loc_p13 w ρ p k hp (by omega)]
    refine Or.inr ⟨rfl, ?_⟩
    dsimp only
    rw [cpy_at (by omega)]
    exact (src V2.1).ld (by omega) (loc_p13 w2 ρ2 p k hp (by omega)) hvs2
  · refine Or.inl ⟨fun z => ?_, ?_⟩
    · have := loc_cell W.s_rho (b := 34 + 3 * p) hj (by omega) (by omega)
      omega
    · rcases hv with h | ⟨h1, h2, h3⟩
      · exact Or.inl h
      · by_cases y : 7 + p * 23 + 9 ≤ j ∧ j < 7 + p * 23 + 13
        · exact Or.inr (Or.inr (Or.inr ⟨y.1, y.2, h3⟩))
        · by_cases x : j < 7 + p * 23 + 9
          · exact Or.inr (Or.inl ⟨h1, x⟩)
          · exact Or.inr (Or.inr (Or.inl ⟨by omega, h2⟩))
theorem d_copyKit {l : Launch} (hst : l.stackTraces = false) {Q : Option Value → Hp → Prop} {X : String → Hp → Prop} {h0 H : Hp} {w : Nat} {σ ρ : Nat → Nat} {N : Nat → Int32} {V : Nat → Prop} (W : Wk h0 H w σ ρ N V) {w2 : Nat} {σ2 ρ2 : Nat → Nat} {Vs : Nat → Prop} (S : Rep h0 w2 σ2 ρ2 N Vs) (hd : w2 + 80 ≤ w ∨ w + 80 ≤ w2) {p : Nat} (hp : p < 4) (hvs : Vs (191 + p * 9)) (hV : ∀ j, V j → j < 191 + p * 9 ∨ 191 + p * 9 + 9 ≤ j)
    (q : ∀ H', Wk h0 H' w σ ρ N (fun j => V j ∨ (191 + p * 9 ≤ j ∧ j < 191 + p * 9 + 9 ∧ Vs j)) → Q none H') : CX2_copyFrom l [.ref (w + 56 + 3 * p), .ref (w2 + 56 + 3 * p)] H Q X := by
  have src : ∀ {H' : Hp}, Fr w h0 H' → Wk H' H' w2 σ2 ρ2 N Vs := fun F => S.fr F hd
  have w0 := W.s_0
  refine eX2_copyFrom hst (Nat.le_of_ble_eq_true rfl) (fun K => ?_)
  refine gI_of (x := N (191 + p * 9)) ((src W.1).s_kit p hp).2.1 ((src W.1).ld (j := 191 + p * 9) (by omega) (loc_k0 w2 ρ2 p hp) hvs) ?_
  refine yKitC W hp rfl (fun HB VA => ?_)
  refine gKP (src VA.1) hp ?_
  refine gKP VA hp ?_
  have sA := ((src VA.1).s_kit p hp).2.2.2.1
  have sB := (VA.s_kit p hp).2.2.2.1
  refine And.intro (by rw [sA]) (And.intro (by rw [sB]) (And.intro (by decide) (And.intro (by decide) (And.intro (by decide) (And.intro (by rw [sA]; decide) (And.intro (by rw [sB]; decide) (And.intro (by decide) ?_)))))))
  have V2 : Wk h0 (cpI HB (w2 + 57 + 3 * p) 0 (w + 57 + 3 * p) 0 4) w σ ρ N (fun j => V j ∨ j = 191 + p * 9 ∨ (191 + p * 9 + 1 ≤ j ∧ j < 191 + p * 9 + 9 ∧ (j - (191 + p * 9)) % 2 = 1 ∧ Vs j)) := by
    refine VA.row (b := w + 57 + 3 * p) (f := va_cpy (hI HB (w2 + 57 + 3 * p)) (hI HB (w + 57 + 3 * p)) 0 0 4) (by omega) (by omega) (fun j hj hv => ?_)
    by_cases g : 191 + p * 9 + 1 ≤ j ∧ j < 191 + p * 9 + 9 ∧ (j - (191 + p * 9)) % 2 = 1
    · have ej : j = 191 + p * 9 + 1 + 2 * ((j - (191 + p * 9 + 1)) / 2) + 0 := by omega
      have hvs2 : Vs j := by
        rcases hv with h | h | h
        · have := hV j h; omega
        · omega
        · exact h.2.2.2
      have hk : (j - (191 + p * 9 + 1)) / 2 < 4 := by omega
      generalize (j - (191 + p * 9 + 1)) / 2 = k at ej hk
      subst ej
      rw [loc_k1 w ρ p k hp hk]
      refine Or.inr ⟨rfl, ?_⟩
      dsimp only
      rw [cpy_at hk]
      exact (src VA.1).ld (by omega) (loc_k1 w2 ρ2 p k hp hk) hvs2
    · refine Or.inl ⟨fun z => ?_, ?_⟩
      · have := loc_cell W.s_rho (b := 57 + 3 * p) hj (by omega) (by omega)
        omega
      · rcases hv with h | h | h
        · exact Or.inl h
        · exact Or.inr h
        · exact absurd ⟨h.1, h.2.1, h.2.2.1⟩ g
  refine gKQ (src V2.1) hp ?_
  refine gKQ V2 hp ?_
  have tA := ((src V2.1).s_kit p hp).2.2.2.2.2
  have tB := (V2.s_kit p hp).2.2.2.2.2
  refine And.intro (by rw [tA]) (And.intro (by rw [tB]) (And.intro (by decide) (And.intro (by decide) (And.intro (by decide) (And.intro (by rw [tA]; decide) (And.intro (by rw [tB]; decide) (And.intro (by decide) ?_)))))))
  repeat (refine And.intro (by first | assumption | rfl | exact Nat.le_of_ble_eq_true rfl | exact Nat.zero_le _ | decide) ?_)
  refine q _ ?_
  refine V2.row (b := w + 58 + 3 * p) (f := va_cpy (hI (cpI HB (w2 + 57 + 3 * p) 0 (w + 57 + 3 * p) 0 4) (w2 + 58 + 3 * p)) (hI (cpI HB (w2 + 57 + 3 * p) 0 (w + 57 + 3 * p) 0 4) (w + 58 + 3 * p)) 0 0 4) (by omega) (by omega) (fun j hj hv => ?_)
  by_cases g : 191 + p * 9 + 1 ≤ j ∧ j < 191 + p * 9 + 9 ∧ (j - (191 + p * 9)) % 2 = 0
  · have ej : j = 191 + p * 9 + 1 + 2 * ((j - (191 + p * 9 + 1)) / 2) + 1 := by omega
    have hvs2 : Vs j := by
      rcases hv with h | h
      · have := hV j h; omega
      · exact h.2.2
    have hk : (j - (191 + p * 9 + 1)) / 2 < 4 := by omega
    generalize (j - (191 + p * 9 + 1)) / 2 = k at ej hk
    subst ej
    rw [loc_k2 w ρ p k hp hk]
    refine Or.inr ⟨rfl, ?_⟩
    dsimp only
    rw [cpy_at hk]
    exact (src V2.1).ld (by omega) (loc_k2 w2 ρ2 p k hp hk) hvs2
  · refine Or.inl ⟨fun z => ?_, ?_⟩
    · have := loc_cell W.s_rho (b := 58 + 3 * p) hj (by omega) (by omega)
      omega
    · rcases hv with h | ⟨h1, h2, h3⟩
      · exact Or.inl h
      · by_cases y : j = 191 + p * 9
        · exact Or.inr (Or.inl y)
        · exact Or.inr (Or.inr ⟨by omega, h2, by omega, h3⟩)
theorem d_copyWait {l : Launch} (hst : l.stackTraces = false) {Q : Option Value → Hp → Prop} {X : String → Hp → Prop} {h0 H : Hp} {w : Nat} {σ ρ : Nat → Nat} {N : Nat → Int32} {V : Nat → Prop} (W : Wk h0 H w σ ρ N V) {w2 : Nat} {σ2 ρ2 : Nat → Nat} {Vs : Nat → Prop} (S : Rep h0 w2 σ2 ρ2 N Vs) (hd : w2 + 80 ≤ w ∨ w + 80 ≤ w2) {i : Nat} (hi : i < 12) (hvs : ∀ k, k < 5 → Vs (227 + i * 5 + k))
    (q : ∀ H', Wk h0 H' w σ ρ N (fun j => V j ∨ (227 + i * 5 ≤ j ∧ j < 227 + i * 5 + 5)) → Q none H') : CX6_copyFrom l [.ref (ρ i), .ref (ρ2 i)] H Q X := by
  have src : ∀ {H' : Hp}, Fr w h0 H' → Wk H' H' w2 σ2 ρ2 N Vs := fun F => S.fr F hd
  have rd : ∀ {H' : Hp} (k : Nat), Fr w h0 H' → k < 5 → hs H' (ρ2 i) = (7, 5) ∧ hI H' (ρ2 i) k = N (227 + i * 5 + k) := fun k F hk => ⟨(src F).k_wt hi, (src F).ld (by omega) (loc_wait w2 ρ2 i k hi hk) (hvs k hk)⟩
  refine eX6_copyFrom hst (Nat.le_of_ble_eq_true rfl) (fun K => ?_)
  refine gI_of (rd 0 W.1 (by decide)).1 (rd 0 W.1 (by decide)).2 ?_
  refine yWait W hi (k := 0) (by decide) rfl (fun H1 W1 => ?_)
  refine gI_of (rd 1 W1.1 (by decide)).1 (rd 1 W1.1 (by decide)).2 ?_
  refine yWait W1 hi (k := 1) (by decide) rfl (fun H2 W2 => ?_)
  refine gI_of (rd 2 W2.1 (by decide)).1 (rd 2 W2.1 (by decide)).2 ?_
  refine yWait W2 hi (k := 2) (by decide) rfl (fun H3 W3 => ?_)
  refine gI_of (rd 3 W3.1 (by decide)).1 (rd 3 W3.1 (by decide)).2 ?_
  refine yWait W3 hi (k := 3) (by decide) rfl (fun H4 W4 => ?_)
  refine gI_of (rd 4 W4.1 (by decide)).1 (rd 4 W4.1 (by decide)).2 ?_
  refine yWait W4 hi (k := 4) (by decide) rfl (fun H5 W5 => ?_)
  repeat (refine And.intro (by first | assumption | rfl | exact Nat.le_of_ble_eq_true rfl | exact Nat.zero_le _ | decide) ?_)
  refine q H5 (W5.mono (fun j _ hv => ?_))
  rcases hv with h | h
  · exact Or.inl (Or.inl (Or.inl (Or.inl (Or.inl h))))
  · omega
end E7

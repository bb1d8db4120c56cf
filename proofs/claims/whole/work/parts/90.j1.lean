section J1
theorem st_w {H1 H2 : Hp} {w k f : Nat} {q : Nat × Nat} (hw : w < hn H1) (N2 : Nw (hn H1) k (al H1 q) H2) : Nw w (1 + k) H1 (wR H2 w f (hn H1)) ∧ hs (wR H2 w f (hn H1)) (hn H1) = q ∧ hR (wR H2 w f (hn H1)) w f = hn H1 ∧ (∀ j, j ≠ f → hR (wR H2 w f (hn H1)) w j = hR H1 w j) ∧ (∀ j, hR (wR H2 w f (hn H1)) (hn H1) j = hR H2 (hn H1) j) ∧ ∀ a, a ≠ w → hR (wR H2 w f (hn H1)) a = hR H2 a := by
  have n4 : Nw w (1 + k) H1 H2 := (Nw.al (o := w) (q := q)).comp N2 (Or.inr (Nat.le_refl _))
  have n3 : Nw w (1 + k) H1 (wR H2 w f (hn H1)) := n4.comp (k := 0) Nw.wR (Or.inl rfl)
  refine ⟨n3, (N2.s (show hn H1 < hn (al H1 q) from Nat.lt_succ_self _)).trans hs_al, hR_s, fun j hj => ?_, fun j => by rw [hR_o (by omega)], fun a ha => hR_o ha⟩
  rw [hR_k hj, N2.r (show w < hn H1 + 1 by omega) (by omega), (ag_al (by omega)).2.2.1]
theorem i_world {l : Launch} (hst : l.stackTraces = false) {Q : Option Value → Hp → Prop} {X : String → Hp → Prop} {H : Hp} {w : Nat} (h0 : hn H = w + 1) (w0 : 0 < w) (sw : hs H w = (8, 10)) (q : ∀ H', Nw w 79 H H' → Sp H' w → Q none H') : CX7_init l [.ref w] H Q X := by
  refine eX7_init hst (Nat.le_of_ble_eq_true rfl) (fun K hK5 hK8 hK1 => ?_)
  have hw : w < hn H := by omega
  refine na_of (n := 8) rfl (by decide) (by decide) (by decide) ?_
  refine pR_of ((ag_al (show w ≠ hn H by omega)).1.trans sw) (by omega) ?_
  obtain ⟨a1, a2, a3, a4, a5, a6⟩ := st_w (f := 0) (q := (33, 8)) hw (Nw.rf (o := hn H) (H := al H (33, 8)))
  generalize hA : wR (al H (33, 8)) w 0 (hn H) = A1 at a1 a2 a3 a4 a5 a6 ⊢
  have hn1 : hn A1 = w + 2 := by have := a1.1; omega
  refine na_of (n := 4) rfl (by decide) (by decide) (by decide) ?_
  refine pR_of ((ag_al (show w ≠ hn A1 by omega)).1.trans ((a1.s hw).trans sw)) (by omega) ?_
  obtain ⟨b1, b2, b3, b4, b5, b6⟩ := st_w (w := w) (f := 2) (q := (32, 4)) (show w < hn A1 by omega) (Nw.rf (o := hn A1) (H := al A1 (32, 4)))
  generalize hB : wR (al A1 (32, 4)) w 2 (hn A1) = A2 at b1 b2 b3 b4 b5 b6 ⊢
  have hn2 : hn A2 = w + 3 := by have := b1.1; omega
  refine na_of (n := 12) rfl (by decide) (by decide) (by decide) ?_
  refine pR_of ((ag_al (show w ≠ hn A2 by omega)).1.trans ((b1.s (by omega)).trans ((a1.s hw).trans sw))) (by omega) ?_
  obtain ⟨c1, c2, c3, c4, c5, c6⟩ := st_w (w := w) (f := 4) (q := (36, 12)) (show w < hn A2 by omega) (Nw.rf (o := hn A2) (H := al A2 (36, 12)))
  generalize hC : wR (al A2 (36, 12)) w 4 (hn A2) = A3 at c1 c2 c3 c4 c5 c6 ⊢
  have hn3 : hn A3 = w + 4 := by have := c1.1; omega
  have sw3 : hs A3 w = (8, 10) := (c1.s (by omega)).trans ((b1.s (by omega)).trans ((a1.s hw).trans sw))
  refine i_new (by decide) (by decide) ?_
  refine ⟨rfl, Nat.le_of_ble_eq_true rfl, by decide, by decide, ?_⟩
  refine i_list hst (show hn A3 < hn A3 + 1 from Nat.lt_succ_self _) hs_al (fun B2 NB t1 t2 t3 => ?_)
  have e3 : hn (al A3 (1 + 1, 2)) = w + 5 := by show hn A3 + 1 = _; omega
  refine pR_of ((NB.s (show w < hn A3 + 1 by omega)).trans ((ag_al (show w ≠ hn A3 by omega)).1.trans sw3)) (by omega) ?_
  obtain ⟨d1, d2, d3, d4, d5, d6⟩ := st_w (w := w) (f := 7) (q := (2, 2)) (show w < hn A3 by omega) NB
  have lB : LtC (wR B2 w 7 (hn A3)) (w + 4) := by
    rw [e3] at t1 t2 t3
    rw [hn3] at t1 ⊢
    refine ⟨by rw [hR_o (by omega)]; exact t1, t2, fun i hi => ?_⟩
    rw [hR_o (by omega)]
    exact t3 i hi
  generalize hD9 : wR B2 w 7 (hn A3) = B3 at d1 d2 d3 d4 d5 d6 lB ⊢
  have hn4 : hn B3 = w + 18 := by have := d1.1; omega
  have sw4 : hs B3 w = (8, 10) := (d1.s (by omega)).trans sw3
  refine i_new (by decide) (by decide) ?_
  refine ⟨rfl, Nat.le_of_ble_eq_true rfl, by decide, by decide, ?_⟩
  refine i_list hst (show hn B3 < hn B3 + 1 from Nat.lt_succ_self _) hs_al (fun C2 NC y1 y2 y3 => ?_)
  have e4 : hn (al B3 (1 + 1, 2)) = w + 19 := by show hn B3 + 1 = _; omega
  refine pR_of ((NC.s (show w < hn B3 + 1 by omega)).trans ((ag_al (show w ≠ hn B3 by omega)).1.trans sw4)) (by omega) ?_
  obtain ⟨f1, f2, f3, f4, f5, f6⟩ := st_w (w := w) (f := 8) (q := (2, 2)) (show w < hn B3 by omega) NC
  have lC : LtC (wR C2 w 8 (hn B3)) (w + 18) := by
    rw [e4] at y1 y2 y3
    rw [hn4] at y1 ⊢
    refine ⟨by rw [hR_o (by omega)]; exact y1, y2, fun i hi => ?_⟩
    rw [hR_o (by omega)]
    exact y3 i hi
  generalize hF9 : wR C2 w 8 (hn B3) = C3 at f1 f2 f3 f4 f5 f6 lC ⊢
  have M0 : Wm H C3 w 0 0 0 := by
    have n0 : Nw w 31 H C3 := by
      have := (((a1.comp b1 (Or.inl rfl)).comp c1 (Or.inl rfl)).comp d1 (Or.inl rfl)).comp f1 (Or.inl rfl)
      exact this
    refine ⟨n0, ⟨?_, ?_⟩, ⟨?_, ?_⟩, ⟨?_, ?_⟩, ⟨?_, ?_, lB.nw f1 (by omega) (by omega) (by omega)⟩, ⟨?_, ?_, lC⟩, fun i hi => absurd hi (Nat.not_lt_zero i), fun i hi => absurd hi (Nat.not_lt_zero i), fun i hi => absurd hi (Nat.not_lt_zero i)⟩
    · rw [f4 0 (by decide), d4 0 (by decide), c4 0 (by decide), b4 0 (by decide), a3, h0]
    · rw [← h0]; exact (f1.s (by omega)).trans ((d1.s (by omega)).trans ((c1.s (by omega)).trans ((b1.s (by omega)).trans a2)))
    · rw [f4 2 (by decide), d4 2 (by decide), c4 2 (by decide), b3, hn1]
    · rw [← hn1]; exact (f1.s (by omega)).trans ((d1.s (by omega)).trans ((c1.s (by omega)).trans b2))
    · rw [f4 4 (by decide), d4 4 (by decide), c3, hn2]
    · rw [← hn2]; exact (f1.s (by omega)).trans ((d1.s (by omega)).trans c2)
    · rw [f4 7 (by decide), d3, hn3]
    · rw [← hn3]; exact (f1.s (by omega)).trans d2
    · rw [f3, hn4]
    · rw [← hn4]; exact f2
  have swC : ∀ {np nk nq : Nat} {H1 : Hp}, Wm H H1 w np nk nq → hs H1 w = (8, 10) := fun M => (M.1.s hw).trans sw
  have loop3 : ∀ (n i : Nat) (H1 : Hp), i + n = 12 → Wm H H1 w 8 4 i → K 107 [(1, .int (nI i)), (0, .ref w)] [] H1 (67 + i, 368 + 5 * i) := by
    intro n
    induction n with
    | zero =>
      intro i H1 hi M
      have : i = 12 := by omega
      subst this
      refine hK1 _ _ _ _ ?_
      refine And.intro (fun hc => ?_) (fun hc => ?_)
      · repeat (refine And.intro (by first | assumption | rfl | exact Nat.le_of_ble_eq_true rfl | exact Nat.zero_le _ | decide) ?_)
        exact q H1 M.1 (M.sp w0 (swC M))
      · exact absurd (show nI 12 ≤ nI 12 from Int32.le_refl _) hc
    | succ n ih =>
      intro i H1 hi M
      refine hK1 _ _ _ _ ?_
      refine And.intro (fun hc => ?_) (fun hc => ?_)
      · exact absurd (show nI 12 ≤ nI i from hc) (nI_ge (by omega) (by decide))
      · have h1 := M.1.1
        refine gR_of (swC M) M.2.2.2.1.1 (by omega) ?_
        refine i_new (by show 67 + i + 1 ≤ 79; omega) (by show 368 + 5 * i + 5 ≤ 428; omega) ?_
        refine ⟨rfl, Nat.le_of_ble_eq_true rfl, by show 67 + i + 1 + 0 ≤ 79; omega, by show 368 + 5 * i + 5 + 0 ≤ 428; omega, ?_⟩
        refine i_X6 hst ?_
        refine as_of (v := hn H1) (ci := 6) (M := 5) ((ag_al (show w + 3 ≠ hn H1 by omega)).1.trans M.2.2.2.1.2) rfl (show i < 12 by omega) (by decide) hs_al (by omega) ?_
        have := ih (i + 1) _ (by omega) (M.req h0 (by omega))
        rw [← nI_1 i] at this
        exact this
  have loop2 : ∀ (n i : Nat) (H1 : Hp), i + n = 4 → Wm H H1 w 8 i 0 → K 81 [(1, .int (nI i)), (0, .ref w)] [] H1 (55 + 3 * i, 324 + 11 * i) := by
    intro n
    induction n with
    | zero =>
      intro i H1 hi M
      have : i = 4 := by omega
      subst this
      refine hK8 _ _ _ _ ?_
      refine And.intro (fun hc => ?_) (fun hc => ?_)
      · exact loop3 12 0 H1 rfl M
      · exact absurd (show nI 4 ≤ nI 4 from Int32.le_refl _) hc
    | succ n ih =>
      intro i H1 hi M
      refine hK8 _ _ _ _ ?_
      refine And.intro (fun hc => ?_) (fun hc => ?_)
      · exact absurd (show nI 4 ≤ nI i from hc) (nI_ge (by omega) (by decide))
      · have h1 := M.1.1
        refine gR_of (swC M) M.2.2.1.1 (by omega) ?_
        refine i_new (by show 55 + 3 * i + 1 ≤ 79; omega) (by show 324 + 11 * i + 3 ≤ 428; omega) ?_
        refine ⟨rfl, Nat.le_of_ble_eq_true rfl, by show 55 + 3 * i + 1 + 2 ≤ 79; omega, by show 324 + 11 * i + 3 + 8 ≤ 428; omega, ?_⟩
        refine i_kit hst (show hn H1 < hn H1 + 1 from Nat.lt_succ_self _) hs_al (fun H2 N2 p => ?_)
        refine as_of (v := hn H1) (ci := 2) (M := 3) ((N2.s (show w + 2 < hn H1 + 1 by omega)).trans ((ag_al (show w + 2 ≠ hn H1 by omega)).1.trans M.2.2.1.2)) rfl (show i < 4 by omega) (by decide) ((N2.s (show hn H1 < hn H1 + 1 from Nat.lt_succ_self _)).trans hs_al) (by omega) ?_
        have := ih (i + 1) _ (by omega) (M.kit h0 (by omega) N2 p)
        rw [← nI_1 i] at this
        exact this
  have loop1 : ∀ (n i : Nat) (H1 : Hp), i + n = 8 → Wm H H1 w i 0 0 → K 54 [(1, .int (nI i)), (0, .ref w)] [] H1 (31 + 3 * i, 124 + 25 * i) := by
    intro n
    induction n with
    | zero =>
      intro i H1 hi M
      have : i = 8 := by omega
      subst this
      refine hK5 _ _ _ _ ?_
      refine And.intro (fun hc => ?_) (fun hc => ?_)
      · exact loop2 4 0 H1 rfl M
      · exact absurd (show nI 8 ≤ nI 8 from Int32.le_refl _) hc
    | succ n ih =>
      intro i H1 hi M
      refine hK5 _ _ _ _ ?_
      refine And.intro (fun hc => ?_) (fun hc => ?_)
      · exact absurd (show nI 8 ≤ nI i from hc) (nI_ge (by omega) (by decide))
      · have h1 := M.1.1
        refine gR_of (swC M) M.2.1.1 (by omega) ?_
        refine i_new (by show 31 + 3 * i + 1 ≤ 79; omega) (by show 124 + 25 * i + 13 ≤ 428; omega) ?_
        refine ⟨rfl, Nat.le_of_ble_eq_true rfl, by show 31 + 3 * i + 1 + 2 ≤ 79; omega, by show 124 + 25 * i + 13 + 12 ≤ 428; omega, ?_⟩
        refine i_part hst (show hn H1 < hn H1 + 1 from Nat.lt_succ_self _) hs_al (fun H2 N2 p => ?_)
        refine as_of (v := hn H1) (ci := 3) (M := 13) ((N2.s (show w + 1 < hn H1 + 1 by omega)).trans ((ag_al (show w + 1 ≠ hn H1 by omega)).1.trans M.2.1.2)) rfl (show i < 8 by omega) (by decide) ((N2.s (show hn H1 < hn H1 + 1 from Nat.lt_succ_self _)).trans hs_al) (by omega) ?_
        have := ih (i + 1) _ (by omega) (M.part h0 (by omega) N2 p)
        rw [← nI_1 i] at this
        exact this
  exact loop1 8 0 C3 rfl M0
end J1

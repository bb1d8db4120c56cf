section J2
theorem i_text {l : Launch} (hst : l.stackTraces = false) {Q : Option Value → Hp → Prop} {X : String → Hp → Prop} {H : Hp} {t : Nat} (ht : t < hn H) (st : hs H t = (6, 6)) (q : ∀ H', Nw t 4 H H' → hR H' t 0 = hn H ∧ hR H' t 2 = hn H + 1 ∧ hR H' t 3 = hn H + 2 ∧ hR H' t 4 = hn H + 3 → hs H' (hn H) = (22, 60) ∧ hs H' (hn H + 1) = (20, 20) ∧ hs H' (hn H + 2) = (20, 20) ∧ hs H' (hn H + 3) = (20, 20) → Q none H') : CX5_init l [.ref t] H Q X := by
  refine eX5_init hst (Nat.le_of_ble_eq_true rfl) (fun K => ?_)
  refine na_of (n := 60) rfl (by decide) (by decide) (by decide) ?_
  refine pR_of ((ag_al (show t ≠ hn H by omega)).1.trans st) (by omega) ?_
  obtain ⟨a1, a2, a3, a4, a5, a6⟩ := st_w (f := 0) (q := (22, 60)) ht (Nw.rf (o := hn H) (H := al H (22, 60)))
  generalize hA : wR (al H (22, 60)) t 0 (hn H) = A1 at a1 a2 a3 a4 a5 a6 ⊢
  have hn1 : hn A1 = hn H + 1 := a1.1
  refine na_of (n := 20) rfl (by decide) (by decide) (by decide) ?_
  refine pR_of ((ag_al (show t ≠ hn A1 by omega)).1.trans ((a1.s ht).trans st)) (by omega) ?_
  obtain ⟨b1, b2, b3, b4, b5, b6⟩ := st_w (w := t) (f := 2) (q := (20, 20)) (show t < hn A1 by omega) (Nw.rf (o := hn A1) (H := al A1 (20, 20)))
  generalize hB : wR (al A1 (20, 20)) t 2 (hn A1) = A2 at b1 b2 b3 b4 b5 b6 ⊢
  have hn2 : hn A2 = hn H + 2 := by have := b1.1; omega
  refine na_of (n := 20) rfl (by decide) (by decide) (by decide) ?_
  refine pR_of ((ag_al (show t ≠ hn A2 by omega)).1.trans ((b1.s (by omega)).trans ((a1.s ht).trans st))) (by omega) ?_
  obtain ⟨c1, c2, c3, c4, c5, c6⟩ := st_w (w := t) (f := 3) (q := (20, 20)) (show t < hn A2 by omega) (Nw.rf (o := hn A2) (H := al A2 (20, 20)))
  generalize hC : wR (al A2 (20, 20)) t 3 (hn A2) = A3 at c1 c2 c3 c4 c5 c6 ⊢
  have hn3 : hn A3 = hn H + 3 := by have := c1.1; omega
  refine na_of (n := 20) rfl (by decide) (by decide) (by decide) ?_
  refine pR_of ((ag_al (show t ≠ hn A3 by omega)).1.trans ((c1.s (by omega)).trans ((b1.s (by omega)).trans ((a1.s ht).trans st)))) (by omega) ?_
  obtain ⟨d1, d2, d3, d4, d5, d6⟩ := st_w (w := t) (f := 4) (q := (20, 20)) (show t < hn A3 by omega) (Nw.rf (o := hn A3) (H := al A3 (20, 20)))
  generalize hD9 : wR (al A3 (20, 20)) t 4 (hn A3) = A4 at d1 d2 d3 d4 d5 d6 ⊢
  repeat (refine And.intro (by first | assumption | rfl | exact Nat.le_of_ble_eq_true rfl | exact Nat.zero_le _ | decide) ?_)
  refine q A4 (((a1.comp b1 (Or.inl rfl)).comp c1 (Or.inl rfl)).comp d1 (Or.inl rfl)) ⟨?_, ?_, ?_, ?_⟩ ⟨?_, ?_, ?_, ?_⟩
  · rw [d4 0 (by decide), c4 0 (by decide), b4 0 (by decide), a3]
  · rw [d4 2 (by decide), c4 2 (by decide), b3, hn1]
  · rw [d4 3 (by decide), c3, hn2]
  · rw [d3, hn3]
  · exact (d1.s (by omega)).trans ((c1.s (by omega)).trans ((b1.s (by omega)).trans a2))
  · rw [← hn1]; exact (d1.s (by omega)).trans ((c1.s (by omega)).trans b2)
  · rw [← hn2]; exact (d1.s (by omega)).trans c2
  · rw [← hn3]; exact d2
theorem Sp.nw {H H' : Hp} {w o m : Nat} (s : Sp H w) (n : Nw o m H H') (h : w + 80 ≤ hn H) (ho : o < w ∨ w + 80 ≤ o) : Sp H' w := s.same (fun b h1 h2 => ⟨n.s (by omega), n.r (by omega) (by omega), (n.2.1 b (by omega)).2.1⟩)
theorem Kp.z {H : Hp} {w : Nat} {B : Int} (s : Sp H w) (z : ∀ a, w ≤ a → a < w + 80 → hI H a = fun _ => 0) (hB : 24975 ≤ B) (hB2 : B ≤ 16000000) : Kp H w (fun _ => 0) B := by
  obtain ⟨σ, S⟩ := s
  have g := GI.zero hB hB2
  refine ⟨σ, 0, 0, 0, 0, 0, ⟨g.wf, ⟨Fr.rfl' _ _, S, S.rho, fun j hj hv => ?_⟩, fun e he => nomatch he⟩, g⟩
  have r := loc_rng S.rho hj
  rw [z _ r.1 r.2]
  rfl
/-- the planner while it is made -/
def Pm (H0 H : Hp) (x nh ns : Nat) : Prop := hn H = x + 248 + 80 * nh + ns ∧ (∀ a, a < x → ag H0 H a) ∧ hs H x = (9, 14) ∧ (hR H x 0 = x + 1 ∧ hR H x 1 = x + 81 ∧ hR H x 2 = x + 161 ∧ hR H x 4 = x + 241 ∧ hR H x 7 = x + 242 ∧ hR H x 13 = x + 247) ∧ (hs H (x + 241) = (37, 8) ∧ hs H (x + 242) = (6, 6) ∧ hs H (x + 243) = (22, 60) ∧ hs H (x + 244) = (20, 20) ∧ hs H (x + 245) = (20, 20) ∧ hs H (x + 246) = (20, 20) ∧ hs H (x + 247) = (34, 6)) ∧ (hR H (x + 242) 0 = x + 243 ∧ hR H (x + 242) 2 = x + 244 ∧ hR H (x + 242) 3 = x + 245 ∧ hR H (x + 242) 4 = x + 246) ∧ (Sp H (x + 1) ∧ Sp H (x + 81) ∧ Sp H (x + 161)) ∧ (∀ k, k < nh → hR H (x + 241) k = x + 248 + 80 * k ∧ Sp H (x + 248 + 80 * k)) ∧ (∀ i, i < ns → hR H (x + 247) i = x + 888 + i ∧ hs H (x + 888 + i) = (5, 5)) ∧ (∀ a, x < a → a < hn H → hI H a = fun _ => 0) ∧ (hI H x 3 = 0 ∧ hI H x 5 = 0 ∧ hI H x 6 = 0 ∧ hI H x 8 = -1 ∧ hI H x 9 = -1 ∧ hI H x 10 = 0 ∧ hI H x 11 = 0 ∧ hI H x 12 = 0)
def F0i : Nat → Int32 := fun k => if k = 18 ∨ k = 19 then -1 else 0
theorem Pm.cr {H0 H : Hp} {x : Nat} (M : Pm H0 H x 8 6) (x0 : 0 < x) {hi : Nat → Nat → Int32} {sv : Nat → Int32} {sm : Nat → Nat → Int32} {tx : Nat → Int32} : CR H x (fun _ => 0) F0i hi sv sm (fun _ => 0) tx 24975 := by
  obtain ⟨m1, m2, m3, ⟨r0, r1, r2, r4, r7, r13⟩, ⟨s1, s2, s3, s4, s5, s6, s7⟩, ⟨t0, t2, t3, t4⟩, ⟨w1, w2, w3⟩, Hh, Sm9, Z, ⟨z3, z5, z6, z8, z9, z10, z11, z12⟩⟩ := M
  refine ⟨⟨x0, m3, r0, r1, r2, ⟨r4, s1, fun k hk => (Hh k hk).1⟩, ⟨r7, s2⟩, ⟨t0, s3⟩, ⟨t2, s4⟩, ⟨t3, s5⟩, ⟨t4, s6⟩, ⟨r13, s7⟩, Sm9⟩, ⟨Kp.z w1 (fun a h1 h2 => Z a (by omega) (by omega)) (by decide) (by decide), w2⟩, ⟨w3, z3, Or.inl rfl, fun z => absurd z (by decide)⟩, ⟨0, 0, by decide, by decide, z5, z6, rfl, fun k hk => (Hh k hk).2, fun k hk => absurd hk (Nat.not_lt_zero k)⟩, ⟨z8, z9, z10, z11, z12, Or.inl rfl, Or.inl rfl⟩, ⟨0, by decide, rfl, by rw [Z _ (by omega) (by omega)]; rfl, fun k hk => absurd hk (Nat.not_lt_zero k)⟩, fun i hi => ⟨Or.inl rfl, by rw [Z _ (by omega) (by omega)], fun z => absurd (show (0 : Int32) = 1 from z) (by decide)⟩⟩
theorem Pm.world {H0 H1 H2 : Hp} {x nh : Nat} (M : Pm H0 H1 x nh 0) (hp : nh < 8) (N2 : Nw (hn H1) 79 (al H1 (8, 10)) H2) (s : Sp H2 (hn H1)) : Pm H0 (wR H2 (x + 241) nh (hn H1)) x (nh + 1) 0 := by
  obtain ⟨m1, m2, m3, ⟨r0, r1, r2, r4, r7, r13⟩, ⟨s1, s2, s3, s4, s5, s6, s7⟩, ⟨t0, t2, t3, t4⟩, ⟨w1, w2, w3⟩, Hh, Sm9, Z, zz⟩ := M
  have n4 : Nw (x + 241) (1 + 79) H1 H2 := (Nw.al (o := x + 241) (q := (8, 10))).comp N2 (Or.inr (Nat.le_refl _))
  have n3 : Nw (x + 241) (1 + 79) H1 (wR H2 (x + 241) nh (hn H1)) := n4.comp (k := 0) Nw.wR (Or.inl rfl)
  have hn' : hn (wR H2 (x + 241) nh (hn H1)) = hn H1 + 80 := n3.1
  have rr : ∀ a, a < hn H1 → a ≠ x + 241 → hR (wR H2 (x + 241) nh (hn H1)) a = hR H1 a := fun a h1 h2 => n3.r h1 h2
  have s0 : hn (al H1 (8, 10)) = hn H1 + 1 := rfl
  refine ⟨by rw [hn']; omega, fun a ha => ?_, (n3.s (by omega)).trans m3, ⟨by rw [rr _ (by omega) (by omega)]; exact r0, by rw [rr _ (by omega) (by omega)]; exact r1, by rw [rr _ (by omega) (by omega)]; exact r2, by rw [rr _ (by omega) (by omega)]; exact r4, by rw [rr _ (by omega) (by omega)]; exact r7, by rw [rr _ (by omega) (by omega)]; exact r13⟩, ⟨(n3.s (by omega)).trans s1, (n3.s (by omega)).trans s2, (n3.s (by omega)).trans s3, (n3.s (by omega)).trans s4, (n3.s (by omega)).trans s5, (n3.s (by omega)).trans s6, (n3.s (by omega)).trans s7⟩, ⟨by rw [rr _ (by omega) (by omega)]; exact t0, by rw [rr _ (by omega) (by omega)]; exact t2, by rw [rr _ (by omega) (by omega)]; exact t3, by rw [rr _ (by omega) (by omega)]; exact t4⟩, ⟨w1.nw n3 (by omega) (by omega), w2.nw n3 (by omega) (by omega), w3.nw n3 (by omega) (by omega)⟩, fun k hk => ?_, fun i hi => absurd hi (Nat.not_lt_zero i), fun a h1 h2 => ?_, ?_⟩
  · obtain ⟨g1, g2, g3, g4, g5⟩ := m2 a ha
    obtain ⟨c1, c2, c3, c4, c5⟩ := n3.2.1 a (by omega)
    exact ⟨c1.trans g1, c2.trans g2, (c5 (by omega)).trans g3, c3.trans g4, c4.trans g5⟩
  · by_cases z : k = nh
    · subst z
      refine ⟨by rw [hR_s, m1]; omega, ?_⟩
      have e : x + 248 + 80 * k = hn H1 := by omega
      rw [e]
      exact s.same (fun b h1 h2 => ⟨rfl, hR_o (by omega), rfl⟩)
    · obtain ⟨g1, g2⟩ := Hh k (by omega)
      refine ⟨?_, g2.nw n3 (by omega) (by omega)⟩
      rw [hR_k z, N2.r (show x + 241 < hn H1 + 1 by omega) (by omega), (ag_al (by omega)).2.2.1]
      exact g1
  · by_cases z : a < hn H1
    · exact ((n3.2.1 a z).2.1).trans (Z a h1 z)
    · exact n3.2.2 a (by omega) (by omega)
  · have e := (n3.2.1 x (by omega)).2.1
    rw [e]
    exact zz
theorem Pm.smp {H0 H1 : Hp} {x ns : Nat} (M : Pm H0 H1 x 8 ns) (hp : ns < 6) : Pm H0 (wR (al H1 (5, 5)) (x + 247) ns (hn H1)) x 8 (ns + 1) := by
  obtain ⟨m1, m2, m3, ⟨r0, r1, r2, r4, r7, r13⟩, ⟨s1, s2, s3, s4, s5, s6, s7⟩, ⟨t0, t2, t3, t4⟩, ⟨w1, w2, w3⟩, Hh, Sm9, Z, zz⟩ := M
  have n3 : Nw (x + 247) 1 H1 (wR (al H1 (5, 5)) (x + 247) ns (hn H1)) := (Nw.al (o := x + 247) (q := (5, 5))).comp (k := 0) Nw.wR (Or.inl rfl)
  have hn' : hn (wR (al H1 (5, 5)) (x + 247) ns (hn H1)) = hn H1 + 1 := n3.1
  have rr : ∀ a, a < hn H1 → a ≠ x + 247 → hR (wR (al H1 (5, 5)) (x + 247) ns (hn H1)) a = hR H1 a := fun a h1 h2 => n3.r h1 h2
  refine ⟨by rw [hn']; omega, fun a ha => ?_, (n3.s (by omega)).trans m3, ⟨by rw [rr _ (by omega) (by omega)]; exact r0, by rw [rr _ (by omega) (by omega)]; exact r1, by rw [rr _ (by omega) (by omega)]; exact r2, by rw [rr _ (by omega) (by omega)]; exact r4, by rw [rr _ (by omega) (by omega)]; exact r7, by rw [rr _ (by omega) (by omega)]; exact r13⟩, ⟨(n3.s (by omega)).trans s1, (n3.s (by omega)).trans s2, (n3.s (by omega)).trans s3, (n3.s (by omega)).trans s4, (n3.s (by omega)).trans s5, (n3.s (by omega)).trans s6, (n3.s (by omega)).trans s7⟩, ⟨by rw [rr _ (by omega) (by omega)]; exact t0, by rw [rr _ (by omega) (by omega)]; exact t2, by rw [rr _ (by omega) (by omega)]; exact t3, by rw [rr _ (by omega) (by omega)]; exact t4⟩, ⟨w1.nw n3 (by omega) (by omega), w2.nw n3 (by omega) (by omega), w3.nw n3 (by omega) (by omega)⟩, fun k hk => ?_, fun i hi => ?_, fun a h1 h2 => ?_, ?_⟩
  · obtain ⟨g1, g2, g3, g4, g5⟩ := m2 a ha
    obtain ⟨c1, c2, c3, c4, c5⟩ := n3.2.1 a (by omega)
    exact ⟨c1.trans g1, c2.trans g2, (c5 (by omega)).trans g3, c3.trans g4, c4.trans g5⟩
  · obtain ⟨g1, g2⟩ := Hh k hk
    exact ⟨by rw [rr _ (by omega) (by omega)]; exact g1, g2.nw n3 (by omega) (by omega)⟩
  · by_cases z : i = ns
    · subst z
      have e : x + 888 + i = hn H1 := by omega
      exact ⟨by rw [hR_s]; omega, by rw [e]; exact hs_al⟩
    · obtain ⟨g1, g2⟩ := Sm9 i (by omega)
      refine ⟨?_, (n3.s (by omega)).trans g2⟩
      rw [hR_k z, (ag_al (show x + 247 ≠ hn H1 by omega)).2.2.1]
      exact g1
  · by_cases z : a < hn H1
    · exact ((n3.2.1 a z).2.1).trans (Z a h1 z)
    · exact n3.2.2 a (by omega) (by omega)
  · have e := (n3.2.1 x (by omega)).2.1
    rw [e]
    exact zz
end J2

section J3
/-- one more thing that x refers to at place f -/
def St (w f : Nat) (q : Nat × Nat) (k : Nat) (H1 P : Hp) : Prop := Nw w (1 + k) H1 P ∧ hs P (hn H1) = q ∧ hR P w f = hn H1 ∧ ∀ j, j ≠ f → hR P w j = hR H1 w j
theorem st_of {H1 H2 : Hp} {w k f : Nat} {q : Nat × Nat} (hw : w < hn H1) (N2 : Nw (hn H1) k (al H1 q) H2) : St w f q k H1 (wR H2 w f (hn H1)) := by
  obtain ⟨a1, a2, a3, a4, -, -⟩ := st_w (f := f) hw N2
  exact ⟨a1, a2, a3, a4⟩
def TxW (E : Hp) (t b : Nat) : Prop := (hR E t 0 = b ∧ hR E t 2 = b + 1 ∧ hR E t 3 = b + 2 ∧ hR E t 4 = b + 3) ∧ (hs E b = (22, 60) ∧ hs E (b + 1) = (20, 20) ∧ hs E (b + 2) = (20, 20) ∧ hs E (b + 3) = (20, 20))
/-- the planner with its text made -/
def Pe (H E : Hp) (x : Nat) : Prop := Nw x 246 H E ∧ hs E x = (9, 14) ∧ (hR E x 0 = x + 1 ∧ hR E x 1 = x + 81 ∧ hR E x 2 = x + 161 ∧ hR E x 4 = x + 241 ∧ hR E x 7 = x + 242) ∧ (hs E (x + 241) = (37, 8) ∧ hs E (x + 242) = (6, 6)) ∧ (hR E (x + 242) 0 = x + 243 ∧ hR E (x + 242) 2 = x + 243 + 1 ∧ hR E (x + 242) 3 = x + 243 + 2 ∧ hR E (x + 242) 4 = x + 243 + 3) ∧ (hs E (x + 243) = (22, 60) ∧ hs E (x + 243 + 1) = (20, 20) ∧ hs E (x + 243 + 2) = (20, 20) ∧ hs E (x + 243 + 3) = (20, 20)) ∧ Sp E (x + 1) ∧ Sp E (x + 81) ∧ Sp E (x + 161)
theorem Pe.base {H E : Hp} {x : Nat} (h0 : hn H = x + 1) (zx : hI H x = fun _ => 0) (P9 : Pe H E x) : Pm H (wR (al (wI (wI (wI E x 8 (-1)) x 9 (-1)) x 10 0) (34, 6)) x 13 (hn E)) x 0 0 := by
  have nE := P9.1
  have hx : x < hn H := by omega
  have n5 : hn E = x + 247 := by have := nE.1; omega
  have zE : hI E x = fun _ => 0 := ((nE.2.1 x hx).2.1).trans zx
  generalize hG : wI (wI (wI E x 8 (-1)) x 9 (-1)) x 10 0 = G
  have gn : hn G = x + 247 := by rw [← hG]; exact n5
  have gs : hs G = hs E := by rw [← hG]; rfl
  have gr : hR G = hR E := by rw [← hG]; rfl
  have gl : ∀ a, hL G a = hL E a ∧ hD G a = hD E a := fun a => by rw [← hG]; exact ⟨rfl, rfl⟩
  have gi : ∀ a, a ≠ x → hI G a = hI E a := fun a ha => by rw [← hG, hI_wI_o ha, hI_wI_o ha, hI_wI_o ha]
  have gx : ∀ k, hI G x k = if k = 8 ∨ k = 9 then -1 else 0 := fun k => by
    rw [← hG]
    by_cases z10 : k = 10
    · subst z10; rw [hI_wI_s]; rfl
    · rw [hI_wI_k z10]
      by_cases z9 : k = 9
      · subst z9; rw [hI_wI_s]; rfl
      · rw [hI_wI_k z9]
        by_cases z8 : k = 8
        · subst z8; rw [hI_wI_s]; rfl
        · rw [hI_wI_k z8, zE, if_neg (by omega)]
  have f : St x 13 (34, 6) 0 G (wR (al G (34, 6)) x 13 (hn G)) := st_of (by omega) (Nw.rf (o := hn G) (H := al G (34, 6)))
  have ge : hn E = hn G := by omega
  rw [ge]
  generalize hP : wR (al G (34, 6)) x 13 (hn G) = P at f ⊢
  have pn : hn P = x + 248 := by have := f.1.1; omega
  have fs : ∀ a, a < x + 247 → hs P a = hs E a := fun a ha => by rw [f.1.s (by omega), gs]
  have fr : ∀ a, a < x + 247 → a ≠ x → hR P a = hR E a := fun a ha ne => by rw [f.1.r (by omega) ne, gr]
  have frx : ∀ j, j ≠ 13 → hR P x j = hR E x j := fun j hj => by rw [f.2.2.2 j hj, gr]
  have smE : ∀ w, x < w → w + 80 ≤ x + 247 → Sp E w → Sp P w := fun w h1 h2 s => s.same (fun b h3 h4 => ⟨fs b (by omega), fr b (by omega) (by omega), by rw [(f.1.2.1 b (by omega)).2.1, gi b (by omega)]⟩)
  refine ⟨pn, fun a ha => ?_, (fs x (by omega)).trans P9.2.1, ⟨?_, ?_, ?_, ?_, ?_, ?_⟩, ⟨?_, ?_, ?_, ?_, ?_, ?_, ?_⟩, ⟨?_, ?_, ?_, ?_⟩, ⟨smE _ (by omega) (by omega) P9.2.2.2.2.2.2.1, smE _ (by omega) (by omega) P9.2.2.2.2.2.2.2.1, smE _ (by omega) (by omega) P9.2.2.2.2.2.2.2.2⟩, fun k hk => absurd hk (Nat.not_lt_zero k), fun i hi => absurd hi (Nat.not_lt_zero i), fun a h1 h2 => ?_, ?_⟩
  · obtain ⟨g1, g2, g3, g4, g5⟩ := nE.2.1 a (by omega)
    obtain ⟨y1, y2, y3, y4, y5⟩ := f.1.2.1 a (by omega)
    exact ⟨(fs a (by omega)).trans g1, by rw [y2, gi a (by omega)]; exact g2, (fr a (by omega) (by omega)).trans (g5 (by omega)), by rw [y3, (gl a).1]; exact g3, by rw [y4, (gl a).2]; exact g4⟩
  · rw [frx 0 (by decide)]; exact P9.2.2.1.1
  · rw [frx 1 (by decide)]; exact P9.2.2.1.2.1
  · rw [frx 2 (by decide)]; exact P9.2.2.1.2.2.1
  · rw [frx 4 (by decide)]; exact P9.2.2.1.2.2.2.1
  · rw [frx 7 (by decide)]; exact P9.2.2.1.2.2.2.2
  · rw [f.2.2.1, gn]
  · rw [fs _ (by omega)]; exact P9.2.2.2.1.1
  · rw [fs _ (by omega)]; exact P9.2.2.2.1.2
  · rw [fs _ (by omega)]; exact P9.2.2.2.2.2.1.1
  · rw [fs _ (by omega)]; exact P9.2.2.2.2.2.1.2.1
  · rw [fs _ (by omega)]; exact P9.2.2.2.2.2.1.2.2.1
  · rw [fs _ (by omega)]; exact P9.2.2.2.2.2.1.2.2.2
  · rw [← gn]; exact f.2.1
  · rw [fr _ (by omega) (by omega)]; exact P9.2.2.2.2.1.1
  · rw [fr _ (by omega) (by omega)]; exact P9.2.2.2.2.1.2.1
  · rw [fr _ (by omega) (by omega)]; exact P9.2.2.2.2.1.2.2.1
  · rw [fr _ (by omega) (by omega)]; exact P9.2.2.2.2.1.2.2.2
  · by_cases z : a < x + 247
    · rw [(f.1.2.1 a (by omega)).2.1, gi a (by omega)]
      exact nE.2.2 a (by omega) (by omega)
    · exact f.1.2.2 a (by omega) (by omega)
  · rw [(f.1.2.1 x (by omega)).2.1, gx, gx, gx, gx, gx, gx, gx, gx]
    decide
theorem i_loops {l : Launch} (hst : l.stackTraces = false) {Q : Option Value → Hp → Prop} {X : String → Hp → Prop} {H P : Hp} {x : Nat} (x0 : 0 < x) {K : Nat → FT} (hK83 : ∀ L S h9 u, fX8_init_83 l Q X K L S h9 u → K 83 L S h9 u) (hK110 : ∀ L S h9 u, fX8_init_110 l Q X K L S h9 u → K 110 L S h9 u) (base : Pm H P x 0 0) (q : ∀ H', Pm H H' x 8 6 → Q none H') : K 83 [(1, .int (nI 0)), (0, .ref x)] [] P (247, 1454) := by
  have loop2 : ∀ (n i : Nat) (H1 : Hp), i + n = 6 → Pm H H1 x 8 i → K 110 [(1, .int (nI i)), (0, .ref x)] [] H1 (887 + i, 4958 + 5 * i) := by
    intro n
    induction n with
    | zero =>
      intro i H1 hi M
      have : i = 6 := by omega
      subst this
      refine hK110 _ _ _ _ ?_
      refine And.intro (fun hc => ?_) (fun hc => ?_)
      · repeat (refine And.intro (by first | assumption | rfl | exact Nat.le_of_ble_eq_true rfl | exact Nat.zero_le _ | decide) ?_)
        exact q H1 M
      · exact absurd (show nI 6 ≤ nI 6 from Int32.le_refl _) hc
    | succ n ih =>
      intro i H1 hi M
      refine hK110 _ _ _ _ ?_
      refine And.intro (fun hc => ?_) (fun hc => ?_)
      · exact absurd (show nI 6 ≤ nI i from hc) (nI_ge (by omega) (by decide))
      · have h1 := M.1
        refine gR_of M.2.2.1 M.2.2.2.1.2.2.2.2.2 (by omega) ?_
        refine i_new (by show 887 + i + 1 ≤ 893; omega) (by show 4958 + 5 * i + 5 ≤ 4988; omega) ?_
        refine ⟨rfl, Nat.le_of_ble_eq_true rfl, by show 887 + i + 1 + 0 ≤ 893; omega, by show 4958 + 5 * i + 5 + 0 ≤ 4988; omega, ?_⟩
        refine i_X4 hst ?_
        refine as_of (v := hn H1) (ci := 4) (M := 5) ((ag_al (show x + 247 ≠ hn H1 by omega)).1.trans M.2.2.2.2.1.2.2.2.2.2.2) rfl (show i < 6 by omega) (by decide) hs_al (by omega) ?_
        have := ih (i + 1) _ (by omega) (M.smp (by omega))
        rw [← nI_1 i] at this
        exact this
  have loop1 : ∀ (n i : Nat) (H1 : Hp), i + n = 8 → Pm H H1 x i 0 → K 83 [(1, .int (nI i)), (0, .ref x)] [] H1 (247 + 80 * i, 1454 + 438 * i) := by
    intro n
    induction n with
    | zero =>
      intro i H1 hi M
      have : i = 8 := by omega
      subst this
      refine hK83 _ _ _ _ ?_
      refine And.intro (fun hc => ?_) (fun hc => ?_)
      · exact loop2 6 0 H1 rfl M
      · exact absurd (show nI 8 ≤ nI 8 from Int32.le_refl _) hc
    | succ n ih =>
      intro i H1 hi M
      refine hK83 _ _ _ _ ?_
      refine And.intro (fun hc => ?_) (fun hc => ?_)
      · exact absurd (show nI 8 ≤ nI i from hc) (nI_ge (by omega) (by decide))
      · have h1 := M.1
        refine gR_of M.2.2.1 M.2.2.2.1.2.2.2.1 (by omega) ?_
        refine i_new (by show 247 + 80 * i + 1 ≤ 893; omega) (by show 1454 + 438 * i + 10 ≤ 4988; omega) ?_
        refine ⟨rfl, Nat.le_of_ble_eq_true rfl, by show 247 + 80 * i + 1 + 79 ≤ 893; omega, by show 1454 + 438 * i + 10 + 428 ≤ 4988; omega, ?_⟩
        refine i_world hst (show hn H1 + 1 = hn H1 + 1 from rfl) (by omega) hs_al (fun H2 N2 S2 => ?_)
        refine as_of (v := hn H1) (ci := 7) (M := 10) ((N2.s (show x + 241 < hn H1 + 1 by omega)).trans ((ag_al (show x + 241 ≠ hn H1 by omega)).1.trans M.2.2.2.2.1.1)) rfl (show i < 8 by omega) (by decide) ((N2.s (show hn H1 < hn H1 + 1 from Nat.lt_succ_self _)).trans hs_al) (by omega) ?_
        have := ih (i + 1) _ (by omega) (M.world (by omega) N2 S2)
        rw [← nI_1 i, show 247 + 80 * (i + 1) = 247 + 80 * i + 1 + 79 by omega, show 1454 + 438 * (i + 1) = 1454 + 438 * i + 10 + 428 by omega] at this
        exact this
  exact loop1 8 0 P (Nat.zero_add 8) base
theorem i_planner {l : Launch} (hst : l.stackTraces = false) {Q : Option Value → Hp → Prop} {X : String → Hp → Prop} {H : Hp} {x : Nat} (h0 : hn H = x + 1) (x0 : 0 < x) (sx : hs H x = (9, 14)) (zx : hI H x = fun _ => 0) (q : ∀ H', Pm H H' x 8 6 → Q none H') : CX8_init l [.ref x] H Q X := by
  refine eX8_init hst (Nat.le_of_ble_eq_true rfl) (fun K hK83 hK110 => ?_)
  have hx : x < hn H := by omega
  -- three worlds
  refine i_new (by decide) (by decide) ?_
  refine ⟨rfl, Nat.le_of_ble_eq_true rfl, by decide, by decide, ?_⟩
  refine i_world hst (show hn H + 1 = hn H + 1 from rfl) (by omega) hs_al (fun A2 NA SA => ?_)
  refine pR_of ((NA.s (show x < hn H + 1 by omega)).trans ((ag_al (show x ≠ hn H by omega)).1.trans sx)) (by omega) ?_
  have a := st_of (w := x) (f := 0) (q := (8, 10)) hx NA
  have SA' : Sp (wR A2 x 0 (hn H)) (hn H) := SA.same (fun b h1 h2 => ⟨rfl, hR_o (by omega), rfl⟩)
  generalize hA : wR A2 x 0 (hn H) = A at a SA' ⊢
  have n1 : hn A = x + 81 := by have := a.1.1; omega
  refine i_new (by decide) (by decide) ?_
  refine ⟨rfl, Nat.le_of_ble_eq_true rfl, by decide, by decide, ?_⟩
  refine i_world hst (show hn A + 1 = hn A + 1 from rfl) (by omega) hs_al (fun B2 NB SB => ?_)
  have sA : hs A x = (9, 14) := (a.1.s hx).trans sx
  refine pR_of ((NB.s (show x < hn A + 1 by omega)).trans ((ag_al (show x ≠ hn A by omega)).1.trans sA)) (by omega) ?_
  have b := st_of (w := x) (f := 1) (q := (8, 10)) (show x < hn A by omega) NB
  have SB' : Sp (wR B2 x 1 (hn A)) (hn A) := SB.same (fun b h1 h2 => ⟨rfl, hR_o (by omega), rfl⟩)
  generalize hB : wR B2 x 1 (hn A) = B at b SB' ⊢
  have n2 : hn B = x + 161 := by have := b.1.1; omega
  refine i_new (by decide) (by decide) ?_
  refine ⟨rfl, Nat.le_of_ble_eq_true rfl, by decide, by decide, ?_⟩
  refine i_world hst (show hn B + 1 = hn B + 1 from rfl) (by omega) hs_al (fun C2 NC SC => ?_)
  have sB : hs B x = (9, 14) := (b.1.s (by omega)).trans sA
  refine pR_of ((NC.s (show x < hn B + 1 by omega)).trans ((ag_al (show x ≠ hn B by omega)).1.trans sB)) (by omega) ?_
  have c := st_of (w := x) (f := 2) (q := (8, 10)) (show x < hn B by omega) NC
  have SC' : Sp (wR C2 x 2 (hn B)) (hn B) := SC.same (fun b h1 h2 => ⟨rfl, hR_o (by omega), rfl⟩)
  generalize hC : wR C2 x 2 (hn B) = C at c SC' ⊢
  have n3 : hn C = x + 241 := by have := c.1.1; omega
  have sC : hs C x = (9, 14) := (c.1.s (by omega)).trans sB
  -- the history's array
  refine na_of (n := 8) rfl (by decide) (by decide) (by decide) ?_
  refine pR_of ((ag_al (show x ≠ hn C by omega)).1.trans sC) (by omega) ?_
  have d := st_of (w := x) (f := 4) (q := (37, 8)) (show x < hn C by omega) (Nw.rf (o := hn C) (H := al C (37, 8)))
  generalize hD9 : wR (al C (37, 8)) x 4 (hn C) = D at d ⊢
  have n4 : hn D = x + 242 := by have := d.1.1; omega
  have sD : hs D x = (9, 14) := (d.1.s (by omega)).trans sC
  -- the text
  refine i_new (by decide) (by decide) ?_
  refine ⟨rfl, Nat.le_of_ble_eq_true rfl, by decide, by decide, ?_⟩
  refine i_text hst (show hn D < hn D + 1 from Nat.lt_succ_self _) hs_al (fun E2 NE t1 t2 => ?_)
  have hnal : hn (al D (5 + 1, 6)) = x + 243 := by show hn D + 1 = _; omega
  rw [hnal] at t1 t2
  have T : TxW E2 (x + 242) (x + 243) := by
    rw [n4] at t1
    exact ⟨t1, t2⟩
  clear t1 t2
  refine pR_of ((NE.s (show x < hn D + 1 by omega)).trans ((ag_al (show x ≠ hn D by omega)).1.trans sD)) (by omega) ?_
  have e := st_of (w := x) (f := 7) (q := (6, 6)) (show x < hn D by omega) NE
  have T' : TxW (wR E2 x 7 (hn D)) (x + 242) (x + 243) := by
    refine ⟨?_, T.2⟩
    rw [hR_o (by omega)]
    exact T.1
  generalize hE9 : wR E2 x 7 (hn D) = E at e T' ⊢
  have n5 : hn E = x + 247 := by have := e.1.1; omega
  have sE : hs E x = (9, 14) := (e.1.s (by omega)).trans sD
  -- the numbers
  have n246 : Nw x 246 H E := by
    have := ((((a.1.comp b.1 (Or.inl rfl)).comp c.1 (Or.inl rfl)).comp d.1 (Or.inl rfl)).comp e.1 (Or.inl rfl))
    simp only [Nat.reduceAdd] at this
    exact this
  have P9 : Pe H E x := by
    refine ⟨n246, sE, ⟨?_, ?_, ?_, ?_, ?_⟩, ⟨?_, ?_⟩, T'.1, T'.2, ?_, ?_, ?_⟩
    · rw [e.2.2.2 0 (by decide), d.2.2.2 0 (by decide), c.2.2.2 0 (by decide), b.2.2.2 0 (by decide), a.2.2.1, h0]
    · rw [e.2.2.2 1 (by decide), d.2.2.2 1 (by decide), c.2.2.2 1 (by decide), b.2.2.1, n1]
    · rw [e.2.2.2 2 (by decide), d.2.2.2 2 (by decide), c.2.2.1, n2]
    · rw [e.2.2.2 4 (by decide), d.2.2.1, n3]
    · rw [e.2.2.1, n4]
    · rw [← n3]; exact (e.1.s (by omega)).trans d.2.1
    · rw [← n4]; exact e.2.1
    · rw [← h0]
      exact (((SA'.nw b.1 (by omega) (by omega)).nw c.1 (by omega) (by omega)).nw d.1 (by omega) (by omega)).nw e.1 (by omega) (by omega)
    · rw [← n1]
      exact ((SB'.nw c.1 (by omega) (by omega)).nw d.1 (by omega) (by omega)).nw e.1 (by omega) (by omega)
    · rw [← n2]
      exact (SC'.nw d.1 (by omega) (by omega)).nw e.1 (by omega) (by omega)
  refine pI_of sE ?_
  refine pI_of sE ?_
  refine pI_of sE ?_
  refine na_of (n := 6) rfl (by decide) (by decide) (by decide) ?_
  refine pR_of ((ag_al (h := wI (wI (wI E x 8 (-1)) x 9 (-1)) x 10 0) (show x ≠ hn E by omega)).1.trans sE) (by show 0 < hn E; omega) ?_
  exact i_loops hst x0 hK83 hK110 (P9.base h0 zx) q
end J3

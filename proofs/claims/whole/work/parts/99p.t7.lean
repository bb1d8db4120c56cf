section T7
theorem MdS.ofL {h h' : Hp} {m : Nat} (M : MdS h m) (e : ∀ a, m ≤ a → a < m + 23 → hs h' a = hs h a ∧ hR h' a = hR h a) : MdS h' m := by
  unfold MdS
  rw [(e m (by omega) (by omega)).1, (e m (by omega) (by omega)).2, (e (m + 1) (by omega) (by omega)).1]
  exact M
theorem MdL.ofL {h h' : Hp} {m : Nat} (M : MdL h m) (e : ∀ a, m ≤ a → a < m + 23 → hs h' a = hs h a ∧ hR h' a = hR h a) : MdL h' m := by
  obtain ⟨m0, ⟨a1, a2⟩, ⟨b1, b2⟩, ⟨c1, c2⟩, d, ⟨e1, e2⟩, ⟨f1, f2⟩, g, ⟨i1, i2⟩, ⟨j1, j2⟩⟩ := M
  have s : ∀ k, k < 23 → hs h' (m + k) = hs h (m + k) ∧ hR h' (m + k) = hR h (m + k) := fun k hk => e _ (by omega) (by omega)
  have r0 : hR h' m = hR h m := (e m (by omega) (by omega)).2
  refine ⟨m0, ⟨by rw [r0]; exact a1, by rw [(s 2 (by decide)).1]; exact a2⟩, ⟨by rw [r0]; exact b1, by rw [(s 3 (by decide)).1]; exact b2⟩, ⟨by rw [r0]; exact c1, by rw [(s 4 (by decide)).1]; exact c2⟩, fun k hk => ⟨by rw [(s 4 (by decide)).2]; exact (d k hk).1, by rw [(e (m + 5 + k) (by omega) (by omega)).1]; exact (d k hk).2⟩, ⟨by rw [r0]; exact e1, by rw [(s 13 (by decide)).1]; exact e2⟩, ⟨by rw [r0]; exact f1, by rw [(s 14 (by decide)).1]; exact f2⟩, fun k hk => ⟨by rw [(s 14 (by decide)).2]; exact (g k hk).1, by rw [(e (m + 15 + k) (by omega) (by omega)).1]; exact (g k hk).2⟩, ⟨by rw [r0]; exact i1, by rw [(s 21 (by decide)).1]; exact i2⟩, ⟨by rw [r0]; exact j1, by rw [(s 22 (by decide)).1]; exact j2⟩⟩
theorem al2 {h : Hp} {p q : Nat × Nat} {b : Nat} (hb : b < hn h) : ag h (al (al h p) q) b := by
  obtain ⟨a1, a2, a3, a4, a5⟩ := ag_al (h := h) (q := p) (show b ≠ hn h by omega)
  obtain ⟨b1, b2, b3, b4, b5⟩ := ag_al (h := al h p) (q := q) (show b ≠ hn (al h p) by show b ≠ hn h + 1; omega)
  exact ⟨b1.trans a1, b2.trans a2, b3.trans a3, b4.trans a4, b5.trans a5⟩
set_option maxHeartbeats 4000000 in
theorem law_all {l : Launch} (hst : l.stackTraces = false) {sb sL : Nat} {sx : Nat → Int32} (hL : sL ≤ 2560) {K : Nat → FT} (h28 : ∀ Lc S h u, fL_law_28 l sb sL sx K Lc S h u → K 28 Lc S h u) (hend : ∀ (Lc : LV) (h : Hp) (u : Nat × Nat), u.1 ≤ 603072 → u.2 ≤ 7178346 → K 2918 Lc [.int 1] h u) {h0 : Hp} (x0 : 0 < hn h0) : fL_law_0 l sb sL sx K [(0, .ref sb)] [] h0 (0, 0) := by
  refine ⟨Nat.le_of_ble_eq_true rfl, Nat.le_of_ble_eq_true rfl, ?_⟩
  refine ⟨rfl, Nat.le_of_ble_eq_true rfl, Nat.le_of_ble_eq_true rfl, Nat.le_of_ble_eq_true rfl, ?_⟩
  refine i_planner hst (x := hn h0) rfl x0 hs_al hI_al (fun H1 M => ?_)
  have e1 : hn H1 = hn h0 + 894 := by have := M.1; omega
  refine ⟨Nat.le_of_ble_eq_true rfl, Nat.le_of_ble_eq_true rfl, ?_⟩
  refine ⟨rfl, Nat.le_of_ble_eq_true rfl, Nat.le_of_ble_eq_true rfl, Nat.le_of_ble_eq_true rfl, ?_⟩
  refine k_init hst (m := hn H1) rfl (by omega) hs_al hI_al (fun H2 e2 ea MS ML eF eZ => ?_)
  refine na_of (n := 1) rfl (by decide) (Nat.le_of_ble_eq_true rfl) (Nat.le_of_ble_eq_true rfl) ?_
  refine na_of (n := 1) rfl (by decide) (Nat.le_of_ble_eq_true rfl) (Nat.le_of_ble_eq_true rfl) ?_
  have ag2 : ∀ a, a < hn H2 → ag H2 (al (al H2 (23, 1)) (24, 1)) a := fun a ha => al2 ha
  have hlow : ∀ a, a < hn H1 → hs (al (al H2 (23, 1)) (24, 1)) a = hs H1 a ∧ hR (al (al H2 (23, 1)) (24, 1)) a = hR H1 a ∧ hI (al (al H2 (23, 1)) (24, 1)) a = hI H1 a := fun a ha => by
    obtain ⟨a1, a2, a3, -, -⟩ := ag2 a (by omega)
    obtain ⟨b1, b2, b3⟩ := ea a ha
    obtain ⟨c1, c2, c3, -, -⟩ := ag_al (h := H1) (q := (9 + 1, 21)) (show a ≠ hn H1 by omega)
    exact ⟨a1.trans (b1.trans c1), a3.trans (b3.trans c3), a2.trans (b2.trans c2)⟩
  have o1 : hs (al (al H2 (23, 1)) (24, 1)) (hn H2) = (23, 1) := (ag_al (h := al H2 (23, 1)) (q := (24, 1)) (show hn H2 ≠ hn (al H2 (23, 1)) by show hn H2 ≠ hn H2 + 1; omega)).1.trans hs_al
  have o2 : hs (al (al H2 (23, 1)) (24, 1)) (hn H2 + 1) = (24, 1) := hs_al (h := al H2 (23, 1)) (q := (24, 1))
  have eI : ∀ a, a < hn H2 → hI (al (al H2 (23, 1)) (24, 1)) a = hI H2 a := fun a ha => (ag2 a ha).2.1
  have R : RJ (al (al H2 (23, 1)) (24, 1)) (hn h0) (hn H1) (hn H2) (24975 + 19980 * ((0 : Nat) : Int)) (180 * ((0 : Nat) : Int)) := by
    refine ⟨by omega, by omega, ⟨o1, o2⟩, MS.ofL (fun a h1 h2 => ⟨(ag2 a (by omega)).1, (ag2 a (by omega)).2.2.1⟩), ML.ofL (fun a h1 h2 => ⟨(ag2 a (by omega)).1, (ag2 a (by omega)).2.2.1⟩), ?_, ⟨?_, fun z => ?_, fun r k z r8 hk => ?_⟩, by decide⟩
    · have C := (Pm.cr M x0 (hi := fun k => hI (al (al H2 (23, 1)) (24, 1)) (hn H1 + 5 + k)) (sv := hI (al (al H2 (23, 1)) (24, 1)) (hn H1 + 2)) (sm := fun i => hI (al (al H2 (23, 1)) (24, 1)) (hn H1 + 15 + i)) (tx := hI (al (al H2 (23, 1)) (24, 1)) (hn H1 + 22))).same (h' := al (al H2 (23, 1)) (24, 1)) (fun b h1 h2 => hlow b (by omega))
      refine C.congr (fun j _ => ?_) (fun k _ => ?_) (fun _ _ _ _ _ _ _ => rfl) (fun _ _ => rfl) (fun _ _ _ _ => rfl) (fun i _ => ?_) (fun _ _ => rfl)
      · rw [eI _ (by omega), eZ _ (by omega) (by omega)]
      · rw [eI _ (by omega), eF]
      · rw [eI _ (by omega), eZ _ (by omega) (by omega)]
    · rw [eI _ (by omega), eZ _ (by omega) (by omega)]
      intro c hc c8
      have : c = 0 := nIj (hc.symm.trans rfl) (by omega) (by decide)
      subst this
      exact ⟨⟨by decide, by decide⟩, fun p hp => absurd hp (Nat.not_lt_zero p), by decide⟩
    · rw [eI _ (by omega), eF] at z
      exact absurd z (by decide)
    · rw [eI _ (by omega), eF] at z
      have : r = 0 := nIj (z.symm.trans (show F0i 5 = nI 0 from rfl)) (by omega) (by decide)
      omega
  exact law_loop hst hL h28 hend 512 0 _ _ _ rfl ⟨rfl, rfl, rfl, rfl, rfl, rfl⟩ R (Nat.le_of_ble_eq_true rfl) (Nat.le_of_ble_eq_true rfl)
end T7

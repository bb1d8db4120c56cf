section S7
theorem mna_of {mc ms n k : Nat} {x y : Int32} {f : FT} {L : LV} {S : List Value} {h : Hp} {u : Nat × Nat} (e1 : x = nI n) (e2 : y = nI k) (n9 : n ≤ 1000) (k9 : k ≤ 1000) (h1 : u.1 + (1 + n) ≤ mc) (h2 : u.2 + (n + n * k) ≤ ms) (q : f L (.ref (hn h) :: S) (alM h n k) (u.1 + (1 + n), u.2 + (n + n * k))) : o_mna mc ms f L (.int y :: .int x :: S) h u := by
  subst e1; subst e2
  refine ⟨nI_pos (by omega), nI_pos (by omega), ?_⟩
  rw [nI_clamp (by omega), nI_clamp (by omega)]
  exact ⟨n9, k9, h1, h2, q⟩
theorem k_init {l : Launch} (hst : l.stackTraces = false) {Q : Option Value → Hp → Prop} {X : String → Hp → Prop} {H : Hp} {m : Nat} (h0 : hn H = m + 1) (m0 : 0 < m) (sm : hs H m = (10, 21)) (zm : hI H m = fun _ => 0) (q : ∀ H', hn H' = m + 23 → (∀ a, a < m → hs H' a = hs H a ∧ hI H' a = hI H a ∧ hR H' a = hR H a) → MdS H' m → MdL H' m → hI H' m = F0i → (∀ a, m < a → a < m + 23 → hI H' a = fun _ => 0) → Q none H') : CX9_init l [.ref m] H Q X := by
  refine eX9_init hst (Nat.le_of_ble_eq_true rfl) (fun K => ?_)
  refine na_of (n := 359) rfl (Nat.le_of_ble_eq_true rfl) (Nat.le_of_ble_eq_true rfl) (Nat.le_of_ble_eq_true rfl) ?_
  refine pR_of ((ag_al (show m ≠ hn H by omega)).1.trans sm) (by omega) ?_
  obtain ⟨n1, a1, b1, c1⟩ := st_of (w := m) (f := 1) (q := (20, 359)) (show m < hn H by omega) (Nw.rf (o := hn H) (H := al H (20, 359)))
  generalize wR (al H (20, 359)) m 1 (hn H) = A1 at n1 a1 b1 c1 ⊢
  have e1 : hn A1 = m + 2 := by have := n1.1; omega
  have sm1 : hs A1 m = (10, 21) := (n1.s (by omega)).trans sm
  refine na_of (n := 359) rfl (Nat.le_of_ble_eq_true rfl) (Nat.le_of_ble_eq_true rfl) (Nat.le_of_ble_eq_true rfl) ?_
  refine pR_of ((ag_al (show m ≠ hn A1 by omega)).1.trans sm1) (by omega) ?_
  obtain ⟨n2, a2, b2, c2⟩ := st_of (w := m) (f := 2) (q := (20, 359)) (show m < hn A1 by omega) (Nw.rf (o := hn A1) (H := al A1 (20, 359)))
  generalize wR (al A1 (20, 359)) m 2 (hn A1) = A2 at n2 a2 b2 c2 ⊢
  have e2 : hn A2 = m + 3 := by have := n2.1; omega
  have sm2 : hs A2 m = (10, 21) := (n2.s (by omega)).trans sm1
  refine na_of (n := 359) rfl (Nat.le_of_ble_eq_true rfl) (Nat.le_of_ble_eq_true rfl) (Nat.le_of_ble_eq_true rfl) ?_
  refine pR_of ((ag_al (show m ≠ hn A2 by omega)).1.trans sm2) (by omega) ?_
  obtain ⟨n3, a3, b3, c3⟩ := st_of (w := m) (f := 3) (q := (20, 359)) (show m < hn A2 by omega) (Nw.rf (o := hn A2) (H := al A2 (20, 359)))
  generalize wR (al A2 (20, 359)) m 3 (hn A2) = A3 at n3 a3 b3 c3 ⊢
  have e3 : hn A3 = m + 4 := by have := n3.1; omega
  have sm3 : hs A3 m = (10, 21) := (n3.s (by omega)).trans sm2
  refine mna_of (n := 8) (k := 359) rfl rfl (Nat.le_of_ble_eq_true rfl) (Nat.le_of_ble_eq_true rfl) (Nat.le_of_ble_eq_true rfl) (Nat.le_of_ble_eq_true rfl) ?_
  refine pR_of ((ag_alM (show ¬ (hn A3 ≤ m ∧ m ≤ hn A3 + 8) by omega)).1.trans sm3) (by omega) ?_
  obtain ⟨n4, a4, r4, t4, b4, c4⟩ := stM (m := m) (f := 4) (N := 8) (K := 359) (H1 := A3) (by omega)
  generalize wR (alM A3 8 359) m 4 (hn A3) = A4 at n4 a4 r4 t4 b4 c4 ⊢
  have e4 : hn A4 = m + 13 := by have := n4.1; omega
  have sm4 : hs A4 m = (10, 21) := (n4.s (by omega)).trans sm3
  refine na_of (n := 359) rfl (Nat.le_of_ble_eq_true rfl) (Nat.le_of_ble_eq_true rfl) (Nat.le_of_ble_eq_true rfl) ?_
  refine pR_of ((ag_al (show m ≠ hn A4 by omega)).1.trans sm4) (by omega) ?_
  obtain ⟨n5, a5, b5, c5⟩ := st_of (w := m) (f := 12) (q := (20, 359)) (show m < hn A4 by omega) (Nw.rf (o := hn A4) (H := al A4 (20, 359)))
  generalize wR (al A4 (20, 359)) m 12 (hn A4) = A5 at n5 a5 b5 c5 ⊢
  have e5 : hn A5 = m + 14 := by have := n5.1; omega
  have sm5 : hs A5 m = (10, 21) := (n5.s (by omega)).trans sm4
  refine mna_of (n := 6) (k := 4) rfl rfl (Nat.le_of_ble_eq_true rfl) (Nat.le_of_ble_eq_true rfl) (Nat.le_of_ble_eq_true rfl) (Nat.le_of_ble_eq_true rfl) ?_
  refine pR_of ((ag_alM (show ¬ (hn A5 ≤ m ∧ m ≤ hn A5 + 6) by omega)).1.trans sm5) (by omega) ?_
  obtain ⟨n6, a6, r6, t6, b6, c6⟩ := stM (m := m) (f := 13) (N := 6) (K := 4) (H1 := A5) (by omega)
  generalize wR (alM A5 6 4) m 13 (hn A5) = A6 at n6 a6 r6 t6 b6 c6 ⊢
  have e6 : hn A6 = m + 21 := by have := n6.1; omega
  have sm6 : hs A6 m = (10, 21) := (n6.s (by omega)).trans sm5
  refine na_of (n := 6) rfl (Nat.le_of_ble_eq_true rfl) (Nat.le_of_ble_eq_true rfl) (Nat.le_of_ble_eq_true rfl) ?_
  refine pR_of ((ag_al (show m ≠ hn A6 by omega)).1.trans sm6) (by omega) ?_
  obtain ⟨n7, a7, b7, c7⟩ := st_of (w := m) (f := 14) (q := (21, 6)) (show m < hn A6 by omega) (Nw.rf (o := hn A6) (H := al A6 (21, 6)))
  generalize wR (al A6 (21, 6)) m 14 (hn A6) = A7 at n7 a7 b7 c7 ⊢
  have e7 : hn A7 = m + 22 := by have := n7.1; omega
  have sm7 : hs A7 m = (10, 21) := (n7.s (by omega)).trans sm6
  refine na_of (n := 60) rfl (Nat.le_of_ble_eq_true rfl) (Nat.le_of_ble_eq_true rfl) (Nat.le_of_ble_eq_true rfl) ?_
  refine pR_of ((ag_al (show m ≠ hn A7 by omega)).1.trans sm7) (by omega) ?_
  obtain ⟨n8, a8, b8, c8⟩ := st_of (w := m) (f := 15) (q := (22, 60)) (show m < hn A7 by omega) (Nw.rf (o := hn A7) (H := al A7 (22, 60)))
  generalize wR (al A7 (22, 60)) m 15 (hn A7) = A8 at n8 a8 b8 c8 ⊢
  have e8 : hn A8 = m + 23 := by have := n8.1; omega
  have sm8 : hs A8 m = (10, 21) := (n8.s (by omega)).trans sm7
  refine pI_of sm8 ?_
  refine pI_of sm8 ?_
  have d8 := n8
  have d7 := n7.comp d8 (Or.inl rfl)
  have d6 := n6.comp d7 (Or.inl rfl)
  have d5 := n5.comp d6 (Or.inl rfl)
  have d4 := n4.comp d5 (Or.inl rfl)
  have d3 := n3.comp d4 (Or.inl rfl)
  have d2 := n2.comp d3 (Or.inl rfl)
  have d1 := n1.comp d2 (Or.inl rfl)
  have u1 : hs A8 (m + 1) = (20, 359) := (d2.s (by omega)).trans (by rw [← h0]; exact a1)
  have v1 : hR A8 m 1 = m + 1 := ((c8 1 (by decide)).trans ((c7 1 (by decide)).trans ((c6 1 (by decide)).trans ((c5 1 (by decide)).trans ((c4 1 (by decide)).trans ((c3 1 (by decide)).trans ((c2 1 (by decide)).trans (by rw [← h0]; exact b1 : hR A1 m 1 = m + 1))))))))
  have u2 : hs A8 (m + 2) = (20, 359) := (d3.s (by omega)).trans (by rw [← e1]; exact a2)
  have v2 : hR A8 m 2 = m + 2 := ((c8 2 (by decide)).trans ((c7 2 (by decide)).trans ((c6 2 (by decide)).trans ((c5 2 (by decide)).trans ((c4 2 (by decide)).trans ((c3 2 (by decide)).trans (by rw [← e1]; exact b2 : hR A2 m 2 = m + 2)))))))
  have u3 : hs A8 (m + 3) = (20, 359) := (d4.s (by omega)).trans (by rw [← e2]; exact a3)
  have v3 : hR A8 m 3 = m + 3 := ((c8 3 (by decide)).trans ((c7 3 (by decide)).trans ((c6 3 (by decide)).trans ((c5 3 (by decide)).trans ((c4 3 (by decide)).trans (by rw [← e2]; exact b3 : hR A3 m 3 = m + 3))))))
  have u4 : hs A8 (m + 4) = (25, 8) := (d5.s (by omega)).trans (by rw [← e3]; exact a4)
  have v4 : hR A8 m 4 = m + 4 := ((c8 4 (by decide)).trans ((c7 4 (by decide)).trans ((c6 4 (by decide)).trans ((c5 4 (by decide)).trans (by rw [← e3]; exact b4 : hR A4 m 4 = m + 4)))))
  have p4 : ∀ k, k < 8 → hR A8 (m + 4) k = m + 5 + k ∧ hs A8 (m + 5 + k) = (20, 359) := fun k hk => by
    have h1 := t4 k hk
    have h2 := r4 k hk
    rw [e3] at h1 h2
    exact ⟨by rw [d5.r (by omega) (by omega)]; exact h1, (d5.s (by omega)).trans h2⟩
  have u5 : hs A8 (m + 13) = (20, 359) := (d6.s (by omega)).trans (by rw [← e4]; exact a5)
  have v5 : hR A8 m 12 = m + 13 := ((c8 12 (by decide)).trans ((c7 12 (by decide)).trans ((c6 12 (by decide)).trans (by rw [← e4]; exact b5 : hR A5 m 12 = m + 13))))
  have u6 : hs A8 (m + 14) = (25, 6) := (d7.s (by omega)).trans (by rw [← e5]; exact a6)
  have v6 : hR A8 m 13 = m + 14 := ((c8 13 (by decide)).trans ((c7 13 (by decide)).trans (by rw [← e5]; exact b6 : hR A6 m 13 = m + 14)))
  have p6 : ∀ k, k < 6 → hR A8 (m + 14) k = m + 15 + k ∧ hs A8 (m + 15 + k) = (20, 4) := fun k hk => by
    have h1 := t6 k hk
    have h2 := r6 k hk
    rw [e5] at h1 h2
    exact ⟨by rw [d7.r (by omega) (by omega)]; exact h1, (d7.s (by omega)).trans h2⟩
  have u7 : hs A8 (m + 21) = (21, 6) := (d8.s (by omega)).trans (by rw [← e6]; exact a7)
  have v7 : hR A8 m 14 = m + 21 := ((c8 14 (by decide)).trans (by rw [← e6]; exact b7 : hR A7 m 14 = m + 21))
  have u8 : hs A8 (m + 22) = (22, 60) := by rw [← e7]; exact a8
  have v8 : hR A8 m 15 = m + 22 := (by rw [← e7]; exact b8 : hR A8 m 15 = m + 22)
  have z0 : hI A8 m = fun _ => 0 := (d1.2.1 m (by omega)).2.1.trans zm
  have hms : MdS A8 m := ⟨sm8, by rw [v1]; exact Nat.succ_ne_zero m, u1, v1⟩
  have hml : MdL A8 m := ⟨m0, ⟨v2, u2⟩, ⟨v3, u3⟩, ⟨v4, u4⟩, p4, ⟨v5, u5⟩, ⟨v6, u6⟩, p6, ⟨v7, u7⟩, v8, u8⟩
  refine ⟨Nat.le_of_ble_eq_true rfl, Nat.le_of_ble_eq_true rfl, ?_⟩
  have hnH : hn H = m + 1 := h0
  have kk : hn A8 = m + 23 := e8
  have dd := d1
  have k1 := d1.1
  clear e1 e2 e3 e4 e5 e6 e7 e8 n1 n2 n3 n4 n5 n6 n7 n8 d1 d2 d3 d4 d5 d6 d7 d8 a1 a2 a3 a4 a5 a6 a7 a8 b1 b2 b3 b4 b5 b6 b7 b8 u1 u2 u3 u4 u5 u6 u7 u8 v1 v2 v3 v4 v5 v6 v7 v8 c1 c2 c3 c4 c5 c6 c7 c8 r4 r6 t4 t6 p4 p6 sm1 sm2 sm3 sm4 sm5 sm6 sm7 h0
  refine q _ kk (fun a ha => ⟨(dd.2.1 a (by omega)).1, ?_, (dd.2.1 a (by omega)).2.2.2.2 (by omega)⟩) (hms.of rfl rfl) (hml.of rfl rfl) ?_ (fun a h1 h2 => ?_)
  · rw [hI_wI_o (by omega), hI_wI_o (by omega)]
    exact (dd.2.1 a (by omega)).2.1
  · funext k
    by_cases k19 : k = 19
    · subst k19
      rw [hI_wI_s]; rfl
    · rw [hI_wI_k k19]
      by_cases k18 : k = 18
      · subst k18
        rw [hI_wI_s]; rfl
      · rw [hI_wI_k k18, z0]
        unfold F0i
        rw [if_neg (by omega)]
  · rw [hI_wI_o (by omega), hI_wI_o (by omega)]
    exact dd.2.2 a (by omega) (by omega)
end S7

section H8
theorem hR_s {H : Hp} {a k v : Nat} : hR (wR H a k v) a k = v := by
  show (if a = a then (if k = k then v else _) else _) = v
  rw [if_pos rfl, if_pos rfl]
theorem hR_k {H : Hp} {a k j v : Nat} (h : j ≠ k) : hR (wR H a k v) a j = hR H a j := by
  show (if a = a then (if j = k then v else _) else _) = _
  rw [if_pos rfl, if_neg h]; rfl
theorem hR_o {H : Hp} {a k b v : Nat} (h : b ≠ a) : hR (wR H a k v) b = hR H b := funext fun j => if_neg h
/-- H' has m cells more, their ints 0; of what was, only the references of o differ -/
def Nw (o m : Nat) (H H' : Hp) : Prop := hn H' = hn H + m ∧ (∀ a, a < hn H → hs H' a = hs H a ∧ hI H' a = hI H a ∧ hL H' a = hL H a ∧ hD H' a = hD H a ∧ (a ≠ o → hR H' a = hR H a)) ∧ ∀ a, hn H ≤ a → a < hn H + m → hI H' a = fun _ => 0
theorem Nw.rf {o : Nat} {H : Hp} : Nw o 0 H H := ⟨rfl, fun a _ => ⟨rfl, rfl, rfl, rfl, fun _ => rfl⟩, fun a h1 h2 => absurd h1 (by omega)⟩
theorem Nw.comp {o o' m k : Nat} {H H1 H2 : Hp} (h1 : Nw o m H H1) (h2 : Nw o' k H1 H2) (ho : o' = o ∨ hn H ≤ o') : Nw o (m + k) H H2 := by
  obtain ⟨a1, a2, a3⟩ := h1
  obtain ⟨b1, b2, b3⟩ := h2
  refine ⟨by rw [b1, a1]; omega, fun a ha => ?_, fun a x1 x2 => ?_⟩
  · obtain ⟨c1, c2, c3, c4, c5⟩ := a2 a ha
    obtain ⟨d1, d2, d3, d4, d5⟩ := b2 a (by omega)
    exact ⟨d1.trans c1, d2.trans c2, d3.trans c3, d4.trans c4, fun z => (d5 (by omega)).trans (c5 z)⟩
  · by_cases z : a < hn H + m
    · exact ((b2 a (by omega)).2.1).trans (a3 a x1 z)
    · exact b3 a (by omega) (by omega)
theorem Nw.al {o : Nat} {H : Hp} {q : Nat × Nat} : Nw o 1 H (al H q) := by
  refine ⟨rfl, fun a ha => ?_, fun a x1 x2 => ?_⟩
  · obtain ⟨e1, e2, e3, e4, e5⟩ := ag_al (h := H) (q := q) (show a ≠ hn H by omega)
    exact ⟨e1, e2, e4, e5, fun _ => e3⟩
  · have : a = hn H := by omega
    subst this
    exact hI_al
theorem Nw.wR {o k v : Nat} {H : Hp} : Nw o 0 H (wR H o k v) := ⟨rfl, fun a _ => ⟨rfl, rfl, rfl, rfl, fun z => hR_o z⟩, fun a h1 h2 => absurd h1 (by omega)⟩
/-- kinds and references of the cells from a on stay -/
theorem Nw.s {o m : Nat} {H H' : Hp} (h : Nw o m H H') {a : Nat} (ha : a < hn H) : hs H' a = hs H a := (h.2.1 a ha).1
theorem Nw.r {o m : Nat} {H H' : Hp} (h : Nw o m H H') {a : Nat} (ha : a < hn H) (ne : a ≠ o) : hR H' a = hR H a := (h.2.1 a ha).2.2.2.2 ne
theorem na_of {k mc ms n : Nat} {x : Int32} {f : FT} {L : LV} {S : List Value} {h : Hp} {u : Nat × Nat} (e : x = nI n) (hn9 : n ≤ 1000) (h1 : u.1 + 1 ≤ mc) (h2 : u.2 + n ≤ ms) (q : f L (.ref (hn h) :: S) (al h (k, n)) (u.1 + 1, u.2 + n)) : o_newa k mc ms f L (.int x :: S) h u := by
  subst e
  have c : (nI n).toNatClampNeg = n := nI_clamp (by omega)
  refine ⟨nI_pos (by omega), by rw [c]; exact hn9, h1, by rw [c]; exact h2, ?_⟩
  rw [c]
  exact q
theorem pR_of {ci N k v a : Nat} {f : FT} {L : LV} {S : List Value} {h : Hp} {u : Nat × Nat} (e : hs h a = (ci + 1, N)) (hv : 0 < v) (q : f L S (wR h a k v) u) : o_pR ci N k f L (.ref v :: .ref a :: S) h u := ⟨e, Nat.ne_of_gt hv, q⟩
theorem i_X0 {l : Launch} (hst : l.stackTraces = false) {Q : Option Value → Hp → Prop} {X : String → Hp → Prop} {H : Hp} {a : Nat} (q : Q none H) : CX0_init l [.ref a] H Q X := by
  refine eX0_init hst (Nat.le_of_ble_eq_true rfl) (fun K => ?_)
  exact ⟨Nat.le_refl _, Nat.le_refl _, q⟩
theorem i_X6 {l : Launch} (hst : l.stackTraces = false) {Q : Option Value → Hp → Prop} {X : String → Hp → Prop} {H : Hp} {a : Nat} (q : Q none H) : CX6_init l [.ref a] H Q X := by
  refine eX6_init hst (Nat.le_of_ble_eq_true rfl) (fun K => ?_)
  exact ⟨Nat.le_refl _, Nat.le_refl _, q⟩
theorem i_X4 {l : Launch} (hst : l.stackTraces = false) {Q : Option Value → Hp → Prop} {X : String → Hp → Prop} {H : Hp} {a : Nat} (q : Q none H) : CX4_init l [.ref a] H Q X := by
  refine eX4_init hst (Nat.le_of_ble_eq_true rfl) (fun K => ?_)
  exact ⟨Nat.le_refl _, Nat.le_refl _, q⟩
/-- two arrays of a new thing -/
theorem two_ar {H : Hp} {a k1 k2 f1 f2 : Nat} {q1 q2 : Nat × Nat} (ha : a < hn H) (ne : f1 ≠ f2) : Nw a 2 H (wR (al (wR (al H q1) a f1 (hn H)) q2) a f2 (hn H + 1)) ∧ hR (wR (al (wR (al H q1) a f1 (hn H)) q2) a f2 (hn H + 1)) a f1 = hn H ∧ hR (wR (al (wR (al H q1) a f1 (hn H)) q2) a f2 (hn H + 1)) a f2 = hn H + 1 ∧ hs (wR (al (wR (al H q1) a f1 (hn H)) q2) a f2 (hn H + 1)) (hn H) = q1 ∧ hs (wR (al (wR (al H q1) a f1 (hn H)) q2) a f2 (hn H + 1)) (hn H + 1) = q2 := by
  have n1 : Nw a 1 H (wR (al H q1) a f1 (hn H)) := Nw.al.comp Nw.wR (Or.inl rfl)
  have n2 : Nw a 1 (wR (al H q1) a f1 (hn H)) (wR (al (wR (al H q1) a f1 (hn H)) q2) a f2 (hn H + 1)) := Nw.al.comp Nw.wR (Or.inl rfl)
  have h1 : hn (wR (al H q1) a f1 (hn H)) = hn H + 1 := rfl
  refine ⟨n1.comp n2 (Or.inl rfl), ?_, hR_s, ?_, ?_⟩
  · rw [hR_k ne, (ag_al (show a ≠ hn (wR (al H q1) a f1 (hn H)) by omega)).2.2.1]
    exact hR_s
  · exact (n2.s (a := hn H) (by omega)).trans hs_al
  · show hs (al (wR (al H q1) a f1 (hn H)) q2) (hn (wR (al H q1) a f1 (hn H))) = q2
    exact hs_al
theorem i_part {l : Launch} (hst : l.stackTraces = false) {Q : Option Value → Hp → Prop} {X : String → Hp → Prop} {H : Hp} {a : Nat} (ha : a < hn H) (sa : hs H a = (4, 13)) (q : ∀ H', Nw a 2 H H' → hR H' a 11 = hn H ∧ hR H' a 12 = hn H + 1 ∧ hs H' (hn H) = (20, 4) ∧ hs H' (hn H + 1) = (20, 8) → Q none H') : CX3_init l [.ref a] H Q X := by
  obtain ⟨t1, t2⟩ := two_ar (H := H) (a := a) (k1 := 0) (k2 := 0) (f1 := 11) (f2 := 12) (q1 := (20, 4)) (q2 := (20, 8)) ha (by decide)
  refine eX3_init hst (Nat.le_of_ble_eq_true rfl) (fun K => ?_)
  refine na_of (n := 4) rfl (by decide) (by decide) (by decide) ?_
  refine pR_of ((ag_al (show a ≠ hn H by omega)).1.trans sa) (by omega) ?_
  refine na_of (n := 8) rfl (by decide) (by decide) (by decide) ?_
  refine pR_of (((t1.s ha).trans sa)) (by show 0 < hn H + 1; omega) ?_
  repeat (refine And.intro (by first | assumption | rfl | exact Nat.le_of_ble_eq_true rfl | exact Nat.zero_le _ | decide) ?_)
  exact q _ t1 t2
theorem i_kit {l : Launch} (hst : l.stackTraces = false) {Q : Option Value → Hp → Prop} {X : String → Hp → Prop} {H : Hp} {a : Nat} (ha : a < hn H) (sa : hs H a = (3, 3)) (q : ∀ H', Nw a 2 H H' → hR H' a 1 = hn H ∧ hR H' a 2 = hn H + 1 ∧ hs H' (hn H) = (20, 4) ∧ hs H' (hn H + 1) = (20, 4) → Q none H') : CX2_init l [.ref a] H Q X := by
  obtain ⟨t1, t2⟩ := two_ar (H := H) (a := a) (k1 := 0) (k2 := 0) (f1 := 1) (f2 := 2) (q1 := (20, 4)) (q2 := (20, 4)) ha (by decide)
  refine eX2_init hst (Nat.le_of_ble_eq_true rfl) (fun K => ?_)
  refine na_of (n := 4) rfl (by decide) (by decide) (by decide) ?_
  refine pR_of ((ag_al (show a ≠ hn H by omega)).1.trans sa) (by omega) ?_
  refine na_of (n := 4) rfl (by decide) (by decide) (by decide) ?_
  refine pR_of (((t1.s ha).trans sa)) (by show 0 < hn H + 1; omega) ?_
  repeat (refine And.intro (by first | assumption | rfl | exact Nat.le_of_ble_eq_true rfl | exact Nat.zero_le _ | decide) ?_)
  exact q _ t1 t2
theorem i_list {l : Launch} (hst : l.stackTraces = false) {Q : Option Value → Hp → Prop} {X : String → Hp → Prop} {H : Hp} {a : Nat} (ha : a < hn H) (sa : hs H a = (2, 2)) (q : ∀ H', Nw a 13 H H' → hR H' a 0 = hn H → hs H' (hn H) = (30, 12) → (∀ i, i < 12 → hR H' (hn H) i = hn H + 1 + i ∧ hs H' (hn H + 1 + i) = (1, 3)) → Q none H') : CX1_init l [.ref a] H Q X := by
  refine eX1_init hst (Nat.le_of_ble_eq_true rfl) (fun K hK => ?_)
  refine na_of (n := 12) rfl (by decide) (by decide) (by decide) ?_
  refine pR_of ((ag_al (show a ≠ hn H by omega)).1.trans sa) (by omega) ?_
  have n1 : Nw a 1 H (wR (al H (30, 12)) a 0 (hn H)) := Nw.al.comp Nw.wR (Or.inl rfl)
  have loop : ∀ (n i : Nat) (H1 : Hp), i + n = 12 → Nw a (1 + i) H H1 → hR H1 a 0 = hn H → hs H1 (hn H) = (30, 12) → (∀ j, j < i → hR H1 (hn H) j = hn H + 1 + j ∧ hs H1 (hn H + 1 + j) = (1, 3)) → K 15 [(1, .int (nI i)), (0, .ref a)] [] H1 (1 + i, 12 + 3 * i) := by
    intro n
    induction n with
    | zero =>
      intro i H1 hi N1 r0 s0 hj
      have : i = 12 := by omega
      subst this
      refine hK _ _ _ _ ?_
      refine And.intro (fun hc => ?_) (fun hc => ?_)
      · repeat (refine And.intro (by first | assumption | rfl | exact Nat.le_of_ble_eq_true rfl | exact Nat.zero_le _ | decide) ?_)
        exact q H1 N1 r0 s0 hj
      · exact absurd (show nI 12 ≤ nI 12 from Int32.le_refl _) hc
    | succ n ih =>
      intro i H1 hi N1 r0 s0 hj
      refine hK _ _ _ _ ?_
      refine And.intro (fun hc => ?_) (fun hc => ?_)
      · exact absurd (show nI 12 ≤ nI i from hc) (nI_ge (by omega) (by decide))
      · have h1 := N1.1
        refine gR_of ((N1.s ha).trans sa) r0 (by omega) ?_
        refine ⟨by show 1 + i + 1 ≤ 13; omega, by show 12 + 3 * i + 3 ≤ 48; omega, ?_⟩
        refine ⟨rfl, Nat.le_of_ble_eq_true rfl, by show 1 + i + 1 + 0 ≤ 13; omega, by show 12 + 3 * i + 3 + 0 ≤ 48; omega, ?_⟩
        refine i_X0 hst ?_
        have ne : hn H ≠ hn H1 := by omega
        refine as_of (v := hn H1) (ci := 0) (M := 3) ((ag_al ne).1.trans s0) rfl (show i < 12 by omega) (by decide) hs_al (by omega) ?_
        have N2 : Nw a (1 + (i + 1)) H (wR (al H1 (0 + 1, 3)) (hn H) i (hn H1)) := N1.comp (Nw.al.comp (Nw.wR (o := hn H)) (Or.inl rfl)) (Or.inr (Nat.le_refl _))
        have e9 : hn H1 = hn H + 1 + i := by omega
        have := ih (i + 1) (wR (al H1 (0 + 1, 3)) (hn H) i (hn H1)) (by omega) N2 ?_ ?_ (fun j hj9 => ?_)
        · rw [← nI_1 i] at this
          exact this
        · rw [hR_o (show a ≠ hn H by omega), (ag_al (show a ≠ hn H1 by omega)).2.2.1]
          exact r0
        · exact (ag_al ne).1.trans s0
        · by_cases z : j = i
          · subst z
            exact ⟨hR_s.trans e9, by rw [← e9]; exact hs_al⟩
          · obtain ⟨g1, g2⟩ := hj j (by omega)
            rw [hR_k z, (ag_al ne).2.2.1]
            exact ⟨g1, (ag_al (show hn H + 1 + j ≠ hn H1 by omega)).1.trans g2⟩
  exact loop 12 0 _ rfl n1 hR_s hs_al (fun j hj => absurd hj (Nat.not_lt_zero j))
end H8

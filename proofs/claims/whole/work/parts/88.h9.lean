section H9
theorem i_new {ci N mc ms : Nat} {f : FT} {L : LV} {S : List Value} {h : Hp} {u : Nat × Nat} (h1 : u.1 + 1 ≤ mc) (h2 : u.2 + N ≤ ms) (q : f L (.ref (hn h) :: S) (al h (ci + 1, N)) (u.1 + 1, u.2 + N)) : o_new ci N mc ms f L S h u := ⟨h1, h2, q⟩
/-- an array of n things, each with c cells from b on -/
def Ar (H : Hp) (r b c n : Nat) (k : Nat × Nat) : Prop := ∀ i, i < n → hR H r i = b + c * i ∧ hs H (b + c * i) = k
def PtC (H : Hp) (a : Nat) : Prop := hR H a 11 = a + 1 ∧ hR H a 12 = a + 2 ∧ hs H (a + 1) = (20, 4) ∧ hs H (a + 2) = (20, 8)
def KtC (H : Hp) (a : Nat) : Prop := hR H a 1 = a + 1 ∧ hR H a 2 = a + 2 ∧ hs H (a + 1) = (20, 4) ∧ hs H (a + 2) = (20, 4)
def LtC (H : Hp) (a : Nat) : Prop := hR H a 0 = a + 1 ∧ hs H (a + 1) = (30, 12) ∧ ∀ i, i < 12 → hR H (a + 1) i = a + 2 + i ∧ hs H (a + 2 + i) = (1, 3)
theorem PtC.nw {H H' : Hp} {a o m : Nat} (p : PtC H a) (n : Nw o m H H') (h : a + 2 < hn H) (ne : a ≠ o) : PtC H' a := by
  obtain ⟨p1, p2, p3, p4⟩ := p
  exact ⟨by rw [n.r (by omega) ne]; exact p1, by rw [n.r (by omega) ne]; exact p2, (n.s (by omega)).trans p3, (n.s (by omega)).trans p4⟩
theorem KtC.nw {H H' : Hp} {a o m : Nat} (p : KtC H a) (n : Nw o m H H') (h : a + 2 < hn H) (ne : a ≠ o) : KtC H' a := by
  obtain ⟨p1, p2, p3, p4⟩ := p
  exact ⟨by rw [n.r (by omega) ne]; exact p1, by rw [n.r (by omega) ne]; exact p2, (n.s (by omega)).trans p3, (n.s (by omega)).trans p4⟩
theorem LtC.nw {H H' : Hp} {a o m : Nat} (p : LtC H a) (n : Nw o m H H') (h : a + 13 < hn H) (ne : a ≠ o) (ne2 : a + 1 ≠ o) : LtC H' a := by
  obtain ⟨p1, p2, p3⟩ := p
  exact ⟨by rw [n.r (by omega) ne]; exact p1, (n.s (by omega)).trans p2, fun i hi => ⟨by rw [n.r (by omega) ne2]; exact (p3 i hi).1, (n.s (by omega)).trans (p3 i hi).2⟩⟩
/-- the world while it is made: what it refers to, np parts, nk kits, nw requests made -/
def Wm (H0 H : Hp) (w np nk nq : Nat) : Prop := Nw w (31 + 3 * np + 3 * nk + nq) H0 H ∧ (hR H w 0 = w + 1 ∧ hs H (w + 1) = (33, 8)) ∧ (hR H w 2 = w + 2 ∧ hs H (w + 2) = (32, 4)) ∧ (hR H w 4 = w + 3 ∧ hs H (w + 3) = (36, 12)) ∧ (hR H w 7 = w + 4 ∧ hs H (w + 4) = (2, 2) ∧ LtC H (w + 4)) ∧ (hR H w 8 = w + 18 ∧ hs H (w + 18) = (2, 2) ∧ LtC H (w + 18)) ∧ (∀ i, i < np → hR H (w + 1) i = w + 32 + 3 * i ∧ hs H (w + 32 + 3 * i) = (4, 13) ∧ PtC H (w + 32 + 3 * i)) ∧ (∀ i, i < nk → hR H (w + 2) i = w + 56 + 3 * i ∧ hs H (w + 56 + 3 * i) = (3, 3) ∧ KtC H (w + 56 + 3 * i)) ∧ (∀ i, i < nq → hR H (w + 3) i = w + 68 + i ∧ hs H (w + 68 + i) = (7, 5))
/-- one more thing is made in the array r at place i; the others stay -/
theorem st_one {H0 H1 H2 : Hp} {w m k r i : Nat} {q : Nat × Nat} (h0 : hn H0 = w + 1) (N1 : Nw w m H0 H1) (hr : w < r) (hr2 : r < hn H1) (N2 : Nw (hn H1) k (al H1 q) H2) : Nw w (m + (1 + k)) H0 (wR H2 r i (hn H1)) ∧ Nw r (1 + k) H1 (wR H2 r i (hn H1)) ∧ hs (wR H2 r i (hn H1)) (hn H1) = q ∧ hR (wR H2 r i (hn H1)) r i = hn H1 ∧ (∀ j, j ≠ i → hR (wR H2 r i (hn H1)) r j = hR H1 r j) := by
  have n3 : Nw r (1 + k) H1 (wR H2 r i (hn H1)) := by
    have n4 : Nw r (1 + k) H1 H2 := (Nw.al (o := r) (q := q)).comp N2 (Or.inr (Nat.le_refl _))
    exact n4.comp (k := 0) Nw.wR (Or.inl rfl)
  refine ⟨N1.comp n3 (Or.inr (by omega)), n3, (N2.s (show hn H1 < hn (al H1 q) from Nat.lt_succ_self _)).trans hs_al, hR_s, fun j hj => ?_⟩
  rw [hR_k hj, N2.r (show r < hn H1 + 1 by omega) (by omega), (ag_al (by omega)).2.2.1]
theorem Wm.part {H0 H1 H2 : Hp} {w np : Nat} (h0 : hn H0 = w + 1) (M : Wm H0 H1 w np 0 0) (hp : np < 8) (N2 : Nw (hn H1) 2 (al H1 (4, 13)) H2) (p : hR H2 (hn H1) 11 = hn H1 + 1 ∧ hR H2 (hn H1) 12 = hn H1 + 1 + 1 ∧ hs H2 (hn H1 + 1) = (20, 4) ∧ hs H2 (hn H1 + 1 + 1) = (20, 8)) : Wm H0 (wR H2 (w + 1) np (hn H1)) w (np + 1) 0 0 := by
  obtain ⟨N1, ⟨a1, a2⟩, ⟨b1, b2⟩, ⟨c1, c2⟩, ⟨d1, d2, d3⟩, ⟨e1, e2, e3⟩, P, K, Q⟩ := M
  have h1 : hn H1 = w + 32 + 3 * np := by have := N1.1; omega
  obtain ⟨m1, m2, m3, m4, m5⟩ := st_one (r := w + 1) (i := np) h0 N1 (by omega) (by omega) N2
  refine ⟨by rw [show 31 + 3 * (np + 1) + 3 * 0 + 0 = 31 + 3 * np + 3 * 0 + 0 + (1 + 2) by omega]; exact m1, ⟨by rw [m2.r (by omega) (by omega)]; exact a1, (m2.s (by omega)).trans a2⟩, ⟨by rw [m2.r (by omega) (by omega)]; exact b1, (m2.s (by omega)).trans b2⟩, ⟨by rw [m2.r (by omega) (by omega)]; exact c1, (m2.s (by omega)).trans c2⟩, ⟨by rw [m2.r (by omega) (by omega)]; exact d1, (m2.s (by omega)).trans d2, d3.nw m2 (by omega) (by omega) (by omega)⟩, ⟨by rw [m2.r (by omega) (by omega)]; exact e1, (m2.s (by omega)).trans e2, e3.nw m2 (by omega) (by omega) (by omega)⟩, fun i hi => ?_, fun i hi => absurd hi (Nat.not_lt_zero i), fun i hi => absurd hi (Nat.not_lt_zero i)⟩
  by_cases z : i = np
  · subst z
    rw [← h1]
    refine ⟨m4, m3, ?_⟩
    obtain ⟨p1, p2, p3, p4⟩ := p
    exact ⟨by rw [hR_o (by omega)]; exact p1, by rw [hR_o (by omega)]; exact p2, p3, p4⟩
  · obtain ⟨q1, q2, q3⟩ := P i (by omega)
    exact ⟨(m5 i z).trans q1, (m2.s (by omega)).trans q2, q3.nw m2 (by omega) (by omega)⟩
theorem Wm.kit {H0 H1 H2 : Hp} {w nk : Nat} (h0 : hn H0 = w + 1) (M : Wm H0 H1 w 8 nk 0) (hp : nk < 4) (N2 : Nw (hn H1) 2 (al H1 (3, 3)) H2) (p : hR H2 (hn H1) 1 = hn H1 + 1 ∧ hR H2 (hn H1) 2 = hn H1 + 1 + 1 ∧ hs H2 (hn H1 + 1) = (20, 4) ∧ hs H2 (hn H1 + 1 + 1) = (20, 4)) : Wm H0 (wR H2 (w + 2) nk (hn H1)) w 8 (nk + 1) 0 := by
  obtain ⟨N1, ⟨a1, a2⟩, ⟨b1, b2⟩, ⟨c1, c2⟩, ⟨d1, d2, d3⟩, ⟨e1, e2, e3⟩, P, K, Q⟩ := M
  have h1 : hn H1 = w + 56 + 3 * nk := by have := N1.1; omega
  obtain ⟨m1, m2, m3, m4, m5⟩ := st_one (r := w + 2) (i := nk) h0 N1 (by omega) (by omega) N2
  refine ⟨by rw [show 31 + 3 * 8 + 3 * (nk + 1) + 0 = 31 + 3 * 8 + 3 * nk + 0 + (1 + 2) by omega]; exact m1, ⟨by rw [m2.r (by omega) (by omega)]; exact a1, (m2.s (by omega)).trans a2⟩, ⟨by rw [m2.r (by omega) (by omega)]; exact b1, (m2.s (by omega)).trans b2⟩, ⟨by rw [m2.r (by omega) (by omega)]; exact c1, (m2.s (by omega)).trans c2⟩, ⟨by rw [m2.r (by omega) (by omega)]; exact d1, (m2.s (by omega)).trans d2, d3.nw m2 (by omega) (by omega) (by omega)⟩, ⟨by rw [m2.r (by omega) (by omega)]; exact e1, (m2.s (by omega)).trans e2, e3.nw m2 (by omega) (by omega) (by omega)⟩, fun i hi => ?_, fun i hi => ?_, fun i hi => absurd hi (Nat.not_lt_zero i)⟩
  · obtain ⟨q1, q2, q3⟩ := P i (by omega)
    exact ⟨by rw [m2.r (by omega) (by omega)]; exact q1, (m2.s (by omega)).trans q2, q3.nw m2 (by omega) (by omega)⟩
  · by_cases z : i = nk
    · subst z
      rw [← h1]
      refine ⟨m4, m3, ?_⟩
      obtain ⟨p1, p2, p3, p4⟩ := p
      exact ⟨by rw [hR_o (by omega)]; exact p1, by rw [hR_o (by omega)]; exact p2, p3, p4⟩
    · obtain ⟨q1, q2, q3⟩ := K i (by omega)
      exact ⟨(m5 i z).trans q1, (m2.s (by omega)).trans q2, q3.nw m2 (by omega) (by omega)⟩
theorem Wm.req {H0 H1 : Hp} {w nq : Nat} (h0 : hn H0 = w + 1) (M : Wm H0 H1 w 8 4 nq) (hp : nq < 12) : Wm H0 (wR (al H1 (7, 5)) (w + 3) nq (hn H1)) w 8 4 (nq + 1) := by
  obtain ⟨N1, ⟨a1, a2⟩, ⟨b1, b2⟩, ⟨c1, c2⟩, ⟨d1, d2, d3⟩, ⟨e1, e2, e3⟩, P, K, Q⟩ := M
  have h1 : hn H1 = w + 68 + nq := by have := N1.1; omega
  obtain ⟨m1, m2, m3, m4, m5⟩ := st_one (r := w + 3) (i := nq) h0 N1 (by omega) (by omega) (q := (7, 5)) Nw.rf
  refine ⟨by rw [show 31 + 3 * 8 + 3 * 4 + (nq + 1) = 31 + 3 * 8 + 3 * 4 + nq + (1 + 0) by omega]; exact m1, ⟨by rw [m2.r (by omega) (by omega)]; exact a1, (m2.s (by omega)).trans a2⟩, ⟨by rw [m2.r (by omega) (by omega)]; exact b1, (m2.s (by omega)).trans b2⟩, ⟨by rw [m2.r (by omega) (by omega)]; exact c1, (m2.s (by omega)).trans c2⟩, ⟨by rw [m2.r (by omega) (by omega)]; exact d1, (m2.s (by omega)).trans d2, d3.nw m2 (by omega) (by omega) (by omega)⟩, ⟨by rw [m2.r (by omega) (by omega)]; exact e1, (m2.s (by omega)).trans e2, e3.nw m2 (by omega) (by omega) (by omega)⟩, fun i hi => ?_, fun i hi => ?_, fun i hi => ?_⟩
  · obtain ⟨q1, q2, q3⟩ := P i (by omega)
    exact ⟨by rw [m2.r (by omega) (by omega)]; exact q1, (m2.s (by omega)).trans q2, q3.nw m2 (by omega) (by omega)⟩
  · obtain ⟨q1, q2, q3⟩ := K i (by omega)
    exact ⟨by rw [m2.r (by omega) (by omega)]; exact q1, (m2.s (by omega)).trans q2, q3.nw m2 (by omega) (by omega)⟩
  · by_cases z : i = nq
    · subst z
      rw [← h1]
      exact ⟨m4, m3⟩
    · obtain ⟨q1, q2⟩ := Q i (by omega)
      exact ⟨(m5 i z).trans q1, (m2.s (by omega)).trans q2⟩
/-- where the records of a new world are -/
def s9 (w : Nat) : Nat → Nat := fun i => if i < 12 then w + 68 + i else if i < 24 then w + 6 + (i - 12) else w + 20 + (i - 24)
theorem Wm.sp {H0 H : Hp} {w : Nat} (M : Wm H0 H w 8 4 12) (w0 : 0 < w) (sw : hs H w = (8, 10)) : Sp H w := by
  obtain ⟨N1, A, B, C, ⟨d1, d2, d3, d4, d5⟩, ⟨e1, e2, e3, e4, e5⟩, P, K, Q⟩ := M
  refine ⟨s9 w, w0, sw, A, B, C, ⟨d1, d2, d3, d4⟩, ⟨e1, e2, e3, e4⟩, fun p hp => ?_, fun k hk => ?_, fun i hi => ?_, fun i hi => ?_, fun i hi => ?_, ⟨fun a h1 h2 => ?_, fun a h1 h2 => ?_, fun a h1 h2 => ?_⟩, ⟨fun i hi => ?_, fun i hi => ?_, fun i hi => ?_, fun i j hi hj h => ?_⟩⟩
  · obtain ⟨q1, q2, q3, q4, q5, q6⟩ := P p hp
    exact ⟨q1, q2, by rw [q3]; omega, by rw [show w + 33 + 3 * p = w + 32 + 3 * p + 1 by omega]; exact q5, by rw [q4]; omega, by rw [show w + 34 + 3 * p = w + 32 + 3 * p + 2 by omega]; exact q6⟩
  · obtain ⟨q1, q2, q3, q4, q5, q6⟩ := K k hk
    exact ⟨q1, q2, by rw [q3]; omega, by rw [show w + 57 + 3 * k = w + 56 + 3 * k + 1 by omega]; exact q5, by rw [q4]; omega, by rw [show w + 58 + 3 * k = w + 56 + 3 * k + 2 by omega]; exact q6⟩
  · rw [(Q i hi).1]; unfold s9; rw [if_pos hi]
  · rw [show w + 5 = w + 4 + 1 by omega, (d5 i hi).1]; unfold s9; rw [if_neg (by omega), if_pos (by omega)]; omega
  · rw [show w + 19 = w + 18 + 1 by omega, (e5 i hi).1]; unfold s9; rw [if_neg (by omega), if_neg (by omega)]; omega
  · have := (Q (a - (w + 68)) (by omega)).2
    rw [show w + 68 + (a - (w + 68)) = a by omega] at this
    exact this
  · have := (d5 (a - (w + 6)) (by omega)).2
    rw [show w + 4 + 2 + (a - (w + 6)) = a by omega] at this
    exact this
  · have := (e5 (a - (w + 20)) (by omega)).2
    rw [show w + 18 + 2 + (a - (w + 20)) = a by omega] at this
    exact this
  · unfold s9; rw [if_pos hi]; omega
  · unfold s9; rw [if_neg (by omega), if_pos (by omega)]; omega
  · unfold s9; rw [if_neg (by omega), if_neg (by omega)]; omega
  · unfold s9 at h
    split at h <;> split at h <;> (try split at h) <;> (try split at h) <;> omega
end H9

section S8
/-! the planner and the reference in one heap -/
/-- only the reference's numbers differ -/
def Mg (m : Nat) (h h' : Hp) : Prop := hs h' = hs h ∧ hR h' = hR h ∧ h'.2.2.2.2 = h.2.2.2.2 ∧ ∀ a, (a < m ∨ m + 23 ≤ a) → hI h' a = hI h a
theorem Mg.rf {m : Nat} {h : Hp} : Mg m h h := ⟨rfl, rfl, rfl, fun _ _ => rfl⟩
theorem Mg.trans {m : Nat} {a b c : Hp} (h1 : Mg m a b) (h2 : Mg m b c) : Mg m a c := ⟨h2.1.trans h1.1, h2.2.1.trans h1.2.1, h2.2.2.1.trans h1.2.2.1, fun x z => (h2.2.2.2 x z).trans (h1.2.2.2 x z)⟩
theorem Mg.mf {m : Nat} {h h' : Hp} (f : Mf m h h') : Mg m h h' := ⟨f.2.1, f.2.2.1, f.2.2.2.1, fun a z => f.2.2.2.2 a (by omega) (by omega)⟩
theorem Mg.row {m b : Nat} {h : Hp} {f : Nat → Int32} (h1 : m ≤ b) (h2 : b < m + 23) : Mg m h (sRow h b f) := ⟨rfl, rfl, rfl, fun a z => hI_sRow_ne (by omega)⟩
theorem Mg.wI {m b k : Nat} {h : Hp} {v : Int32} (h1 : m ≤ b) (h2 : b < m + 23) : Mg m h (wI h b k v) := by rw [wI_row]; exact Mg.row h1 h2
theorem Mg.st {m : Nat} {h : Hp} {F N : Nat → Int32} : Mg m h (st h m F N) := (Mg.row (b := m + 1) (by omega) (by omega)).trans (Mg.row (by omega) (by omega))
theorem hshift_mg {m : Nat} {h : Hp} : ∀ n, n ≤ 7 → Mg m h (hshift h m n)
  | 0, _ => Mg.rf
  | n + 1, h9 => (hshift_mg n (by omega)).trans (Mg.row (by omega) (by omega))
theorem Mg.push {m r : Nat} {h : Hp} {R : Nat → Int32} (r8 : r ≤ 8) : Mg m h (hpush h m r R) := by
  unfold hpush
  split
  · exact Mg.row (by omega) (by omega)
  · exact (hshift_mg 7 (by decide)).trans (Mg.row (by omega) (by omega))
/-- what the planner has done: the reference's part is as it was -/
def C1 (m : Nat) (h h1 : Hp) : Prop := hs h1 = hs h ∧ ∀ a, m ≤ a → hI h1 a = hI h a ∧ hR h1 a = hR h a
theorem C1.rf {m : Nat} {h : Hp} : C1 m h h := ⟨rfl, fun _ _ => ⟨rfl, rfl⟩⟩
theorem C1.of {x m : Nat} {h h1 : Hp} (hx : x + 894 ≤ m) (f : XF x h h1) : C1 m h h1 := ⟨f.1, fun a ha => f.2.2 a (Or.inr (by omega))⟩
theorem C1.hx {m n : Nat} {h h1 : Hp} (c : C1 m h h1) : C1 m h (hxn h1 n) := c
theorem C1.wL {m a k : Nat} {v : Int64} {h h1 : Hp} (c : C1 m h h1) : C1 m h (wL h1 a k v) := c
theorem C1.wD {m a k : Nat} {v : UInt64} {h h1 : Hp} (c : C1 m h h1) : C1 m h (wD h1 a k v) := c
theorem C1.mds {m : Nat} {h h1 : Hp} (c : C1 m h h1) (M : MdS h m) : MdS h1 m := by
  unfold MdS
  rw [c.1, (c.2 m (by omega)).2]
  exact M
theorem C1.mdl {m : Nat} {h h1 : Hp} (c : C1 m h h1) (M : MdL h m) : MdL h1 m := by
  unfold MdL
  rw [c.1, (c.2 m (by omega)).2, (c.2 (m + 4) (by omega)).2, (c.2 (m + 14) (by omega)).2]
  exact M
theorem C1.st {m : Nat} {h h1 : Hp} (c : C1 m h h1) : h1 = st h1 m (hI h m) (hI h (m + 1)) := by
  rw [← (c.2 m (by omega)).1, ← (c.2 (m + 1) (by omega)).1, st_self]
/-- the day and the leads of a row -/
def DIr (N : Nat → Int32) (D : Int) : Prop := ∀ c, N 0 = nI c → c ≤ 8 → DI N c D
theorem DIr.congr {N N' : Nat → Int32} {D : Int} (d : DIr N D) (e : ∀ j, j < 359 → N' j = N j) : DIr N' D := fun c h0 h8 => (d c (by rw [← e 0 (by decide)]; exact h0) h8).of (e 5 (by decide)) (fun p hp => e _ (by omega))
theorem DIr.le {N : Nat → Int32} {D D' : Int} (d : DIr N D) (h : D ≤ D') (h2 : D' ≤ 1000000) : DIr N D' := fun c h0 h8 => (d c h0 h8).le h h2
theorem DIr.of {N : Nat → Int32} {c0 : Nat} {D : Int} (e : N 0 = nI c0) (c8 : c0 ≤ 8) (d : DI N c0 D) : DIr N D := fun c h0 h8 => by
  have : c = c0 := nIj (h0.symm.trans e) (by omega) (by omega)
  rw [this]; exact d
/-- a row that keeps the day, the leads and the number of parts -/
theorem DIr.z {N N' : Nat → Int32} {D : Int} (d : DIr N D) (e0 : N' 0 = N 0) (e : ∀ j, dyz j → N' j = N j) : DIr N' D := fun c h0 h8 => (d c (e0.symm.trans h0) h8).z h8 e
def XX (h h0 : Hp) (x m : Nat) (B : Int) : Prop := CR h x (hI h0 (m + 1)) (hI h0 m) (fun k => hI h0 (m + 5 + k)) (hI h0 (m + 2)) (fun i => hI h0 (m + 15 + i)) (hI h0 (m + 21)) (hI h0 (m + 22)) B
/-- planner and reference hold the same -/
def RJ (h : Hp) (x m o : Nat) (B D : Int) : Prop := x + 894 ≤ m ∧ m + 23 ≤ o ∧ (hs h o = (23, 1) ∧ hs h (o + 1) = (24, 1)) ∧ MdS h m ∧ MdL h m ∧ XX h h x m B ∧ (DIr (hI h (m + 1)) D ∧ (hI h m 6 = 1 → DIr (hI h (m + 2)) D) ∧ (∀ r k, hI h m 5 = nI r → r ≤ 8 → k < r → DIr (hI h (m + 5 + k)) D)) ∧ D ≤ 1000000
theorem RJ.fin {h h1 h2 : Hp} {x m o : Nat} {B D B' D' : Int} (R : RJ h x m o B D) (c : C1 m h h1) {N' F' : Nat → Int32} {hi' : Nat → Nat → Int32} {sv' : Nat → Int32} {sm' : Nat → Nat → Int32} {hd' tx' : Nat → Int32} (C' : CR h1 x N' F' hi' sv' sm' hd' tx' B') (g : Mg m h1 h2)
    (eN : ∀ j, j < 359 → hI h2 (m + 1) j = N' j) (eF : ∀ k, k = 5 ∨ k = 6 ∨ k = 7 ∨ k = 8 ∨ k = 9 ∨ k = 16 ∨ k = 18 ∨ k = 19 → hI h2 m k = F' k) (eh : ∀ r k, F' 5 = nI r → r ≤ 8 → k < r → ∀ j, j < 359 → hI h2 (m + 5 + k) j = hi' k j) (es : ∀ j, j < 359 → hI h2 (m + 2) j = sv' j) (em : ∀ i j, i < 6 → j < 4 → hI h2 (m + 15 + i) j = sm' i j) (ed : ∀ i, i < 6 → hI h2 (m + 21) i = hd' i) (et : ∀ k, k < 60 → hI h2 (m + 22) k = tx' k)
    (dN : DIr N' D') (ds : F' 6 = 1 → DIr sv' D') (dh : ∀ r k, F' 5 = nI r → r ≤ 8 → k < r → DIr (hi' k) D') (hD : D' ≤ 1000000) : RJ h2 x m o B' D' := by
  obtain ⟨r1, r2, ⟨r3, r4⟩, r5, r6, -, -, -⟩ := R
  refine ⟨r1, r2, ⟨by rw [g.1, c.1]; exact r3, by rw [g.1, c.1]; exact r4⟩, (c.mds r5).of g.1 g.2.1, (c.mdl r6).of g.1 g.2.1, ?_, ⟨dN.congr eN, fun z => (ds (by rw [← eF 6 (by omega)]; exact z)).congr es, fun r k z r8 hk => (dh r k (by rw [← eF 5 (by omega)]; exact z) r8 hk).congr (eh r k (by rw [← eF 5 (by omega)]; exact z) r8 hk)⟩, hD⟩
  exact (C'.same (fun b h1 h2 => ⟨by rw [g.1], by rw [g.2.1], g.2.2.2 b (by omega)⟩)).congr eN eF eh es em ed et
theorem RJ.le {h : Hp} {x m o : Nat} {B D B' D' : Int} (R : RJ h x m o B D) (hB : B ≤ B') (hB2 : B' ≤ 16000000) (hD : D ≤ D') (hD2 : D' ≤ 1000000) : RJ h x m o B' D' := by
  obtain ⟨r1, r2, r3, r5, r6, r7, ⟨r8, r9, r10⟩, -⟩ := R
  exact ⟨r1, r2, r3, r5, r6, CR.le r7 hB hB2, ⟨r8.le hD hD2, fun z => (r9 z).le hD hD2, fun r k z1 z2 z3 => (r10 r k z1 z2 z3).le hD hD2⟩, hD2⟩
/-- nothing that the planner keeps has changed but numbers of the object -/
theorem RJ.same {h h1 h' : Hp} {x m o : Nat} {B D : Int} (R : RJ h x m o B D) (c : C1 m h h1) {F' : Nat → Int32} (C' : CR h1 x (hI h (m + 1)) F' (fun k => hI h (m + 5 + k)) (hI h (m + 2)) (fun i => hI h (m + 15 + i)) (hI h (m + 21)) (hI h (m + 22)) B) (f : Mf m h1 h') {F2 N2 : Nat → Int32} (eF : ∀ k, k = 5 ∨ k = 6 ∨ k = 7 ∨ k = 8 ∨ k = 9 ∨ k = 16 ∨ k = 18 ∨ k = 19 → F2 k = F' k) (eN : ∀ j, j < 359 → N2 j = hI h (m + 1) j) (e56 : F' 5 = hI h m 5 ∧ F' 6 = hI h m 6) : RJ (st h' m F2 N2) x m o B D := by
  have o9 : ∀ b, m + 2 ≤ b → b ≠ m + 3 → b ≠ m + 13 → hI (st h' m F2 N2) b = hI h b := fun b z1 z2 z3 => (st_o (by omega) (by omega)).trans ((f.2.2.2.2 b z2 z3).trans (c.2 b (by omega)).1)
  have R0 := R
  obtain ⟨r1, r2, r3, r5, r6, r7, ⟨r8, r9, r10⟩, r11⟩ := R
  refine R0.fin c C' ((Mg.mf f).trans Mg.st) (fun j hj => by rw [st_N]; exact eN j hj) (fun k hk => by rw [st_F]; exact eF k hk) (fun r k z1 z2 z3 j hj => by rw [o9 _ (by omega) (by omega) (by omega)]) (fun j hj => by rw [o9 _ (by omega) (by omega) (by omega)]) (fun i j z1 z2 => by rw [o9 _ (by omega) (by omega) (by omega)]) (fun i z1 => by rw [o9 _ (by omega) (by omega) (by omega)]) (fun i z1 => by rw [o9 _ (by omega) (by omega) (by omega)]) r8 (fun z => r9 (by rw [← e56.2]; exact z)) (fun r k z1 z2 z3 => r10 r k (by rw [← e56.1]; exact z1) z2 z3) r11
theorem hshift_r {h : Hp} {m : Nat} : ∀ n k, n ≤ 7 → k < n → ∀ j, j < 359 → hI (hshift h m n) (m + 5 + k) j = hI h (m + 5 + (k + 1)) j
  | 0, k, _, hk, _, _ => absurd hk (Nat.not_lt_zero k)
  | n + 1, k, h9, hk, j, hj => by
    have d : hshift h m (n + 1) = sRow (hshift h m n) (m + 5 + n) (cpr (hI (hshift h m n) (m + 5 + (n + 1))) (hI (hshift h m n) (m + 5 + n))) := rfl
    rw [d]
    by_cases z : k = n
    · subst z
      rw [hI_sRow, cpr_lt hj, hshift_o k (by omega)]
    · rw [hI_sRow_ne (by omega)]
      exact hshift_r n k (by omega) (by omega) j hj
theorem hpush_r {h : Hp} {m r : Nat} {R : Nat → Int32} (r8 : r ≤ 8) {hi : Nat → Nat → Int32} (e : ∀ k, k < r → ∀ j, j < 359 → hI h (m + 5 + k) j = hi k j) : ∀ k, k < pr r → ∀ j, j < 359 → hI (hpush h m r R) (m + 5 + k) j = ph hi r R k j := by
  intro k hk j hj
  unfold hpush ph
  unfold pr at hk
  by_cases z : r < 8
  · rw [if_pos z] at hk
    rw [if_pos z, if_pos z]
    by_cases y : k = r
    · subst y
      rw [if_pos rfl, hI_sRow, cpr_lt hj]
    · rw [if_neg y, hI_sRow_ne (by omega)]
      exact e k (by omega) j hj
  · rw [if_neg z] at hk
    rw [if_neg z, if_neg z]
    by_cases y : k = 7
    · subst y
      rw [if_pos rfl, show m + 5 + 7 = m + 12 by omega, hI_sRow, cpr_lt hj]
    · rw [if_neg y, hI_sRow_ne (by omega), hshift_r 7 k (by decide) (by omega) j hj]
      exact e (k + 1) (by omega) j hj
theorem pr8 {r : Nat} (h : r ≤ 8) : pr r ≤ 8 := by unfold pr; split <;> omega
/-- a change: a row more in the history -/
theorem RJ.push {h h1 h' : Hp} {x m o : Nat} {B D B' D' : Int} (R : RJ h x m o B D) (c : C1 m h h1) {r : Nat} (er : hI h m 5 = nI r) (r8 : r ≤ 8) {N' F' : Nat → Int32} (C' : CR h1 x N' (upd F' 5 (nI (pr r))) (ph (fun k => hI h (m + 5 + k)) r (hI h (m + 1))) (hI h (m + 2)) (fun i => hI h (m + 15 + i)) (hI h (m + 21)) (hI h (m + 22)) B') (f : Mf m (hpush h1 m r (hI h (m + 1))) h') {F2 N2 : Nat → Int32} (eF : ∀ k, k = 5 ∨ k = 6 ∨ k = 7 ∨ k = 8 ∨ k = 9 ∨ k = 16 ∨ k = 18 ∨ k = 19 → F2 k = upd F' 5 (nI (pr r)) k) (eN : ∀ j, j < 359 → N2 j = N' j) (e6 : F' 6 = hI h m 6) (dN : DIr N' D') (hD : D ≤ D') (hD2 : D' ≤ 1000000) : RJ (st h' m F2 N2) x m o B' D' := by
  have R0 := R
  obtain ⟨r1, r2, r3, r5, r6, r7, ⟨rN, rs, rh⟩, r11⟩ := R
  have o9 : ∀ b, m + 2 ≤ b → b ≠ m + 3 → b ≠ m + 13 → hI (st h' m F2 N2) b = hI (hpush h1 m r (hI h (m + 1))) b := fun b z1 z2 z3 => (st_o (by omega) (by omega)).trans (f.2.2.2.2 b z2 z3)
  have o8 : ∀ b, m + 2 ≤ b → b ≠ m + 3 → b ≠ m + 13 → (b < m + 5 ∨ m + 13 ≤ b) → hI (st h' m F2 N2) b = hI h b := fun b z1 z2 z3 z4 => (o9 b z1 z2 z3).trans ((hpush_o r8 z4).trans (c.2 b (by omega)).1)
  have hp := hpush_r (h := h1) (m := m) (R := hI h (m + 1)) r8 (hi := fun k => hI h (m + 5 + k)) (fun k hk j hj => by rw [(c.2 (m + 5 + k) (by omega)).1])
  have e5 : ∀ r', upd F' 5 (nI (pr r)) 5 = nI r' → r' ≤ 8 → r' = pr r := fun r' z1 z2 => nIj (z1.symm.trans pk_us) (by omega) (by have := pr8 r8; omega)
  refine R0.fin c C' (((Mg.push r8).trans (Mg.mf f)).trans Mg.st) (fun j hj => by rw [st_N]; exact eN j hj) (fun k hk => by rw [st_F]; exact eF k hk) (fun r' k z1 z2 z3 j hj => ?_) (fun j hj => by rw [o8 _ (by omega) (by omega) (by omega) (by omega)]) (fun i j z1 z2 => by rw [o8 _ (by omega) (by omega) (by omega) (by omega)]) (fun i z1 => by rw [o8 _ (by omega) (by omega) (by omega) (by omega)]) (fun i z1 => by rw [o8 _ (by omega) (by omega) (by omega) (by omega)]) dN (fun z => (rs (e6.symm.trans ((pk_un (show (6 : Nat) ≠ 5 by decide)).symm.trans z))).le hD hD2) (fun r' k z1 z2 z3 => ?_) hD2
  · have := e5 r' z1 z2
    have := pr8 r8
    rw [o9 _ (by omega) (by omega) (by omega)]
    exact hp k (by omega) j hj
  · have e := e5 r' z1 z2
    rw [e] at z3
    unfold ph
    unfold pr at z3
    split
    · rename_i z
      rw [if_pos z] at z3
      split
      · exact rN.le hD hD2
      · exact (rh r k er r8 (by omega)).le hD hD2
    · rename_i z
      rw [if_neg z] at z3
      split
      · exact rN.le hD hD2
      · exact (rh r (k + 1) er r8 (by omega)).le hD hD2
/-- the end of a call: thrown k, or the answer v -/
def Jn (x m o : Nat) (B D : Int) (k : Int32) (v : Int64) (h : Hp) : Prop := RJ h x m o B D ∧ hI h m 0 = k ∧ (k = 0 → hL h o 0 = v)
end S8

section R9
def dyz (j : Nat) : Prop := j = 5 ∨ (7 ≤ j ∧ j < 191 ∧ 4 ≤ (j - 7) % 23 ∧ (j - 7) % 23 ≤ 5)
theorem dyz.sw {j : Nat} (h : dyz j) : swx j := ⟨by unfold dyz at h; omega, by unfold dyz at h; omega, fun q hq => by unfold dyz at h; omega⟩
theorem er_z {c0 c1 c4 : Nat} {B : Int} {j : Nat} (hj : dyz j) : ∀ (n i : Nat) {N : Nat → Int32} {s : Int32} {c2 : Nat}, NI N c0 c1 c2 (i + n) c4 B → (r_er n i N s).1 j = N j
  | 0, _, _, _, _, _ => rfl
  | n + 1, i, N, s, c2, h => by
    have e : r_er (n + 1) i N s = if N (287 + i * 3 + 2) ≤ N 5 then r_er n i (r_er1 N i (i + n)).2 (s + (r_er1 N i (i + n)).1) else r_er n (i + 1) N s := rfl
    rw [e]
    split
    · obtain ⟨c, a1, a2, a3⟩ := h.er1 (i := i) (c := i + n) (by omega)
      rw [er_z hj n i a2]
      obtain ⟨p, p1, p2⟩ := h.wf.2.2.2.2.2.2.2.2.1 i (by omega)
      have k0 := h.wf.1.2
      have k3 := h.wf.2.2.2.1.2
      obtain ⟨f1, f2⟩ := h.fu3 (i := i) (c := i + n) (by omega)
      have e1 : r_fu N 287 3 i (i + n) j = N j := by
        unfold r_fu
        rw [if_neg (by unfold dyz at hj; omega), if_neg (by unfold dyz at hj; omega)]
      have R := f1.rp p1 (h.rq i (by omega)) (by
        have : r_fu N 287 3 i (i + n) (7 + p * 23 + 0) = N (7 + p * 23 + 0) := by
          unfold r_fu
          rw [if_neg (by omega), if_neg (by omega)]
        rw [this]; exact f2 p p1 p2)
      unfold r_er1
      dsimp only
      rw [p2, nI_clamp (by omega)]
      split
      · rw [rp_o (by unfold dyz at hj; omega)]; exact e1
      · rw [swA_x R hj.sw, rp_o (by unfold dyz at hj; omega)]; exact e1
    · exact er_z hj n (i + 1) (by rw [show i + 1 + n = i + (n + 1) by omega]; exact h)
theorem ro_z {c0 c1 c3 : Nat} {B : Int} {j : Nat} (hj : dyz j) : ∀ (n i : Nat) {N : Nat → Int32} {s : Int32} {c2 : Nat}, NI N c0 c1 c2 c3 (i + n) B → (r_ro n i N s).1 j = N j
  | 0, _, _, _, _, _ => rfl
  | n + 1, i, N, s, c2, h => by
    have e : r_ro (n + 1) i N s = if N (323 + i * 3 + 2) ≤ N 5 then r_ro n i (r_ro1 N i (i + n)) (s + N (323 + i * 3 + 1)) else r_ro n (i + 1) N s := rfl
    rw [e]
    split
    · obtain ⟨c, a1, a2⟩ := h.ro1 (i := i) (c := i + n) (by omega)
      rw [ro_z hj n i a2]
      obtain ⟨p, p1, p2⟩ := h.wf.2.2.2.2.2.2.2.2.2 i (by omega)
      have k0 := h.wf.1.2
      have k3 := h.wf.2.2.2.1.2
      have k4 := h.wf.2.2.2.2.1.2
      obtain ⟨f1, f2⟩ := h.fu4 (i := i) (c := i + n) (by omega)
      have e1 : ∀ j, j < 323 → j ≠ 4 → r_fu N 323 4 i (i + n) j = N j := fun j h1 h2 => by
        unfold r_fu
        rw [if_neg (by omega), if_neg h2]
      have R := f1.stk (N' := r_in (r_fu N 323 4 i (i + n)) p (N (323 + i * 3 + 1))) p1 (h.oq i (by omega)) (by rw [e1 _ (by omega) (by omega)]; exact f2 p p1 p2) in_at (fun j _ hn hj => in_o ⟨hj, fun z => by unfold nix stru at hn; omega⟩)
      unfold r_ro1
      rw [p2, nI_clamp (by omega), swA_x R hj.sw, in_o (by unfold dyz at hj; omega)]
      exact e1 j (by unfold dyz at hj; omega) (by unfold dyz at hj; omega)
    · exact ro_z hj n (i + 1) (by rw [show i + 1 + n = i + (n + 1) by omega]; exact h)
theorem mo_z {j : Nat} (hj : dyz j) : ∀ (n i : Nat) {N : Nat → Int32}, r_mo n i N j = N j
  | 0, _, _ => rfl
  | n + 1, i, N => by
    show r_mo n (i + 1) (r_mo1 N i) j = N j
    rw [mo_z hj n (i + 1)]
    unfold r_mo1
    split
    · unfold r_start r_st3
      rw [pk_un (by unfold dyz at hj; omega), pk_un (by unfold dyz at hj; omega), pk_un (by unfold dyz at hj; omega), pk_un (by unfold dyz at hj; omega)]
    · rfl
theorem day_z {N : Nat → Int32} {c0 c1 c2 c3 c4 : Nat} {B : Int} (h : NI N c0 c1 c2 c3 c4 B) {j : Nat} (hj : dyz j) : (r_day N).1 j = upd N 5 (N 5 + 1) j := by
  have h1 : NI (upd N 5 (N 5 + 1)) c0 c1 c2 c3 c4 B := h.agree (fun j _ hn => pk_un (by unfold nix stru at hn; omega))
  have k3 := h1.wf.2.2.2.1
  unfold r_day
  dsimp only
  rw [k3.1, nI_clamp (by omega), mo_z hj]
  obtain ⟨c2', c3', a1, a2, a3⟩ := NI.er c3 0 (N := upd N 5 (N 5 + 1)) (s := 0) (c2 := c2) (by rw [Nat.zero_add]; exact h1)
  have k4 := a3.wf.2.2.2.2.1
  rw [k4.1, nI_clamp (by omega), ro_z hj c4 0 (c2 := c2') (c3 := c3') (c0 := c0) (c1 := c1) (B := B) (by rw [Nat.zero_add]; exact a3), er_z hj c3 0 (c2 := c2) (c4 := c4) (c0 := c0) (c1 := c1) (B := B) (by rw [Nat.zero_add]; exact h1)]
/-- the day and the orders' leads -/
def DI (N : Nat → Int32) (c0 : Nat) (D : Int) : Prop := (0 ≤ (N 5).toInt ∧ (N 5).toInt ≤ D) ∧ (∀ p, p < c0 → 1 ≤ (N (7 + p * 23 + 5)).toInt ∧ (N (7 + p * 23 + 5)).toInt ≤ 9) ∧ D ≤ 1000000
theorem DI.of {N N' : Nat → Int32} {c0 : Nat} {D : Int} (d : DI N c0 D) (e5 : N' 5 = N 5) (e : ∀ p, p < c0 → N' (7 + p * 23 + 5) = N (7 + p * 23 + 5)) : DI N' c0 D := ⟨by rw [e5]; exact d.1, fun p hp => by rw [e p hp]; exact d.2.1 p hp, d.2.2⟩
theorem DI.sum {N : Nat → Int32} {c0 p : Nat} {D : Int} (d : DI N c0 D) (hp : p < c0) : 0 ≤ N 5 + N (7 + p * 23 + 5) := by
  obtain ⟨⟨a1, a2⟩, b, dD⟩ := d
  obtain ⟨b1, b2⟩ := b p hp
  refine Int32.le_iff_toInt_le.mpr ?_
  rw [iadd_i (by omega) (by omega)]
  have e0 : (0 : Int32).toInt = 0 := rfl
  omega
theorem DI.ret {N : Nat → Int32} {c0 p : Nat} {D : Int} (d : DI N c0 D) (hp : p < c0) : ¬ (N 5 + N (7 + p * 23 + 5) = -1) ∧ ¬ (N 5 + N (7 + p * 23 + 5) = -2) := by
  have h := d.sum hp
  exact ⟨fun z => absurd h (by rw [z]; decide), fun z => absurd h (by rw [z]; decide)⟩
theorem DI.le {N : Nat → Int32} {c0 : Nat} {D D' : Int} (d : DI N c0 D) (h : D ≤ D') (h2 : D' ≤ 1000000) : DI N c0 D' := ⟨⟨d.1.1, by have := d.1.2; omega⟩, d.2.1, h2⟩
theorem DI.days {N : Nat → Int32} {c0 c1 c2 c3 c4 : Nat} {B D : Int} (h : NI N c0 c1 c2 c3 c4 B) (d : DI N c0 D) : ∀ k : Nat, D + k ≤ 1000000 → DI (r_days k N).1 c0 (D + k) := by
  intro k
  have key : ∀ k : Nat, D + k ≤ 1000000 → (∃ a b c, NI (r_days k N).1 c0 c1 a b c B) ∧ DI (r_days k N).1 c0 (D + k) := by
    intro k
    induction k with
    | zero => exact fun _ => ⟨⟨c2, c3, c4, h⟩, by rw [show D + ((0 : Nat) : Int) = D by omega]; exact d⟩
    | succ k ih =>
      intro hk
      obtain ⟨⟨a, b, c, n⟩, dk⟩ := ih (by omega)
      refine ⟨n.day, ?_⟩
      have e5 := day_z n (j := 5) (Or.inl rfl)
      rw [pk_us] at e5
      have eo : ∀ p, p < c0 → (r_day (r_days k N).1).1 (7 + p * 23 + 5) = (r_days k N).1 (7 + p * 23 + 5) := fun p hp => by
        have c8 := h.wf.1.2
        rw [day_z n (j := 7 + p * 23 + 5) (by unfold dyz; omega), pk_un (by omega)]
      obtain ⟨⟨d1, d2⟩, d3, d4⟩ := dk
      have ei : ((r_days k N).1 5 + 1).toInt = ((r_days k N).1 5).toInt + 1 := by
        have e1 : (1 : Int32).toInt = 1 := rfl
        rw [iadd_i (by omega) (by omega), e1]
      refine ⟨?_, fun p hp => ?_, hk⟩
      · show 0 ≤ ((r_day (r_days k N).1).1 5).toInt ∧ ((r_day (r_days k N).1).1 5).toInt ≤ _
        rw [e5, ei]
        omega
      · show 1 ≤ ((r_day (r_days k N).1).1 (7 + p * 23 + 5)).toInt ∧ ((r_day (r_days k N).1).1 (7 + p * 23 + 5)).toInt ≤ 9
        rw [eo p hp]
        exact d3 p hp
  exact fun hk => (key k hk).2
end R9

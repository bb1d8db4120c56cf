section D3
/-- the numbers that NI speaks of -/
def nix (j : Nat) : Prop := stru j ∨ (7 ≤ j ∧ j < 191 ∧ ((j - 7) % 23 = 0 ∨ (j - 7) % 23 = 2 ∨ (j - 7) % 23 = 3 ∨ (j - 7) % 23 = 6 ∨ (j - 7) % 23 = 7)) ∨ (227 ≤ j ∧ j < 287 ∧ (j - 227) % 5 = 3) ∨ (287 ≤ j ∧ (j - 287) % 3 = 1)
theorem WFc.agree9 {N N' : Nat → Int32} {c0 c1 c2 c3 c4 : Nat} (h : WFc N c0 c1 c2 c3 c4) (e : ∀ j, j < 359 → stru j → N' j = N j) : WFc N' c0 c1 c2 c3 c4 := by
  obtain ⟨⟨h0, k0⟩, ⟨h1, k1⟩, ⟨h2, k2⟩, ⟨h3, k3⟩, ⟨h4, k4⟩, hp, hk, hw, hr, ho⟩ := h
  refine ⟨⟨by rw [e 0 (by decide) (Or.inl (by decide))]; exact h0, k0⟩, ⟨by rw [e 1 (by decide) (Or.inl (by decide))]; exact h1, k1⟩, ⟨by rw [e 2 (by decide) (Or.inl (by decide))]; exact h2, k2⟩, ⟨by rw [e 3 (by decide) (Or.inl (by decide))]; exact h3, k3⟩, ⟨by rw [e 4 (by decide) (Or.inl (by decide))]; exact h4, k4⟩, ?_, ?_, ?_, ?_, ?_⟩
  · intro p hp9
    obtain ⟨c, x1, x2, x3⟩ := hp p hp9
    refine ⟨c, x1, by rw [e _ (by omega) (by unfold stru; omega)]; exact x2, fun k hk9 => ?_⟩
    obtain ⟨s, y1, y2⟩ := x3 k hk9
    exact ⟨s, y1, by rw [e _ (by omega) (by unfold stru; omega)]; exact y2⟩
  · intro p hp9
    obtain ⟨c, x1, x2, x3⟩ := hk p hp9
    refine ⟨c, x1, by rw [e _ (by omega) (by unfold stru; omega)]; exact x2, fun k hk9 => ?_⟩
    obtain ⟨s, y1, y2⟩ := x3 k hk9
    exact ⟨s, y1, by rw [e _ (by omega) (by unfold stru; omega)]; exact y2⟩
  · intro i hi
    obtain ⟨s, y1, y2⟩ := hw i hi
    exact ⟨s, y1, by rw [e _ (by omega) (by unfold stru; omega)]; exact y2⟩
  · intro i hi
    obtain ⟨s, y1, y2⟩ := hr i hi
    exact ⟨s, y1, by rw [e _ (by omega) (by unfold stru; omega)]; exact y2⟩
  · intro i hi
    obtain ⟨s, y1, y2⟩ := ho i hi
    exact ⟨s, y1, by rw [e _ (by omega) (by unfold stru; omega)]; exact y2⟩
theorem NI.agree {N N' : Nat → Int32} {c0 c1 c2 c3 c4 : Nat} {B : Int} (h : NI N c0 c1 c2 c3 c4 B) (e : ∀ j, j < 359 → nix j → N' j = N j) : NI N' c0 c1 c2 c3 c4 B := by
  have k0 := h.wf.1.2
  have k1 := h.wf.2.1.2
  have k2 := h.wf.2.2.1.2
  have k3 := h.wf.2.2.2.1.2
  have k4 := h.wf.2.2.2.2.1.2
  have ep : ∀ p k, p < c0 → k < 23 → (k = 0 ∨ k = 2 ∨ k = 3 ∨ k = 6 ∨ k = 7) → N' (7 + p * 23 + k) = N (7 + p * 23 + k) := fun p k hp hk hh => e _ (by omega) (Or.inr (Or.inl ⟨by omega, by omega, by
    rw [show (7 + p * 23 + k - 7) % 23 = k by omega]; exact hh⟩))
  have e3 : ∀ i k, i < c3 → k < 2 → N' (287 + i * 3 + k) = N (287 + i * 3 + k) := fun i k hi hk => by
    by_cases z : k = 0
    · exact e _ (by omega) (Or.inl (by unfold stru; omega))
    · exact e _ (by omega) (Or.inr (Or.inr (Or.inr (by omega))))
  have e4 : ∀ i k, i < c4 → k < 2 → N' (323 + i * 3 + k) = N (323 + i * 3 + k) := fun i k hi hk => by
    by_cases z : k = 0
    · exact e _ (by omega) (Or.inl (by unfold stru; omega))
    · exact e _ (by omega) (Or.inr (Or.inr (Or.inr (by omega))))
  have s3 : ∀ p n, n ≤ c3 → sI N' 287 p n = sI N 287 p n := by
    intro p n
    induction n with
    | zero => intro _; rfl
    | succ n ih =>
      intro hn
      show sI N' 287 p n + _ = sI N 287 p n + _
      rw [ih (by omega), e3 n 0 (by omega) (by decide), e3 n 1 (by omega) (by decide)]
  have s4 : ∀ p n, n ≤ c4 → sI N' 323 p n = sI N 323 p n := by
    intro p n
    induction n with
    | zero => intro _; rfl
    | succ n ih =>
      intro hn
      show sI N' 323 p n + _ = sI N 323 p n + _
      rw [ih (by omega), e4 n 0 (by omega) (by decide), e4 n 1 (by omega) (by decide)]
  refine ⟨?_, fun p hp => ?_, fun i hi => ?_, fun p hp => ?_, fun p hp => ?_, fun i hi => ?_, fun i hi => ?_, fun p hp => ?_, h.bb⟩
  · refine h.wf.agree9 (fun j hj hs => e j hj (Or.inl hs))
  · rw [ep p 0 hp (by decide) (by decide)]; exact h.sk p hp
  · rw [e _ (by omega) (Or.inr (Or.inr (Or.inl (by omega))))]; exact h.mq i hi
  · have := h.pt p hp
    unfold Pt at *
    rw [ep p 6 hp (by decide) (by decide), ep p 2 hp (by decide) (by decide), ep p 3 hp (by decide) (by decide)]
    exact this
  · rw [ep p 7 hp (by decide) (by decide)]; exact h.hu p hp
  · rw [e3 i 1 hi (by decide)]; exact h.rq i hi
  · rw [e4 i 1 hi (by decide)]; exact h.oq i hi
  · rw [ep p 0 hp (by decide) (by decide), s3 p c3 (Nat.le_refl _), s4 p c4 (Nat.le_refl _)]
    exact h.zz p hp
theorem NI.rp {N : Nat → Int32} {c0 c1 c2 c3 c4 p : Nat} {v : Int32} {B : Int} (h : NI N c0 c1 c2 c3 c4 B) (hp : p < c0) (hv : 0 ≤ v.toInt ∧ v.toInt ≤ 999) (hz : (N (7 + p * 23 + 0)).toInt + sI N 287 p c3 + sI N 323 p c4 + v.toInt ≤ B) : NI (r_rp N p v) c0 c1 c2 c3 c4 B := by
  have k0 := h.wf.1.2
  have k2 := h.wf.2.2.1.2
  have bb := h.bb
  obtain ⟨x1, x2, x3, x4⟩ := rp_num (h.pt p hp).1 (h.hu p hp) hv
  have p3 : 0 ≤ sI N 287 p c3 := sI_pos c3 (fun i hi => (h.rq i hi).1)
  have p4 : 0 ≤ sI N 323 p c4 := sI_pos c4 (fun i hi => h.oq i hi)
  have s0 := h.sk p hp
  have ea : (r_rp N p v (7 + p * 23 + 0)).toInt = (N (7 + p * 23 + 0)).toInt + (s_rp N p v).toInt := by rw [rp_at.1, iadd_i (by omega) (by omega)]
  have eq : ∀ q k, q < c0 → k < 23 → (q ≠ p ∨ (k ≠ 0 ∧ k ≠ 7)) → k ≠ 18 → k ≠ 19 → r_rp N p v (7 + q * 23 + k) = N (7 + q * 23 + k) := fun q k hq hk h1 h2 h3 => rp_o (by omega)
  have eh : ∀ j, 191 ≤ j → r_rp N p v j = N j := fun j hj => rp_o (by omega)
  refine ⟨h.wf.agree (fun j hj => r_rp_s (by omega) hj), fun q hq => ?_, fun i hi => ?_, fun q hq => ?_, fun q hq => ?_, fun i hi => ?_, fun i hi => ?_, fun q hq => ?_, h.bb⟩
  · by_cases e : q = p
    · subst e; rw [ea]; omega
    · rw [eq q 0 hq (by decide) (Or.inl e) (by decide) (by decide)]; exact h.sk q hq
  · rw [eh _ (by omega)]; exact h.mq i hi
  · have := h.pt q hq
    unfold Pt at *
    rw [eq q 6 hq (by decide) (Or.inr (by decide)) (by decide) (by decide), eq q 2 hq (by decide) (Or.inr (by decide)) (by decide) (by decide), eq q 3 hq (by decide) (Or.inr (by decide)) (by decide) (by decide)]
    exact this
  · by_cases e : q = p
    · subst e; rw [rp_at.2]; exact ⟨x3, x4⟩
    · rw [eq q 7 hq (by decide) (Or.inl e) (by decide) (by decide)]; exact h.hu q hq
  · rw [eh _ (by omega)]; exact h.rq i hi
  · rw [eh _ (by omega)]; exact h.oq i hi
  · rw [sI_eq c3 (fun j h1 h2 => eh j (by omega)), sI_eq c4 (fun j h1 h2 => eh j (by omega))]
    by_cases e : q = p
    · subst e; rw [ea]; omega
    · rw [eq q 0 hq (by decide) (Or.inl e) (by decide) (by decide)]; exact h.zz q hq
theorem in_at {N : Nat → Int32} {p : Nat} {v : Int32} : r_in N p v (7 + p * 23 + 0) = N (7 + p * 23 + 0) + v := by
  unfold r_in
  rw [pk_un (by omega), pk_us]
theorem in_o {N : Nat → Int32} {p : Nat} {v : Int32} {j : Nat} (h : j ≠ 7 + p * 23 + 0 ∧ j ≠ 7 + p * 23 + 14) : r_in N p v j = N j := by
  unfold r_in
  rw [pk_un h.2, pk_un h.1]
/-- pieces come into the stock of p -/
theorem NI.stk {N N' : Nat → Int32} {c0 c1 c2 c3 c4 p : Nat} {v : Int32} {B : Int} (h : NI N c0 c1 c2 c3 c4 B) (hp : p < c0) (hv : 0 ≤ v.toInt) (hz : (N (7 + p * 23 + 0)).toInt + sI N 287 p c3 + sI N 323 p c4 + v.toInt ≤ B)
    (e0 : N' (7 + p * 23 + 0) = N (7 + p * 23 + 0) + v) (eo : ∀ j, j < 359 → nix j → j ≠ 7 + p * 23 + 0 → N' j = N j) : NI N' c0 c1 c2 c3 c4 B := by
  have k0 := h.wf.1.2
  have k1 := h.wf.2.1.2
  have k2 := h.wf.2.2.1.2
  have bb := h.bb
  have p3 : 0 ≤ sI N 287 p c3 := sI_pos c3 (fun i hi => (h.rq i hi).1)
  have p4 : 0 ≤ sI N 323 p c4 := sI_pos c4 (fun i hi => h.oq i hi)
  have s0 := h.sk p hp
  have h1 : NI (upd N (7 + p * 23 + 0) (N (7 + p * 23 + 0) + v)) c0 c1 c2 c3 c4 B := by
    have eh : ∀ j, 191 ≤ j → upd N (7 + p * 23 + 0) (N (7 + p * 23 + 0) + v) j = N j := fun j hj => pk_un (by omega)
    have eq : ∀ q k, q < c0 → k < 23 → (q ≠ p ∨ k ≠ 0) → upd N (7 + p * 23 + 0) (N (7 + p * 23 + 0) + v) (7 + q * 23 + k) = N (7 + q * 23 + k) := fun q k hq hk h1 => pk_un (by omega)
    refine ⟨h.wf.agree (fun j hj => pk_un (by unfold stru at hj; omega)), fun q hq => ?_, fun i hi => ?_, fun q hq => ?_, fun q hq => ?_, fun i hi => ?_, fun i hi => ?_, fun q hq => ?_, h.bb⟩
    · by_cases e : q = p
      · subst e; rw [pk_us, iadd_i (by omega) (by omega)]; omega
      · rw [eq q 0 hq (by decide) (Or.inl e)]; exact h.sk q hq
    · rw [eh _ (by omega)]; exact h.mq i hi
    · have := h.pt q hq
      unfold Pt at *
      rw [eq q 6 hq (by decide) (Or.inr (by decide)), eq q 2 hq (by decide) (Or.inr (by decide)), eq q 3 hq (by decide) (Or.inr (by decide))]
      exact this
    · rw [eq q 7 hq (by decide) (Or.inr (by decide))]; exact h.hu q hq
    · rw [eh _ (by omega)]; exact h.rq i hi
    · rw [eh _ (by omega)]; exact h.oq i hi
    · rw [sI_eq c3 (fun j h1 h2 => eh j (by omega)), sI_eq c4 (fun j h1 h2 => eh j (by omega))]
      by_cases e : q = p
      · subst e; rw [pk_us, iadd_i (by omega) (by omega)]; omega
      · rw [eq q 0 hq (by decide) (Or.inl e)]; exact h.zz q hq
  refine h1.agree (fun j hj hn => ?_)
  by_cases e : j = 7 + p * 23 + 0
  · subst e; rw [pk_us]; exact e0
  · rw [pk_un e]; exact eo j hj hn e
theorem NI.er1 {N : Nat → Int32} {c0 c1 c2 c c4 i : Nat} {B : Int} (h : NI N c0 c1 c2 (c + 1) c4 B) (hi : i < c + 1) : ∃ c2', c2' ≤ c2 ∧ NI (r_er1 N i c).2 c0 c1 c2' c c4 B ∧ 0 ≤ (r_er1 N i c).1.toInt := by
  obtain ⟨p, p1, p2⟩ := h.wf.2.2.2.2.2.2.2.2.1 i hi
  have k0 := h.wf.1.2
  have k3 := h.wf.2.2.2.1.2
  obtain ⟨f1, f2⟩ := h.fu3 hi
  have hv := h.rq i hi
  have r1 : ∀ k, k < 23 → r_fu N 287 3 i c (7 + p * 23 + k) = N (7 + p * 23 + k) := fun k hk => by
    unfold r_fu
    rw [if_neg (by omega), if_neg (by omega)]
  have z := f2 p p1 p2
  have R := f1.rp p1 hv (by rw [r1 0 (by decide)]; exact z)
  have x := rp_num (f1.pt p p1).1 (f1.hu p p1) hv
  obtain ⟨c2', a1, a2, a3⟩ := R.swA
  unfold r_er1
  dsimp only
  rw [p2, nI_clamp (by omega)]
  split
  · exact ⟨c2, Nat.le_refl _, R, x.1⟩
  · exact ⟨c2', a2, a3, x.1⟩
theorem NI.er {c0 c1 c4 : Nat} {B : Int} : ∀ (n i : Nat) {N : Nat → Int32} {s : Int32} {c2 : Nat}, NI N c0 c1 c2 (i + n) c4 B → ∃ c2' c3', c2' ≤ c2 ∧ c3' ≤ i + n ∧ NI (r_er n i N s).1 c0 c1 c2' c3' c4 B
  | 0, i, N, s, c2, h => ⟨c2, i, Nat.le_refl _, Nat.le_refl _, h⟩
  | n + 1, i, N, s, c2, h => by
    have e : r_er (n + 1) i N s = if N (287 + i * 3 + 2) ≤ N 5 then r_er n i (r_er1 N i (i + n)).2 (s + (r_er1 N i (i + n)).1) else r_er n (i + 1) N s := rfl
    rw [e]
    split
    · obtain ⟨c, a1, a2, a3⟩ := h.er1 (i := i) (c := i + n) (by omega)
      obtain ⟨c2', c3', b1, b2, b3⟩ := NI.er n i (s := s + (r_er1 N i (i + n)).1) a2
      exact ⟨c2', c3', by omega, by omega, b3⟩
    · obtain ⟨c2', c3', b1, b2, b3⟩ := NI.er n (i + 1) (N := N) (s := s) (c2 := c2) (by rw [show i + 1 + n = i + (n + 1) by omega]; exact h)
      exact ⟨c2', c3', b1, by omega, b3⟩
theorem NI.ro1 {N : Nat → Int32} {c0 c1 c2 c3 c i : Nat} {B : Int} (h : NI N c0 c1 c2 c3 (c + 1) B) (hi : i < c + 1) : ∃ c2', c2' ≤ c2 ∧ NI (r_ro1 N i c) c0 c1 c2' c3 c B := by
  obtain ⟨p, p1, p2⟩ := h.wf.2.2.2.2.2.2.2.2.2 i hi
  have k0 := h.wf.1.2
  have k3 := h.wf.2.2.2.1.2
  have k4 := h.wf.2.2.2.2.1.2
  obtain ⟨f1, f2⟩ := h.fu4 hi
  have hv := h.oq i hi
  have r1 : r_fu N 323 4 i c (7 + p * 23 + 0) = N (7 + p * 23 + 0) := by
    unfold r_fu
    rw [if_neg (by omega), if_neg (by omega)]
  have z := f2 p p1 p2
  have R := f1.stk (N' := r_in (r_fu N 323 4 i c) p (N (323 + i * 3 + 1))) p1 hv (by rw [r1]; exact z) in_at (fun j _ hn hj => in_o ⟨hj, fun z => by unfold nix stru at hn; omega⟩)
  obtain ⟨c2', a1, a2, a3⟩ := R.swA
  unfold r_ro1
  rw [p2, nI_clamp (by omega)]
  exact ⟨c2', a2, a3⟩
theorem NI.ro {c0 c1 c3 : Nat} {B : Int} : ∀ (n i : Nat) {N : Nat → Int32} {s : Int32} {c2 : Nat}, NI N c0 c1 c2 c3 (i + n) B → ∃ c2' c4', c2' ≤ c2 ∧ c4' ≤ i + n ∧ NI (r_ro n i N s).1 c0 c1 c2' c3 c4' B
  | 0, i, N, s, c2, h => ⟨c2, i, Nat.le_refl _, Nat.le_refl _, h⟩
  | n + 1, i, N, s, c2, h => by
    have e : r_ro (n + 1) i N s = if N (323 + i * 3 + 2) ≤ N 5 then r_ro n i (r_ro1 N i (i + n)) (s + N (323 + i * 3 + 1)) else r_ro n (i + 1) N s := rfl
    rw [e]
    split
    · obtain ⟨c, a1, a2⟩ := h.ro1 (i := i) (c := i + n) (by omega)
      obtain ⟨c2', c3', b1, b2, b3⟩ := NI.ro n i (s := s + N (323 + i * 3 + 1)) a2
      exact ⟨c2', c3', by omega, by omega, b3⟩
    · obtain ⟨c2', c3', b1, b2, b3⟩ := NI.ro n (i + 1) (N := N) (s := s) (c2 := c2) (by rw [show i + 1 + n = i + (n + 1) by omega]; exact h)
      exact ⟨c2', c3', b1, by omega, b3⟩
end D3

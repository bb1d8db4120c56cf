section D4
theorem sI_mono {N : Nat → Int32} {b p c : Nat} (h : ∀ i, i < c → 0 ≤ (N (b + i * 3 + 1)).toInt) : ∀ n, n ≤ c → sI N b p (c - n) ≤ sI N b p c := by
  intro n
  induction n with
  | zero => intro _; exact Int.le_refl _
  | succ n ih =>
    intro hn
    have := ih (by omega)
    have e : c - n = (c - (n + 1)) + 1 := by omega
    have e2 : sI N b p (c - n) = sI N b p (c - (n + 1)) + (if N (b + (c - (n + 1)) * 3 + 0) = nI p then (N (b + (c - (n + 1)) * 3 + 1)).toInt else 0) := by rw [e]; rfl
    have h2 := h (c - (n + 1)) (by omega)
    have : 0 ≤ (if N (b + (c - (n + 1)) * 3 + 0) = nI p then (N (b + (c - (n + 1)) * 3 + 1)).toInt else 0) := by split <;> omega
    omega
theorem sI_le {N : Nat → Int32} {b p c : Nat} (h : ∀ i, i < c → 0 ≤ (N (b + i * 3 + 1)).toInt) {n : Nat} (hn : n ≤ c) : sI N b p n ≤ sI N b p c := by
  have := sI_mono (p := p) h (c - n) (by omega)
  rw [show c - (c - n) = n by omega] at this
  exact this
theorem pcs_i {N : Nat → Int32} {b p c : Nat} {B : Int} (h : ∀ i, i < c → 0 ≤ (N (b + i * 3 + 1)).toInt) (hB : sI N b p c ≤ B) (hB2 : B ≤ 20000000) : ∀ n, n ≤ c → (s_pcs N b (nI p) n).toInt = sI N b p n
  | 0, _ => rfl
  | n + 1, hn => by
    have ih := pcs_i h hB hB2 n (by omega)
    have h1 := sI_le (p := p) h (n := n) (by omega)
    have h0 := sI_pos (N := N) (b := b) (p := p) n (fun i hi => h i (by omega))
    have h2 := sI_le (p := p) h hn
    have e2 : sI N b p (n + 1) = sI N b p n + (if N (b + n * 3 + 0) = nI p then (N (b + n * 3 + 1)).toInt else 0) := rfl
    have e1 : s_pcs N b (nI p) (n + 1) = s_pcs N b (nI p) n + (if N (b + n * 3 + 0) = nI p then N (b + n * 3 + 1) else 0) := rfl
    have h3 := h n (by omega)
    rw [e1, e2]
    rw [e2] at h2
    by_cases z : N (b + n * 3 + 0) = nI p
    · rw [if_pos z, if_pos z]
      rw [if_pos z] at h2
      rw [iadd_i (by omega) (by omega), ih]
    · rw [if_neg z, if_neg z, Int32.add_zero, ih]; omega
theorem exp_i {N : Nat → Int32} {p c : Nat} {y : Int32} {B : Int} (hy : 0 ≤ y.toInt ∧ y.toInt ≤ 100) (h : ∀ i, i < c → 0 ≤ (N (287 + i * 3 + 1)).toInt ∧ (N (287 + i * 3 + 1)).toInt ≤ 999) (hB : sI N 287 p c ≤ B) (hB2 : B ≤ 20000000) : ∀ n, n ≤ c → 0 ≤ (s_exp N 287 (nI p) y n).toInt ∧ (s_exp N 287 (nI p) y n).toInt ≤ sI N 287 p n
  | 0, _ => ⟨Int.le_refl _, Int.le_refl _⟩
  | n + 1, hn => by
    obtain ⟨i1, i2⟩ := exp_i hy h hB hB2 n (by omega)
    have h' : ∀ i, i < c → 0 ≤ (N (287 + i * 3 + 1)).toInt := fun i hi => (h i hi).1
    have h1 := sI_le (p := p) h' (n := n) (by omega)
    have h2 := sI_le (p := p) h' hn
    have e2 : sI N 287 p (n + 1) = sI N 287 p n + (if N (287 + n * 3 + 0) = nI p then (N (287 + n * 3 + 1)).toInt else 0) := rfl
    have e1 : s_exp N 287 (nI p) y (n + 1) = s_exp N 287 (nI p) y n + (if N (287 + n * 3 + 0) = nI p then N (287 + n * 3 + 1) * y / 100 else 0) := rfl
    obtain ⟨h3, h4⟩ := h n (by omega)
    rw [e1, e2]
    rw [e2] at h2
    by_cases z : N (287 + n * 3 + 0) = nI p
    · rw [if_pos z, if_pos z]
      rw [if_pos z] at h2
      generalize N (287 + n * 3 + 1) = v at *
      have hm1 : 0 ≤ v.toInt * y.toInt := Int.mul_nonneg h3 hy.1
      have hm2 : v.toInt * y.toInt ≤ v.toInt * 100 := Int.mul_le_mul_of_nonneg_left hy.2 h3
      have em : (v * y).toInt = v.toInt * y.toInt := imul_i (by omega) (by omega)
      have ed : (v * y / 100).toInt = v.toInt * y.toInt / 100 := by rw [idiv_i (by omega), em]
      rw [iadd_i (by omega) (by omega), ed]
      omega
    · rw [if_neg z, if_neg z, Int32.add_zero]; omega
theorem miss_i {N : Nat → Int32} {P : Int32} {c : Nat} (hc : c ≤ 12) (h : Mq N c) : ∀ n, n ≤ c → 0 ≤ (s_miss N P n).toInt ∧ (s_miss N P n).toInt ≤ 999 * n
  | 0, _ => ⟨Int.le_refl _, Int.le_refl _⟩
  | n + 1, hn => by
    obtain ⟨i1, i2⟩ := miss_i (P := P) hc h n (by omega)
    obtain ⟨h1, h2⟩ := h n (by omega)
    have e1 : s_miss N P (n + 1) = s_miss N P n + (if P < 0 ∨ N (227 + n * 5 + 1) = P then N (227 + n * 5 + 3) else 0) := rfl
    rw [e1]
    by_cases z : P < 0 ∨ N (227 + n * 5 + 1) = P
    · rw [if_pos z, iadd_i (by omega) (by omega)]; omega
    · rw [if_neg z, Int32.add_zero]; omega
/-- the position, in numbers -/
theorem pos_i {N : Nat → Int32} {c0 c1 c2 c3 c4 p : Nat} {B : Int} (h : NI N c0 c1 c2 c3 c4 B) (hp : p < c0) : ∃ e m : Int, 0 ≤ e ∧ e ≤ sI N 287 p c3 ∧ 0 ≤ m ∧ m ≤ 999 * c2 ∧ (s_pos N p).toInt = (N (7 + p * 23 + 0)).toInt + sI N 323 p c4 + e - m ∧ 0 ≤ sI N 323 p c4 := by
  have k2 := h.wf.2.2.1.2
  have z2 := h.wf.2.2.1
  have z3 := h.wf.2.2.2.1
  have z4 := h.wf.2.2.2.2.1
  have bb := h.bb
  have hs := h.sk p hp
  have hz := h.zz p hp
  have p3 : 0 ≤ sI N 287 p c3 := sI_pos c3 (fun i hi => (h.rq i hi).1)
  have p4 : 0 ≤ sI N 323 p c4 := sI_pos c4 (fun i hi => h.oq i hi)
  have a1 := pcs_i (p := p) (B := B) h.oq (by omega) bb.2 c4 (Nat.le_refl _)
  obtain ⟨b1, b2⟩ := exp_i (p := p) (B := B) (h.pt p hp).1 h.rq (by omega) bb.2 c3 (Nat.le_refl _)
  obtain ⟨m1, m2⟩ := miss_i (P := nI p) k2 h.mq c2 (Nat.le_refl _)
  refine ⟨_, _, b1, b2, m1, m2, ?_, p4⟩
  unfold s_pos
  rw [z2.1, z3.1, z4.1, nI_clamp (by omega), nI_clamp (by omega), nI_clamp (by omega), s_rep_exp, s_ord_pcs]
  have e1 : (N (7 + p * 23 + 0) - s_miss N (nI p) c2).toInt = (N (7 + p * 23 + 0)).toInt - (s_miss N (nI p) c2).toInt := isub_i (by omega) (by omega)
  have e2 : (N (7 + p * 23 + 0) - s_miss N (nI p) c2 + s_pcs N 323 (nI p) c4).toInt = (N (7 + p * 23 + 0)).toInt - (s_miss N (nI p) c2).toInt + sI N 323 p c4 := by
    rw [iadd_i (by omega) (by omega), e1, a1]
  rw [iadd_i (by omega) (by omega), e2]
  omega
/-- what is ordered -/
theorem want_i {N : Nat → Int32} {c0 c1 c2 c3 c4 p : Nat} {B : Int} (h : NI N c0 c1 c2 c3 c4 B) (hp : p < c0) : 0 ≤ (s_want N p).toInt ∧ ((s_want N p).toInt = 0 ∨ (N (7 + p * 23 + 0)).toInt + sI N 287 p c3 + sI N 323 p c4 + (s_want N p).toInt ≤ 24975) := by
  have k2 := h.wf.2.2.1.2
  have k3 := h.wf.2.2.2.1.2
  have bb := h.bb
  have hs := h.sk p hp
  have hz := h.zz p hp
  obtain ⟨l1, l2, l3⟩ := (h.pt p hp).2
  obtain ⟨e, m, a1, a2, a3, a4, a5, a6⟩ := pos_i h hp
  have s3 : ∀ n, n ≤ c3 → sI N 287 p n ≤ 999 * n := by
    intro n
    induction n with
    | zero => intro _; exact Int.le_refl _
    | succ n ih =>
      intro hn
      have := ih (by omega)
      have h2 := h.rq n (by omega)
      have e2 : sI N 287 p (n + 1) = sI N 287 p n + (if N (287 + n * 3 + 0) = nI p then (N (287 + n * 3 + 1)).toInt else 0) := rfl
      rw [e2]
      split <;> omega
  have s3' := s3 c3 (Nat.le_refl _)
  unfold s_want
  by_cases z : s_pos N p < N (7 + p * 23 + 2)
  · rw [if_pos z]
    have z' := Int32.lt_iff_toInt_lt.mp z
    rw [isub_i (by omega) (by omega)]
    omega
  · rw [if_neg z]
    exact ⟨Int.le_refl _, Or.inl rfl⟩
theorem NI.start4 {N : Nat → Int32} {c0 c1 c2 c3 c p : Nat} {v e : Int32} {B : Int} (h : NI N c0 c1 c2 c3 c B) (hc : c < 12) (hp : p < c0) (hv : 0 ≤ v.toInt) (hz : (N (7 + p * 23 + 0)).toInt + sI N 287 p c3 + sI N 323 p c + v.toInt ≤ B) : NI (r_start N 323 4 c (nI p) v e) c0 c1 c2 c3 (c + 1) B := by
  have k0 := h.wf.1.2
  have k2 := h.wf.2.2.1.2
  have k3 := h.wf.2.2.2.1.2
  have lo : ∀ j, j ≠ 4 → (j < 323 + c * 3 ∨ 323 + c * 3 + 3 ≤ j) → r_start N 323 4 c (nI p) v e j = N j := fun j h1 h2 => by
    unfold r_start r_st3
    rw [pk_un h1, pk_un (by omega), pk_un (by omega), pk_un (by omega)]
  have e0 : r_start N 323 4 c (nI p) v e (323 + c * 3 + 0) = nI p := by
    unfold r_start r_st3
    rw [pk_un (by omega), pk_un (by omega), pk_un (by omega), Nat.add_zero, pk_us]
  have e1 : r_start N 323 4 c (nI p) v e (323 + c * 3 + 1) = v := by
    unfold r_start r_st3
    rw [pk_un (by omega), pk_un (by omega), pk_us]
  have ep : ∀ q k, q < c0 → k < 23 → r_start N 323 4 c (nI p) v e (7 + q * 23 + k) = N (7 + q * 23 + k) := fun q k hq hk => lo _ (by omega) (by omega)
  refine ⟨h.wf.start4 hc hp v e, fun q hq => ?_, fun i hi => ?_, fun q hq => ?_, fun q hq => ?_, fun i hi => ?_, fun i hi => ?_, fun q hq => ?_, h.bb⟩
  · rw [ep q 0 hq (by decide)]; exact h.sk q hq
  · rw [lo _ (by omega) (by omega)]; exact h.mq i hi
  · have := h.pt q hq
    unfold Pt at *
    rw [ep q 6 hq (by decide), ep q 2 hq (by decide), ep q 3 hq (by decide)]
    exact this
  · rw [ep q 7 hq (by decide)]; exact h.hu q hq
  · rw [lo _ (by omega) (by omega)]; exact h.rq i hi
  · by_cases z : i = c
    · subst z; rw [e1]; exact hv
    · rw [lo _ (by omega) (by omega)]; exact h.oq i (by omega)
  · have s3 : sI (r_start N 323 4 c (nI p) v e) 287 q c3 = sI N 287 q c3 := sI_eq c3 (fun j h1 h2 => lo j (by omega) (by omega))
    have s4 : sI (r_start N 323 4 c (nI p) v e) 323 q c = sI N 323 q c := sI_eq c (fun j h1 h2 => lo j (by omega) (by omega))
    have es : sI (r_start N 323 4 c (nI p) v e) 323 q (c + 1) = sI (r_start N 323 4 c (nI p) v e) 323 q c + (if r_start N 323 4 c (nI p) v e (323 + c * 3 + 0) = nI q then (r_start N 323 4 c (nI p) v e (323 + c * 3 + 1)).toInt else 0) := rfl
    rw [ep q 0 hq (by decide), es, s3, s4, e0, e1]
    have zz := h.zz q hq
    by_cases z : q = p
    · subst z; rw [if_pos rfl]; omega
    · rw [if_neg (fun y => z ((nI_eq (by omega) (by omega)).mp y).symm)]; omega
theorem NI.mo1 {N : Nat → Int32} {c0 c1 c2 c3 c4 i : Nat} {B : Int} (h : NI N c0 c1 c2 c3 c4 B) (hi : i < c0) : ∃ c4', NI (r_mo1 N i) c0 c1 c2 c3 c4' B := by
  have bb := h.bb
  have z4 := h.wf.2.2.2.2.1
  obtain ⟨w1, w2⟩ := want_i h hi
  unfold r_mo1
  by_cases z : 0 < s_want N i ∧ N 4 < 12
  · rw [if_pos z, z4.1, nI_clamp (by omega)]
    rw [z4.1] at z
    have hc : c4 < 12 := (nI_ltI (by omega) (by decide)).mp (show nI c4 < nI 12 from z.2)
    have := i_lt0.mp z.1
    exact ⟨c4 + 1, h.start4 hc hi w1 (by omega)⟩
  · rw [if_neg z]
    exact ⟨c4, h⟩
theorem NI.mo {c0 c1 c2 c3 : Nat} {B : Int} : ∀ (n i : Nat) {N : Nat → Int32} {c4 : Nat}, NI N c0 c1 c2 c3 c4 B → i + n ≤ c0 → ∃ c4', NI (r_mo n i N) c0 c1 c2 c3 c4' B
  | 0, _, _, c4, h, _ => ⟨c4, h⟩
  | n + 1, i, N, c4, h, hn => by
    obtain ⟨c, h1⟩ := h.mo1 (i := i) (by omega)
    exact NI.mo n (i + 1) h1 (by omega)
theorem NI.day {N : Nat → Int32} {c0 c1 c2 c3 c4 : Nat} {B : Int} (h : NI N c0 c1 c2 c3 c4 B) : ∃ c2' c3' c4', NI (r_day N).1 c0 c1 c2' c3' c4' B := by
  have h1 : NI (upd N 5 (N 5 + 1)) c0 c1 c2 c3 c4 B := h.agree (fun j _ hn => pk_un (by unfold nix stru at hn; omega))
  have k3 := h1.wf.2.2.2.1
  have k0 := h1.wf.1
  unfold r_day
  dsimp only
  rw [k3.1, nI_clamp (by omega)]
  obtain ⟨c2', c3', a1, a2, a3⟩ := NI.er c3 0 (N := upd N 5 (N 5 + 1)) (s := 0) (c2 := c2) (by rw [Nat.zero_add]; exact h1)
  have k4 := a3.wf.2.2.2.2.1
  rw [k4.1, nI_clamp (by omega)]
  obtain ⟨c2'', c4', b1, b2, b3⟩ := NI.ro c4 0 (s := 0) (c2 := c2') (by rw [Nat.zero_add]; exact a3)
  have k0' := b3.wf.1
  rw [k0'.1, nI_clamp (by omega)]
  obtain ⟨c, d1⟩ := NI.mo c0 0 b3 (by omega)
  exact ⟨c2'', c3', c, d1⟩
theorem NI.days {c0 c1 : Nat} {N : Nat → Int32} {c2 c3 c4 : Nat} {B : Int} (h : NI N c0 c1 c2 c3 c4 B) : ∀ k : Nat, ∃ c2' c3' c4', NI (r_days k N).1 c0 c1 c2' c3' c4' B
  | 0 => ⟨c2, c3, c4, h⟩
  | k + 1 => by
    obtain ⟨a, b, c, h1⟩ := NI.days h k
    exact h1.day
end D4

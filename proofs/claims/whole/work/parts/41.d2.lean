section D2
/-- pieces of part p among the first n of those under way from b -/
def sI (N : Nat → Int32) (b p : Nat) : Nat → Int
  | 0 => 0
  | k + 1 => sI N b p k + (if N (b + k * 3 + 0) = nI p then (N (b + k * 3 + 1)).toInt else 0)
theorem sI_eq {N N' : Nat → Int32} {b p : Nat} : ∀ n, (∀ j, b ≤ j → j < b + n * 3 → N' j = N j) → sI N' b p n = sI N b p n
  | 0, _ => rfl
  | n + 1, h => by
    show sI N' b p n + _ = sI N b p n + _
    rw [sI_eq n (fun j h1 h2 => h j h1 (by omega)), h (b + n * 3 + 0) (by omega) (by omega), h (b + n * 3 + 1) (by omega) (by omega)]
theorem sI_fu {N : Nat → Int32} {b k i c p : Nat} (hk : k < b) (hi : i < c + 1) : ∀ n, n ≤ c → sI (r_fu N b k i c) b p n = if n ≤ i then sI N b p n else sI N b p (n + 1) - (if N (b + i * 3 + 0) = nI p then (N (b + i * 3 + 1)).toInt else 0)
  | 0, _ => by rw [if_pos (Nat.zero_le i)]; rfl
  | n + 1, hn => by
    have ih := sI_fu (N := N) (p := p) hk hi n (by omega)
    show sI _ b p n + (if _ = _ then _ else _) = _
    rw [ih]
    have e : ∀ f, f < 3 → r_fu N b k i c (b + n * 3 + f) = if n < i then N (b + n * 3 + f) else N (b + (n + 1) * 3 + f) := fun f hf => by
      unfold r_fu
      by_cases h : n < i
      · rw [if_pos h, if_neg (by omega), if_neg (by omega)]
      · rw [if_neg h, if_pos (by omega), show b + n * 3 + f + 3 = b + (n + 1) * 3 + f by omega]
    rw [e 0 (by decide), e 1 (by decide)]
    by_cases h : n < i
    · rw [if_pos h, if_pos h, if_pos (show n ≤ i by omega), if_pos (show n + 1 ≤ i by omega)]; rfl
    · rw [if_neg h, if_neg h, if_neg (show ¬ n + 1 ≤ i by omega)]
      have e2 : sI N b p (n + 1 + 1) = sI N b p (n + 1) + (if N (b + (n + 1) * 3 + 0) = nI p then (N (b + (n + 1) * 3 + 1)).toInt else 0) := rfl
      rw [e2]
      by_cases h2 : n = i
      · subst h2
        rw [if_pos (Nat.le_refl n)]
        have e3 : sI N b p (n + 1) = sI N b p n + (if N (b + n * 3 + 0) = nI p then (N (b + n * 3 + 1)).toInt else 0) := rfl
        rw [e3]
        omega
      · rw [if_neg (show ¬ n ≤ i by omega)]
        omega
theorem sI_pos {N : Nat → Int32} {b p : Nat} : ∀ n, (∀ i, i < n → 0 ≤ (N (b + i * 3 + 1)).toInt) → 0 ≤ sI N b p n
  | 0, _ => Int.le_refl _
  | n + 1, h => by
    have := sI_pos (N := N) (b := b) (p := p) n (fun i hi => h i (by omega))
    have h2 := h n (by omega)
    show 0 ≤ sI N b p n + (if _ then _ else _)
    split <;> omega
/-- the numbers of a part are in their ranges -/
def Pt (N : Nat → Int32) (p : Nat) : Prop := (0 ≤ (N (7 + p * 23 + 6)).toInt ∧ (N (7 + p * 23 + 6)).toInt ≤ 100) ∧ (0 ≤ (N (7 + p * 23 + 2)).toInt ∧ (N (7 + p * 23 + 2)).toInt ≤ (N (7 + p * 23 + 3)).toInt ∧ (N (7 + p * 23 + 3)).toInt ≤ 999)
/-- the numbers that change by themselves are in their ranges -/
def NI (N : Nat → Int32) (c0 c1 c2 c3 c4 : Nat) (B : Int) : Prop := (WFc N c0 c1 c2 c3 c4) ∧ (Sk N c0) ∧ (Mq N c2) ∧ (∀ p, p < c0 → Pt N p) ∧ (∀ p, p < c0 → 0 ≤ (N (7 + p * 23 + 7)).toInt ∧ (N (7 + p * 23 + 7)).toInt ≤ 99) ∧ (∀ i, i < c3 → 0 ≤ (N (287 + i * 3 + 1)).toInt ∧ (N (287 + i * 3 + 1)).toInt ≤ 999) ∧ (∀ i, i < c4 → 0 ≤ (N (323 + i * 3 + 1)).toInt) ∧ (∀ p, p < c0 → (N (7 + p * 23 + 0)).toInt + sI N 287 p c3 + sI N 323 p c4 ≤ B) ∧ (24975 ≤ B ∧ B ≤ 20000000)
theorem NI.wf {N : Nat → Int32} {c0 c1 c2 c3 c4 : Nat} {B : Int} (h : NI N c0 c1 c2 c3 c4 B) : WFc N c0 c1 c2 c3 c4 := h.1
theorem NI.sk {N : Nat → Int32} {c0 c1 c2 c3 c4 : Nat} {B : Int} (h : NI N c0 c1 c2 c3 c4 B) : Sk N c0 := h.2.1
theorem NI.mq {N : Nat → Int32} {c0 c1 c2 c3 c4 : Nat} {B : Int} (h : NI N c0 c1 c2 c3 c4 B) : Mq N c2 := h.2.2.1
theorem NI.pt {N : Nat → Int32} {c0 c1 c2 c3 c4 : Nat} {B : Int} (h : NI N c0 c1 c2 c3 c4 B) : ∀ p, p < c0 → Pt N p := h.2.2.2.1
theorem NI.hu {N : Nat → Int32} {c0 c1 c2 c3 c4 : Nat} {B : Int} (h : NI N c0 c1 c2 c3 c4 B) : ∀ p, p < c0 → 0 ≤ (N (7 + p * 23 + 7)).toInt ∧ (N (7 + p * 23 + 7)).toInt ≤ 99 := h.2.2.2.2.1
theorem NI.rq {N : Nat → Int32} {c0 c1 c2 c3 c4 : Nat} {B : Int} (h : NI N c0 c1 c2 c3 c4 B) : ∀ i, i < c3 → 0 ≤ (N (287 + i * 3 + 1)).toInt ∧ (N (287 + i * 3 + 1)).toInt ≤ 999 := h.2.2.2.2.2.1
theorem NI.oq {N : Nat → Int32} {c0 c1 c2 c3 c4 : Nat} {B : Int} (h : NI N c0 c1 c2 c3 c4 B) : ∀ i, i < c4 → 0 ≤ (N (323 + i * 3 + 1)).toInt := h.2.2.2.2.2.2.1
theorem NI.zz {N : Nat → Int32} {c0 c1 c2 c3 c4 : Nat} {B : Int} (h : NI N c0 c1 c2 c3 c4 B) : ∀ p, p < c0 → (N (7 + p * 23 + 0)).toInt + sI N 287 p c3 + sI N 323 p c4 ≤ B := h.2.2.2.2.2.2.2.1
theorem NI.bb {N : Nat → Int32} {c0 c1 c2 c3 c4 : Nat} {B : Int} (h : NI N c0 c1 c2 c3 c4 B) : 24975 ≤ B ∧ B ≤ 20000000 := h.2.2.2.2.2.2.2.2
theorem imul_i {a b : Int32} (h1 : -2147483648 ≤ a.toInt * b.toInt) (h2 : a.toInt * b.toInt < 2147483648) : (a * b).toInt = a.toInt * b.toInt := by
  rw [Int32.toInt_mul]
  exact Int.bmod_eq_of_le (by omega) (by omega)
theorem idiv_i {a : Int32} (h : 0 ≤ a.toInt) : (a / 100).toInt = a.toInt / 100 := by
  have := i32_hi a
  rw [Int32.toInt_div, show (100 : Int32).toInt = 100 from rfl, Int.tdiv_eq_ediv_of_nonneg h]
  exact Int.bmod_eq_of_le (by omega) (by omega)
/-- what a repair gives -/
theorem rp_num {N : Nat → Int32} {p : Nat} {v : Int32} (hy : 0 ≤ (N (7 + p * 23 + 6)).toInt ∧ (N (7 + p * 23 + 6)).toInt ≤ 100) (hh : 0 ≤ (N (7 + p * 23 + 7)).toInt ∧ (N (7 + p * 23 + 7)).toInt ≤ 99) (hv : 0 ≤ v.toInt ∧ v.toInt ≤ 999) :
    0 ≤ (s_rp N p v).toInt ∧ (s_rp N p v).toInt ≤ v.toInt ∧ 0 ≤ (N (7 + p * 23 + 7) + v * N (7 + p * 23 + 6) - 100 * s_rp N p v).toInt ∧ (N (7 + p * 23 + 7) + v * N (7 + p * 23 + 6) - 100 * s_rp N p v).toInt ≤ 99 := by
  unfold s_rp
  generalize N (7 + p * 23 + 6) = y at *
  generalize N (7 + p * 23 + 7) = g at *
  have hm1 : 0 ≤ v.toInt * y.toInt := Int.mul_nonneg hv.1 hy.1
  have hm2 : v.toInt * y.toInt ≤ v.toInt * 100 := Int.mul_le_mul_of_nonneg_left hy.2 hv.1
  have em : (v * y).toInt = v.toInt * y.toInt := imul_i (by omega) (by omega)
  have es : (g + v * y).toInt = g.toInt + v.toInt * y.toInt := by rw [iadd_i (by omega) (by omega), em]
  have ed : ((g + v * y) / 100).toInt = (g.toInt + v.toInt * y.toInt) / 100 := by rw [idiv_i (by omega), es]
  have ex : (lss ((g + v * y) / 100) v).toInt = (g.toInt + v.toInt * y.toInt) / 100 := by
    rw [lss_i, ed]
    omega
  have e1 : (100 * lss ((g + v * y) / 100) v).toInt = 100 * ((g.toInt + v.toInt * y.toInt) / 100) := by
    rw [imul_i, ex]
    · rfl
    · rw [ex, show (100 : Int32).toInt = 100 from rfl]; omega
    · rw [ex, show (100 : Int32).toInt = 100 from rfl]; omega
  rw [isub_i, e1, es, ex]
  · omega
  · rw [e1, es]; omega
  · rw [e1, es]; omega
theorem rp_at {N : Nat → Int32} {p : Nat} {v : Int32} : r_rp N p v (7 + p * 23 + 0) = N (7 + p * 23 + 0) + s_rp N p v ∧ r_rp N p v (7 + p * 23 + 7) = N (7 + p * 23 + 7) + v * N (7 + p * 23 + 6) - 100 * s_rp N p v := by
  unfold r_rp
  refine ⟨?_, ?_⟩
  · rw [pk_un (by omega), pk_un (by omega), pk_us, pk_un (by omega)]
  · rw [pk_un (by omega), pk_un (by omega), pk_un (by omega), pk_us]
theorem rp_o {N : Nat → Int32} {p : Nat} {v : Int32} {j : Nat} (h : j ≠ 7 + p * 23 + 0 ∧ j ≠ 7 + p * 23 + 7 ∧ j ≠ 7 + p * 23 + 18 ∧ j ≠ 7 + p * 23 + 19) : r_rp N p v j = N j := by
  unfold r_rp
  rw [pk_un h.2.2.2, pk_un h.2.2.1, pk_un h.1, pk_un h.2.1]
/-- serving the waiting requests keeps all in its ranges -/
theorem NI.swA {N : Nat → Int32} {c0 c1 c2 c3 c4 : Nat} {B : Int} (h : NI N c0 c1 c2 c3 c4 B) : ∃ c, c + (r_swA N).2 = c2 ∧ c ≤ c2 ∧ NI (r_swA N).1 c0 c1 c c3 c4 B := by
  obtain ⟨c, a1, a2, a3, a4, a5, a6⟩ := swA_num h.wf h.sk h.mq
  have k0 := h.wf.1.2
  have k3 := h.wf.2.2.2.1.2
  have k4 := h.wf.2.2.2.2.1.2
  have ox : ∀ j, 287 ≤ j → (r_swA N).1 j = N j := fun j hj => a6.1 j ⟨by omega, by omega, fun q hq => by omega⟩
  have px : ∀ p k, p < c0 → k < 23 → k ≠ 0 → k ≠ 20 → (r_swA N).1 (7 + p * 23 + k) = N (7 + p * 23 + k) := fun p k hp hk h0 h2 => a6.1 _ ⟨by omega, by omega, fun q hq => by omega⟩
  refine ⟨c, a1, a3, a2, a4, a5, fun p hp => ?_, fun p hp => ?_, fun i hi => ?_, fun i hi => ?_, fun p hp => ?_, h.bb⟩
  · have := h.pt p hp
    unfold Pt at *
    rw [px p 6 hp (by decide) (by decide) (by decide), px p 2 hp (by decide) (by decide) (by decide), px p 3 hp (by decide) (by decide) (by decide)]
    exact this
  · rw [px p 7 hp (by decide) (by decide) (by decide)]
    exact h.hu p hp
  · rw [ox _ (by omega)]; exact h.rq i hi
  · rw [ox _ (by omega)]; exact h.oq i hi
  · have z := h.zz p hp
    have y := a6.2 p hp
    rw [sI_eq c3 (fun j h1 h2 => ox j (by omega)), sI_eq c4 (fun j h1 h2 => ox j (by omega))]
    omega
/-- a part takes in what was under way -/
theorem NI.fu3 {N : Nat → Int32} {c0 c1 c2 c c4 i : Nat} {B : Int} (h : NI N c0 c1 c2 (c + 1) c4 B) (hi : i < c + 1) : NI (r_fu N 287 3 i c) c0 c1 c2 c c4 B ∧ ∀ p, p < c0 → N (287 + i * 3 + 0) = nI p → (N (7 + p * 23 + 0)).toInt + sI (r_fu N 287 3 i c) 287 p c + sI (r_fu N 287 3 i c) 323 p c4 + (N (287 + i * 3 + 1)).toInt ≤ B := by
  have k0 := h.wf.1.2
  have k1 := h.wf.2.1.2
  have k2 := h.wf.2.2.1.2
  have k3 := h.wf.2.2.2.1.2
  have k4 := h.wf.2.2.2.2.1.2
  have lo : ∀ j, j < 287 → j ≠ 3 → r_fu N 287 3 i c j = N j := fun j h1 h2 => by
    unfold r_fu
    rw [if_neg (by omega), if_neg h2]
  have hi2 : ∀ j, 287 + c * 3 ≤ j → r_fu N 287 3 i c j = N j := fun j h1 => by
    unfold r_fu
    rw [if_neg (by omega), if_neg (by omega)]
  have s4 : ∀ p, sI (r_fu N 287 3 i c) 323 p c4 = sI N 323 p c4 := fun p => sI_eq c4 (fun j h1 h2 => hi2 j (by omega))
  have s3 : ∀ p, sI (r_fu N 287 3 i c) 287 p c = sI N 287 p (c + 1) - (if N (287 + i * 3 + 0) = nI p then (N (287 + i * 3 + 1)).toInt else 0) := fun p => by
    rw [sI_fu (by decide) hi c (Nat.le_refl c)]
    by_cases e : c ≤ i
    · rw [if_pos e, show i = c by omega]
      have e2 : sI N 287 p (c + 1) = sI N 287 p c + (if N (287 + c * 3 + 0) = nI p then (N (287 + c * 3 + 1)).toInt else 0) := rfl
      rw [e2]; omega
    · rw [if_neg e]
  have rq := h.rq i hi
  refine ⟨⟨h.wf.fu hi, fun p hp => ?_, fun i hi => ?_, fun p hp => ?_, fun p hp => ?_, fun k hk => ?_, fun i hi => ?_, fun p hp => ?_, h.bb⟩, fun p hp e => ?_⟩
  · rw [lo _ (by omega) (by omega)]; exact h.sk p hp
  · rw [lo _ (by omega) (by omega)]; exact h.mq i hi
  · have := h.pt p hp
    unfold Pt at *
    rw [lo _ (by omega) (by omega), lo _ (by omega) (by omega), lo _ (by omega) (by omega)]
    exact this
  · rw [lo _ (by omega) (by omega)]; exact h.hu p hp
  · unfold r_fu
    by_cases hk2 : k < i
    · rw [if_neg (by omega), if_neg (by omega)]
      exact h.rq k (by omega)
    · rw [if_pos (by omega), show 287 + k * 3 + 1 + 3 = 287 + (k + 1) * 3 + 1 by omega]
      exact h.rq (k + 1) (by omega)
  · rw [hi2 _ (by omega)]; exact h.oq i hi
  · rw [lo _ (by omega) (by omega), s4, s3]
    have := h.zz p hp
    split <;> omega
  · rw [s4, s3, if_pos e]
    have := h.zz p hp
    omega
theorem NI.fu4 {N : Nat → Int32} {c0 c1 c2 c3 c i : Nat} {B : Int} (h : NI N c0 c1 c2 c3 (c + 1) B) (hi : i < c + 1) : NI (r_fu N 323 4 i c) c0 c1 c2 c3 c B ∧ ∀ p, p < c0 → N (323 + i * 3 + 0) = nI p → (N (7 + p * 23 + 0)).toInt + sI (r_fu N 323 4 i c) 287 p c3 + sI (r_fu N 323 4 i c) 323 p c + (N (323 + i * 3 + 1)).toInt ≤ B := by
  have k0 := h.wf.1.2
  have k1 := h.wf.2.1.2
  have k2 := h.wf.2.2.1.2
  have k3 := h.wf.2.2.2.1.2
  have k4 := h.wf.2.2.2.2.1.2
  have lo : ∀ j, j < 323 → j ≠ 4 → r_fu N 323 4 i c j = N j := fun j h1 h2 => by
    unfold r_fu
    rw [if_neg (by omega), if_neg h2]
  have s4 : ∀ p, sI (r_fu N 323 4 i c) 287 p c3 = sI N 287 p c3 := fun p => sI_eq c3 (fun j h1 h2 => lo j (by omega) (by omega))
  have s3 : ∀ p, sI (r_fu N 323 4 i c) 323 p c = sI N 323 p (c + 1) - (if N (323 + i * 3 + 0) = nI p then (N (323 + i * 3 + 1)).toInt else 0) := fun p => by
    rw [sI_fu (by decide) hi c (Nat.le_refl c)]
    by_cases e : c ≤ i
    · rw [if_pos e, show i = c by omega]
      have e2 : sI N 323 p (c + 1) = sI N 323 p c + (if N (323 + c * 3 + 0) = nI p then (N (323 + c * 3 + 1)).toInt else 0) := rfl
      rw [e2]; omega
    · rw [if_neg e]
  have rq := h.oq i hi
  refine ⟨⟨h.wf.fu4 hi, fun p hp => ?_, fun i hi => ?_, fun p hp => ?_, fun p hp => ?_, fun i hi => ?_, fun k hk => ?_, fun p hp => ?_, h.bb⟩, fun p hp e => ?_⟩
  · rw [lo _ (by omega) (by omega)]; exact h.sk p hp
  · rw [lo _ (by omega) (by omega)]; exact h.mq i hi
  · have := h.pt p hp
    unfold Pt at *
    rw [lo _ (by omega) (by omega), lo _ (by omega) (by omega), lo _ (by omega) (by omega)]
    exact this
  · rw [lo _ (by omega) (by omega)]; exact h.hu p hp
  · rw [lo _ (by omega) (by omega)]; exact h.rq i hi
  · unfold r_fu
    by_cases hk2 : k < i
    · rw [if_neg (by omega), if_neg (by omega)]
      exact h.oq k (by omega)
    · rw [if_pos (by omega), show 323 + k * 3 + 1 + 3 = 323 + (k + 1) * 3 + 1 by omega]
      exact h.oq (k + 1) (by omega)
  · rw [lo _ (by omega) (by omega), s4, s3]
    have := h.zz p hp
    split <;> omega
  · rw [s4, s3, if_pos e]
    have := h.zz p hp
    omega
end D2

section C1
/-- where the class keeps number j of the row: address and place; w: its world, ρ: the addresses of requests, repairs, orders in their order -/
def loc (w : Nat) (ρ : Nat → Nat) (j : Nat) : Nat × Nat :=
  if j < 7 then (if j = 3 then (w + 4, 1) else if j = 4 then (w + 18, 1) else (w, if j = 0 then 1 else if j = 1 then 3 else if j = 2 then 5 else if j = 5 then 9 else 6))
  else if j < 191 then (if (j - 7) % 23 < 8 then (w + 32 + 3 * ((j - 7) / 23), (j - 7) % 23) else if (j - 7) % 23 = 8 then (w + 32 + 3 * ((j - 7) / 23), 10) else if (j - 7) % 23 < 13 then (w + 33 + 3 * ((j - 7) / 23), (j - 7) % 23 - 9) else if (j - 7) % 23 < 21 then (w + 34 + 3 * ((j - 7) / 23), (j - 7) % 23 - 13) else (w + 32 + 3 * ((j - 7) / 23), (j - 7) % 23 - 13))
  else if j < 227 then (if (j - 191) % 9 = 0 then (w + 56 + 3 * ((j - 191) / 9), 0) else if (j - 191) % 9 % 2 = 1 then (w + 57 + 3 * ((j - 191) / 9), (j - 191) % 9 / 2) else (w + 58 + 3 * ((j - 191) / 9), (j - 191) % 9 / 2 - 1))
  else if j < 287 then (ρ ((j - 227) / 5), (j - 227) % 5)
  else (ρ (12 + (j - 287) / 3), (j - 287) % 3)
/-- the addresses of rows are in their ranges and differ -/
def RhoOk (w : Nat) (ρ : Nat → Nat) : Prop := (∀ i, i < 12 → w + 68 ≤ ρ i ∧ ρ i < w + 80) ∧ (∀ i, i < 12 → w + 6 ≤ ρ (12 + i) ∧ ρ (12 + i) < w + 18) ∧ (∀ i, i < 12 → w + 20 ≤ ρ (24 + i) ∧ ρ (24 + i) < w + 32) ∧ (∀ i j, i < 36 → j < 36 → ρ i = ρ j → i = j)
def linv (o k : Nat) : Nat :=
  if o = 0 then (if k = 1 then 0 else if k = 3 then 1 else if k = 5 then 2 else if k = 9 then 5 else 6)
  else if o = 4 then 3 else if o = 18 then 4
  else if o < 56 then (if (o - 32) % 3 = 0 then (if k < 8 then 7 + 23 * ((o - 32) / 3) + k else if k = 10 then 7 + 23 * ((o - 32) / 3) + 8 else 7 + 23 * ((o - 32) / 3) + k + 13) else if (o - 32) % 3 = 1 then 7 + 23 * ((o - 32) / 3) + 9 + k else 7 + 23 * ((o - 32) / 3) + 13 + k)
  else (if (o - 56) % 3 = 0 then 191 + 9 * ((o - 56) / 3) else if (o - 56) % 3 = 1 then 191 + 9 * ((o - 56) / 3) + 1 + 2 * k else 191 + 9 * ((o - 56) / 3) + 2 + 2 * k)
theorem linv_loc (ρ : Nat → Nat) (j : Nat) (hj : j < 227) : linv (loc 0 ρ j).1 (loc 0 ρ j).2 = j := by
  have : ∀ j : Fin 227, linv (loc 0 (fun _ => 0) j).1 (loc 0 (fun _ => 0) j).2 = j := by decide +kernel
  have h := this ⟨j, hj⟩
  have e : loc 0 ρ j = loc 0 (fun _ => 0) j := by
    unfold loc
    rw [if_pos hj, if_pos hj]
  rw [e]; exact h
theorem loc_w (w : Nat) (ρ : Nat → Nat) (j : Nat) (hj : j < 227) : loc w ρ j = (w + (loc 0 ρ j).1, (loc 0 ρ j).2) := by
  unfold loc
  by_cases h1 : j < 7
  · rw [if_pos h1, if_pos h1]
    split
    · rfl
    · split <;> rfl
  · rw [if_neg h1, if_neg h1]
    by_cases h2 : j < 191
    · rw [if_pos h2, if_pos h2]
      refine Prod.ext ?_ ?_
      · dsimp only; (repeat' split) <;> dsimp only <;> omega
      · dsimp only; (repeat' split) <;> rfl
    · rw [if_neg h2, if_neg h2, if_pos hj, if_pos hj]
      refine Prod.ext ?_ ?_
      · dsimp only; (repeat' split) <;> dsimp only <;> omega
      · dsimp only; (repeat' split) <;> rfl
/-- a place of what does not change its place -/
def fixd (o : Nat) : Prop := o = 0 ∨ o = 4 ∨ o = 18 ∨ (32 ≤ o ∧ o < 68)
theorem loc_fix (ρ : Nat → Nat) (j : Nat) (hj : j < 227) : fixd (loc 0 ρ j).1 := by
  have : ∀ j : Fin 227, (loc 0 (fun _ => 0) j).1 = 0 ∨ (loc 0 (fun _ => 0) j).1 = 4 ∨ (loc 0 (fun _ => 0) j).1 = 18 ∨ (32 ≤ (loc 0 (fun _ => 0) j).1 ∧ (loc 0 (fun _ => 0) j).1 < 68) := by decide +kernel
  have h := this ⟨j, hj⟩
  have e : loc 0 ρ j = loc 0 (fun _ => 0) j := by
    unfold loc
    rw [if_pos hj, if_pos hj]
  rw [e]; exact h
theorem loc_wait (w : Nat) (ρ : Nat → Nat) (i f : Nat) (hi : i < 12) (hf : f < 5) : loc w ρ (227 + i * 5 + f) = (ρ i, f) := by
  unfold loc
  rw [if_neg (by omega), if_neg (by omega), if_neg (by omega), if_pos (by omega)]
  refine Prod.ext (congrArg ρ ?_) ?_
  · omega
  · show (227 + i * 5 + f - 227) % 5 = f; omega
theorem loc_rep (w : Nat) (ρ : Nat → Nat) (i f : Nat) (hf : f < 3) : loc w ρ (287 + i * 3 + f) = (ρ (12 + i), f) := by
  unfold loc
  rw [if_neg (by omega), if_neg (by omega), if_neg (by omega), if_neg (by omega)]
  refine Prod.ext (congrArg ρ ?_) ?_
  · omega
  · show (287 + i * 3 + f - 287) % 3 = f; omega
theorem loc_ord (w : Nat) (ρ : Nat → Nat) (i f : Nat) (hf : f < 3) : loc w ρ (323 + i * 3 + f) = (ρ (24 + i), f) := by
  unfold loc
  rw [if_neg (by omega), if_neg (by omega), if_neg (by omega), if_neg (by omega)]
  refine Prod.ext (congrArg ρ ?_) ?_
  · omega
  · show (323 + i * 3 + f - 287) % 3 = f; omega
theorem loc_p0 (w : Nat) (ρ : Nat → Nat) (p k : Nat) (hp : p < 8) (hk : k < 8) : loc w ρ (7 + p * 23 + k) = (w + 32 + 3 * p, k) := by
  unfold loc
  rw [if_neg (by omega), if_pos (by omega), if_pos (by omega), show (7 + p * 23 + k - 7) / 23 = p by omega, show (7 + p * 23 + k - 7) % 23 = k by omega]
theorem loc_p8 (w : Nat) (ρ : Nat → Nat) (p : Nat) (hp : p < 8) : loc w ρ (7 + p * 23 + 8) = (w + 32 + 3 * p, 10) := by
  unfold loc
  rw [if_neg (by omega), if_pos (by omega), if_neg (by omega), if_pos (by omega), show (7 + p * 23 + 8 - 7) / 23 = p by omega]
theorem loc_p9 (w : Nat) (ρ : Nat → Nat) (p k : Nat) (hp : p < 8) (hk : k < 4) : loc w ρ (7 + p * 23 + (9 + k)) = (w + 33 + 3 * p, k) := by
  unfold loc
  rw [if_neg (by omega), if_pos (by omega), if_neg (by omega), if_neg (by omega), if_pos (by omega), show (7 + p * 23 + (9 + k) - 7) / 23 = p by omega, show (7 + p * 23 + (9 + k) - 7) % 23 - 9 = k by omega]
theorem loc_p13 (w : Nat) (ρ : Nat → Nat) (p k : Nat) (hp : p < 8) (hk : k < 8) : loc w ρ (7 + p * 23 + (13 + k)) = (w + 34 + 3 * p, k) := by
  unfold loc
  rw [if_neg (by omega), if_pos (by omega), if_neg (by omega), if_neg (by omega), if_neg (by omega), if_pos (by omega), show (7 + p * 23 + (13 + k) - 7) / 23 = p by omega, show (7 + p * 23 + (13 + k) - 7) % 23 - 13 = k by omega]
theorem loc_p21 (w : Nat) (ρ : Nat → Nat) (p k : Nat) (hp : p < 8) (hk : k < 2) : loc w ρ (7 + p * 23 + (21 + k)) = (w + 32 + 3 * p, 8 + k) := by
  unfold loc
  rw [if_neg (by omega), if_pos (by omega), if_neg (by omega), if_neg (by omega), if_neg (by omega), if_neg (by omega), show (7 + p * 23 + (21 + k) - 7) / 23 = p by omega, show (7 + p * 23 + (21 + k) - 7) % 23 - 13 = 8 + k by omega]
theorem loc_k0 (w : Nat) (ρ : Nat → Nat) (k : Nat) (hk : k < 4) : loc w ρ (191 + k * 9) = (w + 56 + 3 * k, 0) := by
  unfold loc
  rw [if_neg (by omega), if_neg (by omega), if_pos (by omega), if_pos (by omega), show (191 + k * 9 - 191) / 9 = k by omega]
theorem loc_k1 (w : Nat) (ρ : Nat → Nat) (k i : Nat) (hk : k < 4) (hi : i < 4) : loc w ρ (191 + k * 9 + 1 + 2 * i + 0) = (w + 57 + 3 * k, i) := by
  unfold loc
  rw [if_neg (by omega), if_neg (by omega), if_pos (by omega), if_neg (by omega), if_pos (by omega), show (191 + k * 9 + 1 + 2 * i + 0 - 191) / 9 = k by omega, show (191 + k * 9 + 1 + 2 * i + 0 - 191) % 9 / 2 = i by omega]
theorem loc_k2 (w : Nat) (ρ : Nat → Nat) (k i : Nat) (hk : k < 4) (hi : i < 4) : loc w ρ (191 + k * 9 + 1 + 2 * i + 1) = (w + 58 + 3 * k, i) := by
  unfold loc
  have e : (191 + k * 9 + 1 + 2 * i + 1 - 191) % 9 = 2 * i + 2 := by omega
  rw [if_neg (by omega), if_neg (by omega), if_pos (by omega), e, if_neg (by omega), if_neg (by omega), show (191 + k * 9 + 1 + 2 * i + 1 - 191) / 9 = k by omega, show (2 * i + 2) / 2 - 1 = i by omega]
theorem loc_hi {w : Nat} {ρ : Nat → Nat} {j : Nat} (h1 : 227 ≤ j) (h2 : j < 359) : ∃ i f, i < 36 ∧ loc w ρ j = (ρ i, f) ∧ ((i < 12 ∧ f < 5 ∧ j = 227 + i * 5 + f) ∨ (12 ≤ i ∧ f < 3 ∧ j = 287 + (i - 12) * 3 + f)) := by
  by_cases h : j < 287
  · refine ⟨(j - 227) / 5, (j - 227) % 5, by omega, ?_, Or.inl (by omega)⟩
    unfold loc
    rw [if_neg (by omega), if_neg (by omega), if_neg (by omega), if_pos h]
  · refine ⟨12 + (j - 287) / 3, (j - 287) % 3, by omega, ?_, Or.inr (by omega)⟩
    unfold loc
    rw [if_neg (by omega), if_neg (by omega), if_neg (by omega), if_neg h]
theorem rho_rng {w : Nat} {ρ : Nat → Nat} (h : RhoOk w ρ) {i : Nat} (hi : i < 36) : (w + 68 ≤ ρ i ∧ ρ i < w + 80) ∨ (w + 6 ≤ ρ i ∧ ρ i < w + 18) ∨ (w + 20 ≤ ρ i ∧ ρ i < w + 32) := by
  by_cases h1 : i < 12
  · exact Or.inl (h.1 i h1)
  · by_cases h2 : i < 24
    · have := h.2.1 (i - 12) (by omega)
      rw [show 12 + (i - 12) = i by omega] at this
      exact Or.inr (Or.inl this)
    · have := h.2.2.1 (i - 24) (by omega)
      rw [show 24 + (i - 24) = i by omega] at this
      exact Or.inr (Or.inr this)
theorem loc_rng {w : Nat} {ρ : Nat → Nat} (h : RhoOk w ρ) {j : Nat} (hj : j < 359) : w ≤ (loc w ρ j).1 ∧ (loc w ρ j).1 < w + 80 := by
  by_cases h1 : j < 227
  · rw [loc_w w ρ j h1]
    have := loc_fix ρ j h1
    unfold fixd at this
    dsimp only
    omega
  · obtain ⟨i, f, hi, e, -⟩ := loc_hi (w := w) (ρ := ρ) (by omega) hj
    rw [e]
    have := rho_rng h hi
    dsimp only
    omega
theorem loc_inj {w : Nat} {ρ : Nat → Nat} (h : RhoOk w ρ) {i j : Nat} (hi : i < 359) (hj : j < 359) (e : loc w ρ i = loc w ρ j) : i = j := by
  by_cases a : i < 227
  · by_cases b : j < 227
    · rw [loc_w w ρ i a, loc_w w ρ j b] at e
      have e1 := congrArg Prod.fst e
      have e2 := congrArg Prod.snd e
      dsimp only at e1 e2
      rw [← linv_loc ρ i a, ← linv_loc ρ j b, e2, show (loc 0 ρ i).1 = (loc 0 ρ j).1 by omega]
    · rw [loc_w w ρ i a] at e
      obtain ⟨x, f, hx, e3, -⟩ := loc_hi (w := w) (ρ := ρ) (show 227 ≤ j by omega) hj
      rw [e3] at e
      have e1 := congrArg Prod.fst e
      have := loc_fix ρ i a
      unfold fixd at this
      have := rho_rng h hx
      dsimp only at e1
      omega
  · obtain ⟨x, f, hx, e3, o3⟩ := loc_hi (w := w) (ρ := ρ) (show 227 ≤ i by omega) hi
    rw [e3] at e
    by_cases b : j < 227
    · rw [loc_w w ρ j b] at e
      have e1 := congrArg Prod.fst e
      have := loc_fix ρ j b
      unfold fixd at this
      have := rho_rng h hx
      dsimp only at e1
      omega
    · obtain ⟨y, g, hy, e4, o4⟩ := loc_hi (w := w) (ρ := ρ) (show 227 ≤ j by omega) hj
      rw [e4] at e
      have e1 := congrArg Prod.fst e
      have e2 := congrArg Prod.snd e
      dsimp only at e1 e2
      have := h.2.2.2 x y hx hy e1
      omega
end C1

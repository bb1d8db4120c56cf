section C8
theorem loc_lo {w : Nat} {ρ ρ' : Nat → Nat} {j : Nat} (hj : j < 227) : loc w ρ' j = loc w ρ j := by
  unfold loc
  rw [if_pos hj, if_pos hj]
theorem loc_r1 {w : Nat} {ρ : Nat → Nat} {j : Nat} (h1 : 227 ≤ j) (h2 : j < 287) : loc w ρ j = (ρ ((j - 227) / 5), (j - 227) % 5) := by
  unfold loc
  rw [if_neg (by omega), if_neg (by omega), if_neg (by omega), if_pos h2]
theorem loc_r2 {w : Nat} {ρ : Nat → Nat} {j : Nat} (h1 : 287 ≤ j) : loc w ρ j = (ρ (12 + (j - 287) / 3), (j - 287) % 3) := by
  unfold loc
  rw [if_neg (by omega), if_neg (by omega), if_neg (by omega), if_neg (by omega)]
theorem vld.lo {N N' : Nat → Int32} {c0 c1 c2 c3 c4 c2' c3' c4' j : Nat} (hj : j < 227) (k0 : c0 ≤ 8) (k1 : c1 ≤ 4) (e : ∀ i, 7 ≤ i → i < 227 → N' i = N i) (h : vld N' c0 c1 c2' c3' c4' j) : vld N c0 c1 c2 c3 c4 j := by
  rcases h with h | ⟨h1, h2, h3⟩ | ⟨h1, h2, h3⟩ | h | h | h
  · exact Or.inl h
  · refine Or.inr (Or.inl ⟨h1, h2, ?_⟩)
    rcases h3 with h | h | h
    · exact Or.inl h
    · exact Or.inr (Or.inl h)
    · rw [e _ (by omega) (by omega)] at h
      exact Or.inr (Or.inr h)
  · refine Or.inr (Or.inr (Or.inl ⟨h1, h2, ?_⟩))
    rcases h3 with h | h
    · exact Or.inl h
    · rw [e _ (by omega) (by omega)] at h
      exact Or.inr h
  · omega
  · omega
  · omega
theorem vld.w {N : Nat → Int32} {c0 c1 c2 c3 c4 j : Nat} (k0 : c0 ≤ 8) (k1 : c1 ≤ 4) (h1 : 227 ≤ j) (h2 : j < 287) (h : vld N c0 c1 c2 c3 c4 j) : j < 227 + c2 * 5 := by
  rcases h with h | ⟨h1, h2, h3⟩ | ⟨h1, h2, h3⟩ | h | h | h <;> omega
theorem vld.r {N : Nat → Int32} {c0 c1 c2 c3 c4 j : Nat} (k0 : c0 ≤ 8) (k1 : c1 ≤ 4) (k2 : c2 ≤ 12) (h1 : 287 ≤ j) (h2 : j < 323) (h : vld N c0 c1 c2 c3 c4 j) : j < 287 + c3 * 3 := by
  rcases h with h | ⟨h1, h2, h3⟩ | ⟨h1, h2, h3⟩ | h | h | h <;> omega
theorem vld.o {N : Nat → Int32} {c0 c1 c2 c3 c4 j : Nat} (k0 : c0 ≤ 8) (k1 : c1 ≤ 4) (k2 : c2 ≤ 12) (k3 : c3 ≤ 12) (h1 : 323 ≤ j) (h : vld N c0 c1 c2 c3 c4 j) : j < 323 + c4 * 3 := by
  rcases h with h | ⟨h1, h2, h3⟩ | ⟨h1, h2, h3⟩ | h | h | h <;> omega
theorem ovr_cons {E : List (Nat × Int32)} {N N' : Nat → Int32} {x : Int32} {k j : Nat} (h : j = k ∨ N' j = N j) : ovr ((k, x) :: E) N j = ovr ((k, x) :: E) N' j := by
  unfold ovr
  rw [List.lookup_cons]
  by_cases e : j = k
  · subst e
    rw [show (j == j) = true from beq_self_eq_true j]; rfl
  · rw [show (j == k) = false from beq_eq_false_iff_ne.mpr e, h.resolve_left e]
theorem ovr_at {E : List (Nat × Int32)} {N : Nat → Int32} {x : Int32} {k : Nat} : ovr ((k, x) :: E) N k = x := by
  unfold ovr
  rw [List.lookup_cons, beq_self_eq_true]; rfl
/-- row s of the requests that wait is out -/
theorem Wv.fwr {E : List (Nat × Int32)} {x : Int32} {h0 H : Hp} {w : Nat} {σ ρ : Nat → Nat} {N : Nat → Int32} {c0 c1 c c3 c4 s : Nat} (W : Wv ((2, x) :: E) h0 H w σ ρ N c0 c1 (c + 1) c3 c4) (hs : s < c + 1) : Wv ((2, x) :: E) h0 H w σ (fun k => ρ (rot1 0 s k)) (r_fw N s c) c0 c1 c c3 c4 := by
  have k0 := W.1.1.2
  have k1 := W.1.2.1.2
  have k2 := W.1.2.2.1.2
  have k3 := W.1.2.2.2.1.2
  have WF := W.1.fw hs
  refine ⟨WF, W.k.rho (W.k.s_rho.rott (b := 0) (Or.inl rfl) (by omega)) (fun j hj hv => ?_), W.2.2⟩
  have fo : ∀ i, (i < 227 + s * 5 ∨ 227 + c * 5 ≤ i) → i ≠ 2 → r_fw N s c i = N i := fun i h1 h2 => by
    unfold r_fw
    rw [if_neg (by omega), if_neg h2]
  by_cases h1 : j < 227
  · refine ⟨j, hj, hv.lo h1 k0 k1 (fun i h1 h2 => fo i (by omega) (by omega)), loc_lo h1, ovr_cons ?_⟩
    by_cases e : j = 2
    · exact Or.inl e
    · exact Or.inr (fo j (by omega) e)
  · by_cases h2 : j < 287
    · have hb := hv.w k0 k1 (by omega) h2
      by_cases h3 : j < 227 + s * 5
      · refine ⟨j, hj, Or.inr (Or.inr (Or.inr (Or.inl (by omega)))), ?_, ovr_cons (Or.inr (fo j (Or.inl h3) (by omega)))⟩
        rw [loc_r1 (by omega) h2, loc_r1 (by omega) h2]
        have := rot1_at 0 s ((j - 227) / 5)
        rw [show rot1 0 s ((j - 227) / 5) = (j - 227) / 5 by omega]
      · refine ⟨j + 5, by omega, Or.inr (Or.inr (Or.inr (Or.inl (by omega)))), ?_, ?_⟩
        · rw [loc_r1 (by omega) h2, loc_r1 (by omega) (by omega)]
          have := rot1_at 0 s ((j - 227) / 5)
          rw [show rot1 0 s ((j - 227) / 5) = (j + 5 - 227) / 5 by omega, show (j - 227) % 5 = (j + 5 - 227) % 5 by omega]
        · rw [ovr_o W.2.2 (by omega), ovr_o W.2.2 (by omega)]
          unfold r_fw
          rw [if_pos (by omega)]
    · refine ⟨j, hj, ?_, ?_, ovr_cons (Or.inr (fo j (by omega) (by omega)))⟩
      · by_cases h3 : j < 323
        · have := hv.r k0 k1 (by omega) (by omega) h3
          exact Or.inr (Or.inr (Or.inr (Or.inr (Or.inl (by omega)))))
        · have := hv.o k0 k1 (by omega) k3 (by omega)
          exact Or.inr (Or.inr (Or.inr (Or.inr (Or.inr (by omega)))))
      · rw [loc_r2 (by omega), loc_r2 (by omega)]
        have := rot1_at 0 s (12 + (j - 287) / 3)
        rw [show rot1 0 s (12 + (j - 287) / 3) = 12 + (j - 287) / 3 by omega]
theorem lk_none {E : List (Nat × Int32)} {k : Nat} (h : ∀ q, q ∈ E → q.1 ≠ k) : E.lookup k = none := by
  induction E with
  | nil => rfl
  | cons q E ih =>
    obtain ⟨a, b⟩ := q
    have hq := h (a, b) List.mem_cons_self
    have e3 : (k == a) = false := beq_eq_false_iff_ne.mpr (fun z => hq z.symm)
    rw [List.lookup_cons, e3]
    exact ih (fun q hq => h q (List.mem_cons_of_mem _ hq))
theorem ovr_k {E : List (Nat × Int32)} {N : Nat → Int32} {k : Nat} (h : ∀ q, q ∈ E → q.1 ≠ k) : ovr E N k = N k := by
  unfold ovr
  rw [lk_none h]; rfl
theorem ovr_n {E : List (Nat × Int32)} {N : Nat → Int32} {k j : Nat} {x : Int32} (h : j ≠ k) : ovr ((k, x) :: E) N j = ovr E N j := by
  unfold ovr
  rw [List.lookup_cons, beq_eq_false_iff_ne.mpr h]
/-- a count that the class keeps elsewhere for a while -/
theorem Wv.opn {E : List (Nat × Int32)} {h0 H : Hp} {w : Nat} {σ ρ : Nat → Nat} {N : Nat → Int32} {c0 c1 c2 c3 c4 : Nat} (W : Wv E h0 H w σ ρ N c0 c1 c2 c3 c4) {k : Nat} (k5 : k < 5) (h2 : ∀ q, q ∈ E → q.1 ≠ k) : Wv ((k, N k) :: E) h0 H w σ ρ N c0 c1 c2 c3 c4 := by
  refine ⟨W.1, W.k.to (fun j hj hv => ⟨hv, ?_⟩), fun q hq => ?_⟩
  · by_cases e : j = k
    · subst e
      rw [ovr_at, ovr_k h2]
    · rw [ovr_n e]
  · rcases List.mem_cons.mp hq with h | h
    · subst h; exact k5
    · exact W.2.2 q h
theorem Wv.cls {E : List (Nat × Int32)} {x : Int32} {h0 H : Hp} {w : Nat} {σ ρ : Nat → Nat} {N : Nat → Int32} {c0 c1 c2 c3 c4 k a f : Nat} (W : Wv ((k, x) :: E) h0 H w σ ρ N c0 c1 c2 c3 c4) (h2 : ∀ q, q ∈ E → q.1 ≠ k) (e : loc w ρ k = (a, f)) : Wv E h0 (wI H a f (N k)) w σ ρ N c0 c1 c2 c3 c4 := by
  have k5 : k < 5 := W.2.2 (k, x) List.mem_cons_self
  refine ⟨W.1, (W.k.w (j := k) (by omega) e (N k)).to (fun j hj hv => ⟨Or.inl hv, ?_⟩), fun q hq => W.2.2 q (List.mem_cons_of_mem _ hq)⟩
  by_cases e : j = k
  · subst e
    rw [pk_us, ovr_k h2]
  · rw [pk_un e, ovr_n e]
theorem as_of {H : Hp} {a k n j v ci M : Nat} {i : Int32} {f : FT} {L : LV} {St : List Value} {u : Nat × Nat} (e1 : hs H a = (k, n)) (hi : i = nI j) (hj : j < n) (hn : n < 2 ^ 31) (e2 : hs H v = (ci + 1, M)) (e3 : v ≠ 0) (q : f L St (wR H a j v) u) : o_aastore k ci M f L (.ref v :: .int i :: .ref a :: St) H u := by
  subst hi
  have c : (nI j).toNatClampNeg = j := nI_clamp (by omega)
  refine ⟨by rw [e1], by rw [e1]; exact vp_in_nI hj hn, e2, e3, ?_⟩
  rw [c]; exact q
theorem sub_sub_i (a b : Int32) : a - (a - b) = b := by
  rw [Int32.sub_eq_add_neg, Int32.neg_sub, Int32.sub_eq_add_neg, Int32.add_comm b, ← Int32.add_assoc, Int32.add_right_neg, Int32.zero_add]
/-- after the loop: the first n rows are where the class has them -/
theorem RhoOk.mix {w : Nat} {σ ρ : Nat → Nat} (h1 : RhoOk w σ) (h2 : RhoOk w ρ) {b : Nat} (hb : b = 0 ∨ b = 12 ∨ b = 24) : RhoOk w (fun k => if b ≤ k ∧ k < b + 12 then σ k else ρ k) := by
  have rng : ∀ k, k < 36 → (k < 12 → w + 68 ≤ (if b ≤ k ∧ k < b + 12 then σ k else ρ k) ∧ (if b ≤ k ∧ k < b + 12 then σ k else ρ k) < w + 80) ∧ (12 ≤ k → k < 24 → w + 6 ≤ (if b ≤ k ∧ k < b + 12 then σ k else ρ k) ∧ (if b ≤ k ∧ k < b + 12 then σ k else ρ k) < w + 18) ∧ (24 ≤ k → w + 20 ≤ (if b ≤ k ∧ k < b + 12 then σ k else ρ k) ∧ (if b ≤ k ∧ k < b + 12 then σ k else ρ k) < w + 32) := by
    intro k hk
    refine ⟨fun h => ?_, fun h h' => ?_, fun h => ?_⟩
    · split
      · exact h1.1 k h
      · exact h2.1 k h
    · have e : 12 + (k - 12) = k := by omega
      split
      · have := h1.2.1 (k - 12) (by omega); rw [e] at this; exact this
      · have := h2.2.1 (k - 12) (by omega); rw [e] at this; exact this
    · have e : 24 + (k - 24) = k := by omega
      split
      · have := h1.2.2.1 (k - 24) (by omega); rw [e] at this; exact this
      · have := h2.2.2.1 (k - 24) (by omega); rw [e] at this; exact this
  refine ⟨fun k hk => (rng k (by omega)).1 hk, fun k hk => (rng (12 + k) (by omega)).2.1 (by omega) (by omega), fun k hk => (rng (24 + k) (by omega)).2.2 (by omega), fun k j hk hj e => ?_⟩
  have r1 := rng k hk
  have r2 := rng j hj
  by_cases a1 : b ≤ k ∧ k < b + 12
  · by_cases a2 : b ≤ j ∧ j < b + 12
    · dsimp only at e
      rw [if_pos a1, if_pos a2] at e
      exact h1.inj hk hj e
    · dsimp only at e
      exact absurd e (by omega)
  · by_cases a2 : b ≤ j ∧ j < b + 12
    · dsimp only at e
      exact absurd e (by omega)
    · dsimp only at e
      rw [if_neg a1, if_neg a2] at e
      exact h2.inj hk hj e
end C8

section C7
/-- the places of i and s change -/
def swp (σ : Nat → Nat) (i s : Nat) : Nat → Nat := fun k => if k = s then σ i else if k = i then σ s else σ k
theorem RhoOk.inj {w : Nat} {σ : Nat → Nat} (h : RhoOk w σ) {i j : Nat} (hi : i < 36) (hj : j < 36) (e : σ i = σ j) : i = j := h.2.2.2 i j hi hj e
theorem swp_at (σ : Nat → Nat) (i s k : Nat) : ∃ z, swp σ i s k = σ z ∧ ((k = s ∧ z = i) ∨ (k ≠ s ∧ k = i ∧ z = s) ∨ (k ≠ s ∧ k ≠ i ∧ z = k)) := by
  unfold swp
  by_cases h1 : k = s
  · exact ⟨i, by rw [if_pos h1], Or.inl ⟨h1, rfl⟩⟩
  · by_cases h2 : k = i
    · exact ⟨s, by rw [if_neg h1, if_pos h2], Or.inr (Or.inl ⟨h1, h2, rfl⟩)⟩
    · exact ⟨k, by rw [if_neg h1, if_neg h2], Or.inr (Or.inr ⟨h1, h2, rfl⟩)⟩
/-- b: 0, 12 or 24 -/
theorem RhoOk.swp {w : Nat} {σ : Nat → Nat} (h : RhoOk w σ) {b i s : Nat} (hb : b = 0 ∨ b = 12 ∨ b = 24) (hi : i < 12) (hs : s < 12) : RhoOk w (swp σ (b + i) (b + s)) := by
  refine ⟨fun k hk => ?_, fun k hk => ?_, fun k hk => ?_, fun k j hk hj e => ?_⟩
  · obtain ⟨z, e, hz⟩ := swp_at σ (b + i) (b + s) k
    rw [e]; exact h.1 z (by omega)
  · obtain ⟨z, e, hz⟩ := swp_at σ (b + i) (b + s) (12 + k)
    have := h.2.1 (z - 12) (by omega)
    rw [show 12 + (z - 12) = z by omega] at this
    rw [e]; exact this
  · obtain ⟨z, e, hz⟩ := swp_at σ (b + i) (b + s) (24 + k)
    have := h.2.2.1 (z - 24) (by omega)
    rw [show 24 + (z - 24) = z by omega] at this
    rw [e]; exact this
  · obtain ⟨z, e1, hz⟩ := swp_at σ (b + i) (b + s) k
    obtain ⟨y, e2, hy⟩ := swp_at σ (b + i) (b + s) j
    rw [e1, e2] at e
    have := h.inj (by omega) (by omega) e
    omega
theorem ShP.refs {H H' : Hp} {w : Nat} {σ σ' : Nat → Nat} (h : ShP (hs H) (hR H) w σ) (e : hs H' = hs H) (o : ∀ a, a ≠ w + 3 → a ≠ w + 5 → a ≠ w + 19 → hR H' a = hR H a) (r : RhoOk w σ')
    (r1 : ∀ i, i < 12 → hR H' (w + 3) i = σ' i) (r2 : ∀ i, i < 12 → hR H' (w + 5) i = σ' (12 + i)) (r3 : ∀ i, i < 12 → hR H' (w + 19) i = σ' (24 + i)) : ShP (hs H') (hR H') w σ' := by
  obtain ⟨a0, a1, a2, a3, a4, a5, a6, a7, a8, a9, a10, a11, a12, a13⟩ := h
  have o0 := o w (by omega) (by omega) (by omega)
  have o4 := o (w + 4) (by omega) (by omega) (by omega)
  have o18 := o (w + 18) (by omega) (by omega) (by omega)
  have o1 := o (w + 1) (by omega) (by omega) (by omega)
  have o2 := o (w + 2) (by omega) (by omega) (by omega)
  rw [e]
  refine ⟨a0, a1, by rw [o0]; exact a2, by rw [o0]; exact a3, by rw [o0]; exact a4, by rw [o0, o4]; exact a5, by rw [o0, o18]; exact a6, fun p hp => ?_, fun k hk => ?_, r1, r2, r3, a12, r⟩
  · have z := o (w + 32 + 3 * p) (by omega) (by omega) (by omega)
    rw [o1, z]; exact a7 p hp
  · have z := o (w + 56 + 3 * k) (by omega) (by omega) (by omega)
    rw [o2, z]; exact a8 k hk
theorem wR_s (H : Hp) (a k x : Nat) : hR (wR H a k x) a k = x := by
  show (if a = a then (if k = k then x else _) else _) = x
  rw [if_pos rfl, if_pos rfl]
theorem wR_k (H : Hp) {a k j : Nat} (x : Nat) (h : j ≠ k) : hR (wR H a k x) a j = hR H a j := by
  show (if a = a then (if j = k then x else _) else _) = _
  rw [if_pos rfl, if_neg h]; rfl
theorem wR_a (H : Hp) {a b k : Nat} (x : Nat) (h : b ≠ a) : hR (wR H a k x) b = hR H b := (ag_wR h).2.2.1
theorem wR2_k (H : Hp) (a i s x y k : Nat) : hR (wR (wR H a i x) a s y) a k = if k = s then y else if k = i then x else hR H a k := by
  by_cases h1 : k = s
  · subst h1; rw [if_pos rfl, wR_s]
  · rw [if_neg h1, wR_k _ _ h1]
    by_cases h2 : k = i
    · subst h2; rw [if_pos rfl, wR_s]
    · rw [if_neg h2, wR_k _ _ h2]
theorem wR2_a (H : Hp) {a b : Nat} (i s x y : Nat) (h : b ≠ a) : hR (wR (wR H a i x) a s y) b = hR H b := (wR_a _ _ h).trans (wR_a _ _ h)
theorem swp_o {σ : Nat → Nat} {i s k : Nat} (h1 : k ≠ i) (h2 : k ≠ s) : swp σ i s k = σ k := by
  unfold swp
  rw [if_neg h2, if_neg h1]
/-- two references to requests change their places -/
theorem Wk.swW {h0 H : Hp} {w : Nat} {σ ρ : Nat → Nat} {N : Nat → Int32} {V : Nat → Prop} (W : Wk h0 H w σ ρ N V) {i s : Nat} (hi : i < 12) (hs : s < 12) : Wk h0 (wR (wR H (w + 3) i (σ s)) (w + 3) s (σ i)) w (swp σ i s) ρ N V := by
  refine ⟨(W.1.wR (by omega) (by omega)).wR (by omega) (by omega), ?_, W.2.2.1, W.2.2.2⟩
  refine W.2.1.refs rfl (fun a h1 _ _ => wR2_a _ _ _ _ _ h1) ?_ (fun k hk => ?_) (fun k hk => ?_) (fun k hk => ?_)
  · have := W.s_sig.swp (b := 0) (Or.inl rfl) hi hs
    rw [Nat.zero_add, Nat.zero_add] at this
    exact this
  · rw [wR2_k, W.s_wt k hk]; rfl
  · rw [wR2_a _ _ _ _ _ (by omega), W.s_rp k hk, swp_o (by omega) (by omega)]
  · rw [wR2_a _ _ _ _ _ (by omega), W.s_od k hk, swp_o (by omega) (by omega)]
theorem Wk.swR {h0 H : Hp} {w : Nat} {σ ρ : Nat → Nat} {N : Nat → Int32} {V : Nat → Prop} (W : Wk h0 H w σ ρ N V) {i s : Nat} (hi : i < 12) (hs : s < 12) : Wk h0 (wR (wR H (w + 5) i (σ (12 + s))) (w + 5) s (σ (12 + i))) w (swp σ (12 + i) (12 + s)) ρ N V := by
  refine ⟨(W.1.wR (by omega) (by omega)).wR (by omega) (by omega), ?_, W.2.2.1, W.2.2.2⟩
  refine W.2.1.refs rfl (fun a _ h1 _ => wR2_a _ _ _ _ _ h1) (W.s_sig.swp (b := 12) (Or.inr (Or.inl rfl)) hi hs) (fun k hk => ?_) (fun k hk => ?_) (fun k hk => ?_)
  · rw [wR2_a _ _ _ _ _ (by omega), W.s_wt k hk, swp_o (by omega) (by omega)]
  · rw [wR2_k, W.s_rp k hk]
    unfold swp
    by_cases h1 : k = s
    · rw [if_pos h1, if_pos (show 12 + k = 12 + s by omega)]
    · rw [if_neg h1, if_neg (show ¬ 12 + k = 12 + s by omega)]
      by_cases h2 : k = i
      · rw [if_pos h2, if_pos (show 12 + k = 12 + i by omega)]
      · rw [if_neg h2, if_neg (show ¬ 12 + k = 12 + i by omega)]
  · rw [wR2_a _ _ _ _ _ (by omega), W.s_od k hk, swp_o (by omega) (by omega)]
theorem Wk.swO {h0 H : Hp} {w : Nat} {σ ρ : Nat → Nat} {N : Nat → Int32} {V : Nat → Prop} (W : Wk h0 H w σ ρ N V) {i s : Nat} (hi : i < 12) (hs : s < 12) : Wk h0 (wR (wR H (w + 19) i (σ (24 + s))) (w + 19) s (σ (24 + i))) w (swp σ (24 + i) (24 + s)) ρ N V := by
  refine ⟨(W.1.wR (by omega) (by omega)).wR (by omega) (by omega), ?_, W.2.2.1, W.2.2.2⟩
  refine W.2.1.refs rfl (fun a _ _ h1 => wR2_a _ _ _ _ _ h1) (W.s_sig.swp (b := 24) (Or.inr (Or.inr rfl)) hi hs) (fun k hk => ?_) (fun k hk => ?_) (fun k hk => ?_)
  · rw [wR2_a _ _ _ _ _ (by omega), W.s_wt k hk, swp_o (by omega) (by omega)]
  · rw [wR2_a _ _ _ _ _ (by omega), W.s_rp k hk, swp_o (by omega) (by omega)]
  · rw [wR2_k, W.s_od k hk]
    unfold swp
    by_cases h1 : k = s
    · rw [if_pos h1, if_pos (show 24 + k = 24 + s by omega)]
    · rw [if_neg h1, if_neg (show ¬ 24 + k = 24 + s by omega)]
      by_cases h2 : k = i
      · rw [if_pos h2, if_pos (show 24 + k = 24 + i by omega)]
      · rw [if_neg h2, if_neg (show ¬ 24 + k = 24 + i by omega)]
/-- the rows are looked for elsewhere -/
theorem Wk.rho {h0 H : Hp} {w : Nat} {σ ρ : Nat → Nat} {N : Nat → Int32} {V : Nat → Prop} (W : Wk h0 H w σ ρ N V) {ρ' : Nat → Nat} {N' : Nat → Int32} {V' : Nat → Prop} (r : RhoOk w ρ') (e : ∀ j, j < 359 → V' j → ∃ i, i < 359 ∧ V i ∧ loc w ρ' j = loc w ρ i ∧ N i = N' j) : Wk h0 H w σ ρ' N' V' := by
  refine ⟨W.1, W.2.1, r, fun j hj hv => ?_⟩
  obtain ⟨i, hi, vi, el, en⟩ := e j hj hv
  rw [el, ← en]
  exact W.2.2.2 i hi vi
/-- from s on, the next one; b: 0, 12 or 24 -/
def rot1 (b s k : Nat) : Nat := if k < b + s then k else if k < b + 11 then k + 1 else if k = b + 11 then b + s else k
theorem rot1_at (b s k : Nat) : (k < b + s ∧ rot1 b s k = k) ∨ (b + s ≤ k ∧ k < b + 11 ∧ rot1 b s k = k + 1) ∨ (b + s ≤ k ∧ k = b + 11 ∧ rot1 b s k = b + s) ∨ (b + s ≤ k ∧ b + 11 < k ∧ rot1 b s k = k) := by
  unfold rot1
  by_cases h1 : k < b + s
  · exact Or.inl ⟨h1, if_pos h1⟩
  · rw [if_neg h1]
    by_cases h2 : k < b + 11
    · exact Or.inr (Or.inl ⟨by omega, h2, if_pos h2⟩)
    · rw [if_neg h2]
      by_cases h3 : k = b + 11
      · exact Or.inr (Or.inr (Or.inl ⟨by omega, h3, if_pos h3⟩))
      · exact Or.inr (Or.inr (Or.inr ⟨by omega, by omega, if_neg h3⟩))
theorem RhoOk.rott {w : Nat} {ρ : Nat → Nat} (h : RhoOk w ρ) {b s : Nat} (hb : b = 0 ∨ b = 12 ∨ b = 24) (hs : s < 12) : RhoOk w (fun k => ρ (rot1 b s k)) := by
  refine ⟨fun k hk => ?_, fun k hk => ?_, fun k hk => ?_, fun k j hk hj e => ?_⟩
  · have := rot1_at b s k
    exact h.1 _ (by omega)
  · have := rot1_at b s (12 + k)
    have := h.2.1 (rot1 b s (12 + k) - 12) (by omega)
    rw [show 12 + (rot1 b s (12 + k) - 12) = rot1 b s (12 + k) by omega] at this
    exact this
  · have := rot1_at b s (24 + k)
    have := h.2.2.1 (rot1 b s (24 + k) - 24) (by omega)
    rw [show 24 + (rot1 b s (24 + k) - 24) = rot1 b s (24 + k) by omega] at this
    exact this
  · have z1 := rot1_at b s k
    have z2 := rot1_at b s j
    have := h.inj (by omega) (by omega) e
    omega
end C7

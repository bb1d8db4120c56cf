section S5
/-- an array of n rows made, that m refers to at place f -/
def StM (m f N K : Nat) (H1 P : Hp) : Prop := Nw m (1 + N) H1 P ∧ hs P (hn H1) = (25, N) ∧ (∀ k, k < N → hs P (hn H1 + 1 + k) = (20, K)) ∧ (∀ k, k < N → hR P (hn H1) k = hn H1 + 1 + k) ∧ hR P m f = hn H1 ∧ ∀ j, j ≠ f → hR P m j = hR H1 m j
theorem stM {H1 : Hp} {m f N K : Nat} (hm : m < hn H1) : StM m f N K H1 (wR (alM H1 N K) m f (hn H1)) := by
  have n1 : Nw m (1 + N) H1 (alM H1 N K) := by
    refine ⟨by show H1.1 + 1 + N = H1.1 + (1 + N); omega, fun a ha => ?_, fun a x1 x2 => ?_⟩
    · obtain ⟨e1, e2, e3, e4, e5⟩ := ag_alM (h := H1) (N := N) (K := K) (b := a) (by omega)
      exact ⟨e1, e2, e4, e5, fun _ => e3⟩
    · exact funext fun j => if_pos ⟨x1, by show a ≤ H1.1 + N; have : a < H1.1 + (1 + N) := x2; omega⟩
  refine ⟨n1.comp (k := 0) Nw.wR (Or.inl rfl), if_pos rfl, fun k hk => ?_, fun k hk => ?_, hR_s, fun j hj => ?_⟩
  · show (if hn H1 + 1 + k = H1.1 then (25, N) else if H1.1 < hn H1 + 1 + k ∧ hn H1 + 1 + k ≤ H1.1 + N then (20, K) else _) = _
    have e : hn H1 = H1.1 := rfl
    rw [if_neg (by omega), if_pos (by omega)]
  · rw [hR_o (by omega)]
    show (if hn H1 = H1.1 then (if k < N then H1.1 + 1 + k else 0) else _) = _
    rw [if_pos (show hn H1 = H1.1 from rfl), if_pos hk]; rfl
  · rw [hR_k hj, (ag_alM (h := H1) (N := N) (K := K) (b := m) (by omega)).2.2.1]
end S5

section T6
theorem ltS {a b : Nat} (ha : a ≤ 2560) (hb : b ≤ 2560) (h : ¬ (nI a - 5 < nI b)) : b + 5 ≤ a := by
  by_cases z : 5 ≤ a
  · obtain ⟨c, rfl⟩ : ∃ c, a = c + 5 := ⟨a - 5, by omega⟩
    rw [← nI_add c 5, show nI 5 = (5 : Int32) from rfl, Int32.add_sub_cancel] at h
    by_cases y : c < b
    · exact absurd (nI_lt y (by omega)) h
    · omega
  · exfalso
    apply h
    have h2 : nI a - 5 < 0 := by
      have : ∀ x : Fin 5, nI x.val - 5 < 0 := by decide
      exact this ⟨a, by omega⟩
    exact Int32.lt_of_lt_of_le h2 (nI_pos' (by omega))
set_option maxHeartbeats 4000000 in
theorem law_loop {l : Launch} (hst : l.stackTraces = false) {sb sL : Nat} {sx : Nat → Int32} (hL : sL ≤ 2560) {K : Nat → FT} (h28 : ∀ Lc S h u, fL_law_28 l sb sL sx K Lc S h u → K 28 Lc S h u) (hend : ∀ (Lc : LV) (h : Hp) (u : Nat × Nat), u.1 ≤ 603072 → u.2 ≤ 7178346 → K 2918 Lc [.int 1] h u) {x m o : Nat} : ∀ (n j : Nat) (L : LV) (h : Hp) (u : Nat × Nat), j + n = 512 → Lk L sb x m o (5 * j) → RJ h x m o (24975 + 19980 * (j : Int)) (180 * (j : Int)) → u.1 ≤ 2000 + 5 * j → u.2 ≤ 20000 + 30 * j → K 28 L [] h u := by
  intro n
  induction n with
  | zero =>
    intro j L h u hj hk R u1 u2
    refine h28 _ _ _ _ ?_
    refine il_of hk.2.2.2.2.2 (al_of hk.1 ⟨rfl, ?_⟩)
    refine And.intro (fun _ => hend _ _ _ (by omega) (by omega)) (fun hc => ?_)
    have := ltS (a := sL) (b := 5 * j) hL (by omega) hc
    omega
  | succ n ih =>
    intro j L h u hj hk R u1 u2
    refine h28 _ _ _ _ ?_
    refine il_of hk.2.2.2.2.2 (al_of hk.1 ⟨rfl, ?_⟩)
    refine And.intro (fun _ => hend _ _ _ (by omega) (by omega)) (fun hc => ?_)
    have hi := ltS (a := sL) (b := 5 * j) hL (by omega) hc
    have kk : ∀ L' h' u', Lk L' sb x m o (5 * j + 5) → RJ h' x m o (24975 + 19980 * (j : Int) + 19980) (180 * (j : Int) + 180) → u'.1 ≤ u.1 + 5 → u'.2 ≤ u.2 + 30 → K 28 L' [] h' u' := fun L' h' u' a b c d => ih (j + 1) L' h' u' (by omega) (by rw [show 5 * (j + 1) = 5 * j + 5 by omega]; exact a) (by rw [show 24975 + 19980 * ((j + 1 : Nat) : Int) = 24975 + 19980 * (j : Int) + 19980 by omega, show 180 * ((j + 1 : Nat) : Int) = 180 * (j : Int) + 180 by omega]; exact b) (by omega) (by omega)
    have J : LJ l sb sL K x m o (5 * j) (24975 + 19980 * (j : Int)) (180 * (j : Int)) L h u := ⟨hst, hk, R, ⟨by omega, by omega⟩, ⟨hi, hL⟩, ⟨by omega, by omega⟩, kk⟩
    refine al_of hk.1 (il_of hk.2.2.2.2.2 ⟨rfl, nI_in (by omega) (by omega), ?_⟩)
    rw [nI_clamp (by omega)]
    refine And.intro ?_ (fun _ => inc_of hk.2.2.2.2.2 (kk _ _ _ hk.inc (R.le (by omega) (by omega) (by omega) (by omega)) (Nat.le_add_right _ _) (Nat.le_add_right _ _)))
    refine And.intro (fun _ => l_clear J) ?_
    refine And.intro (fun _ => l_addPart J) ?_
    refine And.intro (fun _ => l_setBounds J) ?_
    refine And.intro (fun _ => l_setYield J) ?_
    refine And.intro (fun _ => l_addSubstitute J) ?_
    refine And.intro (fun _ => l_removeSubstitute J) ?_
    refine And.intro (fun _ => l_addKit J) ?_
    refine And.intro (fun _ => l_count J) ?_
    refine And.intro (fun _ => l_part J) ?_
    refine And.intro (fun _ => l_substitute J) ?_
    refine And.intro (fun _ => l_relation J) ?_
    refine And.intro (fun _ => l_item J) ?_
    refine And.intro (fun _ => l_request J) ?_
    refine And.intro (fun _ => l_available J) ?_
    refine And.intro (fun _ => l_taken J) ?_
    refine And.intro (fun _ => l_waiting J) ?_
    refine And.intro (fun _ => l_cancel J) ?_
    refine And.intro (fun _ => l_take J) ?_
    refine And.intro (fun _ => l_possible J) ?_
    refine And.intro (fun _ => l_lacking J) ?_
    refine And.intro (fun _ => l_giveBack J) ?_
    refine And.intro (fun _ => l_send J) ?_
    refine And.intro (fun _ => l_repair J) ?_
    refine And.intro (fun _ => l_order J) ?_
    refine And.intro (fun _ => l_advance J) ?_
    refine And.intro (fun _ => l_wanted J) ?_
    refine And.intro (fun _ => l_stockAfter J) ?_
    refine And.intro (fun _ => l_movement J) ?_
    refine And.intro (fun _ => l_audit J) ?_
    refine And.intro (fun _ => l_service J) ?_
    refine And.intro (fun _ => l_serviceBits J) ?_
    refine And.intro (fun _ => l_weakest J) ?_
    refine And.intro (fun _ => l_averageService J) ?_
    refine And.intro (fun _ => l_averageBits J) ?_
    refine And.intro (fun _ => l_reason J) ?_
    refine And.intro (fun _ => l_sample J) ?_
    refine And.intro (fun _ => l_sampled J) ?_
    refine And.intro (fun _ => l_append J) ?_
    refine And.intro (fun _ => l_read J) ?_
    refine And.intro (fun _ => l_errorPosition J) ?_
    refine And.intro (fun _ => l_refused J) ?_
    refine And.intro (fun _ => l_undo J) ?_
    refine And.intro (fun _ => l_save J) ?_
    refine And.intro (fun _ => l_restore J) ?_
    exact trivial
end T6

section M6
theorem WFc.fu {N : Nat → Int32} {c0 c1 c2 c c4 i : Nat} (h : WFc N c0 c1 c2 (c + 1) c4) (hi : i < c + 1) : WFc (r_fu N 287 3 i c) c0 c1 c2 c c4 := by
  have ho : ∀ j, ¬ (287 + i * 3 ≤ j ∧ j < 287 + c * 3) → j ≠ 3 → r_fu N 287 3 i c j = N j := fun j h1 h2 => by unfold r_fu; rw [if_neg h1, if_neg h2]
  have hin : ∀ j, 287 + i * 3 ≤ j → j < 287 + c * 3 → r_fu N 287 3 i c j = N (j + 3) := fun j h1 h2 => by unfold r_fu; rw [if_pos ⟨h1, h2⟩]
  obtain ⟨⟨h0, k0⟩, ⟨h1, k1⟩, ⟨h2, k2⟩, ⟨h3, k3⟩, ⟨h4, k4⟩, hp, hk, hw, hr, hoo⟩ := h
  refine ⟨⟨by rw [ho 0 (by omega) (by decide)]; exact h0, k0⟩, ⟨by rw [ho 1 (by omega) (by decide)]; exact h1, k1⟩, ⟨by rw [ho 2 (by omega) (by decide)]; exact h2, k2⟩, ⟨by unfold r_fu; rw [if_neg (by omega), if_pos rfl], by omega⟩, ⟨by rw [ho 4 (by omega) (by decide)]; exact h4, k4⟩, ?_, ?_, ?_, ?_, ?_⟩
  · intro p hp9
    obtain ⟨x, x1, x2, x3⟩ := hp p hp9
    refine ⟨x, x1, by rw [ho _ (by omega) (by omega)]; exact x2, fun k hk9 => ?_⟩
    obtain ⟨s, y1, y2⟩ := x3 k hk9
    exact ⟨s, y1, by rw [ho _ (by omega) (by omega)]; exact y2⟩
  · intro p hp9
    obtain ⟨x, x1, x2, x3⟩ := hk p hp9
    refine ⟨x, x1, by rw [ho _ (by omega) (by omega)]; exact x2, fun k hk9 => ?_⟩
    obtain ⟨s, y1, y2⟩ := x3 k hk9
    exact ⟨s, y1, by rw [ho _ (by omega) (by omega)]; exact y2⟩
  · intro a ha
    obtain ⟨s, y1, y2⟩ := hw a ha
    exact ⟨s, y1, by rw [ho _ (by omega) (by omega)]; exact y2⟩
  · intro a ha
    by_cases g : a < i
    · obtain ⟨s, y1, y2⟩ := hr a (by omega)
      exact ⟨s, y1, by rw [ho _ (by omega) (by omega)]; exact y2⟩
    · obtain ⟨s, y1, y2⟩ := hr (a + 1) (by omega)
      exact ⟨s, y1, by rw [hin _ (by omega) (by omega), show 287 + a * 3 + 0 + 3 = 287 + (a + 1) * 3 + 0 by omega]; exact y2⟩
  · intro a ha
    obtain ⟨s, y1, y2⟩ := hoo a ha
    exact ⟨s, y1, by rw [ho _ (by omega) (by omega)]; exact y2⟩
theorem WFc.fu4 {N : Nat → Int32} {c0 c1 c2 c3 c i : Nat} (h : WFc N c0 c1 c2 c3 (c + 1)) (hi : i < c + 1) : WFc (r_fu N 323 4 i c) c0 c1 c2 c3 c := by
  have ho : ∀ j, ¬ (323 + i * 3 ≤ j ∧ j < 323 + c * 3) → j ≠ 4 → r_fu N 323 4 i c j = N j := fun j h1 h2 => by unfold r_fu; rw [if_neg h1, if_neg h2]
  have hin : ∀ j, 323 + i * 3 ≤ j → j < 323 + c * 3 → r_fu N 323 4 i c j = N (j + 3) := fun j h1 h2 => by unfold r_fu; rw [if_pos ⟨h1, h2⟩]
  obtain ⟨⟨h0, k0⟩, ⟨h1, k1⟩, ⟨h2, k2⟩, ⟨h3, k3⟩, ⟨h4, k4⟩, hp, hk, hw, hr, hoo⟩ := h
  refine ⟨⟨by rw [ho 0 (by omega) (by decide)]; exact h0, k0⟩, ⟨by rw [ho 1 (by omega) (by decide)]; exact h1, k1⟩, ⟨by rw [ho 2 (by omega) (by decide)]; exact h2, k2⟩, ⟨by rw [ho 3 (by omega) (by decide)]; exact h3, k3⟩, ⟨by unfold r_fu; rw [if_neg (by omega), if_pos rfl], by omega⟩, ?_, ?_, ?_, ?_, ?_⟩
  · intro p hp9
    obtain ⟨x, x1, x2, x3⟩ := hp p hp9
    refine ⟨x, x1, by rw [ho _ (by omega) (by omega)]; exact x2, fun k hk9 => ?_⟩
    obtain ⟨s, y1, y2⟩ := x3 k hk9
    exact ⟨s, y1, by rw [ho _ (by omega) (by omega)]; exact y2⟩
  · intro p hp9
    obtain ⟨x, x1, x2, x3⟩ := hk p hp9
    refine ⟨x, x1, by rw [ho _ (by omega) (by omega)]; exact x2, fun k hk9 => ?_⟩
    obtain ⟨s, y1, y2⟩ := x3 k hk9
    exact ⟨s, y1, by rw [ho _ (by omega) (by omega)]; exact y2⟩
  · intro a ha
    obtain ⟨s, y1, y2⟩ := hw a ha
    exact ⟨s, y1, by rw [ho _ (by omega) (by omega)]; exact y2⟩
  · intro a ha
    obtain ⟨s, y1, y2⟩ := hr a ha
    exact ⟨s, y1, by rw [ho _ (by omega) (by omega)]; exact y2⟩
  · intro a ha
    by_cases g : a < i
    · obtain ⟨s, y1, y2⟩ := hoo a (by omega)
      exact ⟨s, y1, by rw [ho _ (by omega) (by omega)]; exact y2⟩
    · obtain ⟨s, y1, y2⟩ := hoo (a + 1) (by omega)
      exact ⟨s, y1, by rw [hin _ (by omega) (by omega), show 323 + a * 3 + 0 + 3 = 323 + (a + 1) * 3 + 0 by omega]; exact y2⟩
/-- the waiting requests served, all of them, once -/
def r_swA (N : Nat → Int32) : (Nat → Int32) × Nat := r_sw (N 2).toNatClampNeg 0 N 0
theorem r_swA_wf {N : Nat → Int32} {c0 c1 c2 c3 c4 : Nat} (h : WFc N c0 c1 c2 c3 c4) : ∃ c, c + (r_swA N).2 = c2 ∧ WFc (r_swA N).1 c0 c1 c c3 c4 ∧ c ≤ c2 := by
  have k2 := h.2.2.1.2
  unfold r_swA
  rw [h.2.2.1.1, nI_clamp (by omega)]
  obtain ⟨c, e1, e2, e3⟩ := r_sw_wf c2 0 0 (N := N) (c0 := c0) (c1 := c1) (c3 := c3) (c4 := c4) (by rw [Nat.zero_add]; exact h)
  exact ⟨c, by omega, e2, by omega⟩
theorem c_serveWaitingA {l : Launch} (hst : l.stackTraces = false) {Q : Option Value → Hp → Prop} {X : String → Hp → Prop} {h : Hp} {m : Nat} {F N : Nat → Int32} (hM : MdS h m) {c0 c1 c2 c3 c4 : Nat} (hN : WFc N c0 c1 c2 c3 c4) (q : Q (some (.int (nI (r_swA N).2))) (st h m F (r_swA N).1)) : CX9_serveWaiting l [.ref m] (st h m F N) Q X := by
  have k2 := hN.2.2.1.2
  refine c_serveWaiting hst hM hN ?_
  unfold r_swA at q
  rw [hN.2.2.1.1, nI_clamp (by omega)] at q
  exact q
/-- the repairs from the place i on, n of them: those end whose days have passed; s: pieces so far -/
def r_er1 (N : Nat → Int32) (i c : Nat) : Int32 × (Nat → Int32) :=
  let N1 := r_fu N 287 3 i c
  let p := (N (287 + i * 3 + 0)).toNatClampNeg
  let v := N (287 + i * 3 + 1)
  (s_rp N1 p v, if s_rp N1 p v ≤ 0 then r_rp N1 p v else (r_swA (r_rp N1 p v)).1)
def r_er : Nat → Nat → (Nat → Int32) → Int32 → (Nat → Int32) × Int32
  | 0, _, N, s => (N, s)
  | n + 1, i, N, s => if N (287 + i * 3 + 2) ≤ N 5 then r_er n i (r_er1 N i (i + n)).2 (s + (r_er1 N i (i + n)).1) else r_er n (i + 1) N s
theorem r_er1_wf {N : Nat → Int32} {c0 c1 c2 c c4 i : Nat} (h : WFc N c0 c1 c2 (c + 1) c4) (hi : i < c + 1) : ∃ c2', c2' ≤ c2 ∧ WFc (r_er1 N i c).2 c0 c1 c2' c c4 := by
  obtain ⟨s, s1, s2⟩ := h.2.2.2.2.2.2.2.2.1 i hi
  have k0 := h.1.2
  have h1 := (h.fu hi).agree (N' := r_rp (r_fu N 287 3 i c) s (N (287 + i * 3 + 1))) (fun j hj => r_rp_s (by omega) hj)
  unfold r_er1
  dsimp only
  rw [s2, nI_clamp (by omega)]
  split
  · exact ⟨c2, Nat.le_refl _, h1⟩
  · obtain ⟨c', -, e2, e3⟩ := r_swA_wf h1
    exact ⟨c', e3, e2⟩
theorem r_er_wf {c0 c1 c4 : Nat} : ∀ (n i : Nat) {N : Nat → Int32} {s : Int32} {c2 : Nat}, WFc N c0 c1 c2 (i + n) c4 → ∃ c2' c3', c2' ≤ c2 ∧ c3' ≤ i + n ∧ WFc (r_er n i N s).1 c0 c1 c2' c3' c4
  | 0, i, N, s, c2, h => ⟨c2, i, Nat.le_refl _, Nat.le_refl _, h⟩
  | n + 1, i, N, s, c2, h => by
    show ∃ c2' c3', _ ∧ _ ∧ WFc (if N (287 + i * 3 + 2) ≤ N 5 then r_er n i (r_er1 N i (i + n)).2 (s + (r_er1 N i (i + n)).1) else r_er n (i + 1) N s).1 c0 c1 c2' c3' c4
    split
    · obtain ⟨c', e1, e2⟩ := r_er1_wf (i := i) (c := i + n) h (by omega)
      obtain ⟨a, b, f1, f2, f3⟩ := r_er_wf n i (s := s + (r_er1 N i (i + n)).1) e2
      exact ⟨a, b, by omega, by omega, f3⟩
    · obtain ⟨a, b, f1, f2, f3⟩ := r_er_wf n (i + 1) (N := N) (s := s) (c2 := c2) (by rw [show i + 1 + n = i + (n + 1) by omega]; exact h)
      exact ⟨a, b, f1, by omega, f3⟩
theorem c_endRepairs {l : Launch} (hst : l.stackTraces = false) {Q : Option Value → Hp → Prop} {X : String → Hp → Prop} {h : Hp} {m : Nat} {F N : Nat → Int32} (hM : MdS h m) {c0 c1 c2 c3 c4 : Nat} (hN : WFc N c0 c1 c2 c3 c4) (q : Q (some (.int (r_er c3 0 N 0).2)) (st h m F (r_er c3 0 N 0).1)) : CX9_endRepairs l [.ref m] (st h m F N) Q X := by
  refine eX9_endRepairs hst (Nat.le_of_ble_eq_true rfl) (fun K hK => ?_)
  have hk : ∀ (n i : Nat) (s : Int32) (M : Nat → Int32) (c2' : Nat), WFc M c0 c1 c2' (i + n) c4 → r_er n i M s = r_er c3 0 N 0 → ∀ L, (L = [(2, .int (nI i)), (1, .int s), (0, .ref m)] ∨ (∃ a b d, L = [(2, .int (nI i)), (1, .int s), (5, a), (4, b), (3, d), (0, .ref m)]) ∨ (∃ a b d, L = [(1, .int s), (5, a), (4, b), (3, d), (2, .int (nI i)), (0, .ref m)])) → K 4 L [] (st h m F M) (0, 0) := by
    intro n
    induction n with
    | zero =>
      intro i s M c2' hM9 hr L hL
      have e3 := hM9.2.2.2.1.1
      have k3 := hM9.2.2.2.1.2
      rcases hL with hL | ⟨a, b, d, hL⟩ | ⟨a, b, d, hL⟩ <;> subst hL
      all_goals
        refine hK _ _ _ _ ?_
        repeat (first | (refine And.intro hM.1 (And.intro hM.2.1 ?_); rw [g_st hM]) | (refine And.intro hM.1 ?_; rw [fp_st hM]) | (refine And.intro hM.1 ?_; rw [fg_st hM]) | refine And.intro (by first | exact hM.1 | assumption | rfl | exact Nat.le_of_ble_eq_true rfl | exact Nat.zero_le _ | decide) ?_)
        refine And.intro (k20 hM) (And.intro (vin hM (x := (3 : Int32)) (i := 3) rfl (by decide)) ?_); rw [ld_st hM (x := (3 : Int32)) (i := 3) rfl (by decide)]
        rw [e3]
        refine And.intro (fun hcc => ?_) (fun hcc => ?_)
        · repeat (first | (refine And.intro hM.1 (And.intro hM.2.1 ?_); rw [g_st hM]) | (refine And.intro hM.1 ?_; rw [fp_st hM]) | (refine And.intro hM.1 ?_; rw [fg_st hM]) | refine And.intro (by first | exact hM.1 | assumption | rfl | exact Nat.le_of_ble_eq_true rfl | exact Nat.zero_le _ | decide) ?_)
          rw [← hr] at q
          exact q
        · exact absurd (nI_le (by omega) (by omega)) hcc
    | succ n ih =>
      intro i s M c2' hM9 hr L hL
      have e3 := hM9.2.2.2.1.1
      have k3 := hM9.2.2.2.1.2
      have k0 := hM9.1.2
      obtain ⟨p, p1, p2⟩ := hM9.2.2.2.2.2.2.2.2.1 i (by omega)
      have h1 := (hM9.fu (i := i) (c := i + n) (by omega))
      have h2 := h1.agree (N' := r_rp (r_fu M 287 3 i (i + n)) p (M (287 + i * 3 + 1))) (fun j hj => r_rp_s (by omega) hj)
      obtain ⟨c9, w1, w2⟩ := r_er1_wf (i := i) (c := i + n) hM9 (by omega)
      have hr2 : (if M (287 + i * 3 + 2) ≤ M 5 then r_er n i (r_er1 M i (i + n)).2 (s + (r_er1 M i (i + n)).1) else r_er n (i + 1) M s) = r_er c3 0 N 0 := hr
      have ee1 : r_er1 M i (i + n) = (s_rp (r_fu M 287 3 i (i + n)) p (M (287 + i * 3 + 1)), if s_rp (r_fu M 287 3 i (i + n)) p (M (287 + i * 3 + 1)) ≤ 0 then r_rp (r_fu M 287 3 i (i + n)) p (M (287 + i * 3 + 1)) else (r_swA (r_rp (r_fu M 287 3 i (i + n)) p (M (287 + i * 3 + 1)))).1) := by
        unfold r_er1
        dsimp only
        rw [p2, nI_clamp (by omega)]
      rcases hL with hL | ⟨a, b, d, hL⟩ | ⟨a, b, d, hL⟩ <;> subst hL
      all_goals
        refine hK _ _ _ _ ?_
        repeat (first | (refine And.intro hM.1 (And.intro hM.2.1 ?_); rw [g_st hM]) | (refine And.intro hM.1 ?_; rw [fp_st hM]) | (refine And.intro hM.1 ?_; rw [fg_st hM]) | refine And.intro (by first | exact hM.1 | assumption | rfl | exact Nat.le_of_ble_eq_true rfl | exact Nat.zero_le _ | decide) ?_)
        refine And.intro (k20 hM) (And.intro (vin hM (x := (3 : Int32)) (i := 3) rfl (by decide)) ?_); rw [ld_st hM (x := (3 : Int32)) (i := 3) rfl (by decide)]
        rw [e3]
        refine And.intro (fun hcc => ?_) (fun hcc => ?_)
        · exact absurd hcc (nI_ge (by omega) (by omega))
        · repeat (first | (refine And.intro hM.1 (And.intro hM.2.1 ?_); rw [g_st hM]) | (refine And.intro hM.1 ?_; rw [fp_st hM]) | (refine And.intro hM.1 ?_; rw [fg_st hM]) | refine And.intro (by first | exact hM.1 | assumption | rfl | exact Nat.le_of_ble_eq_true rfl | exact Nat.zero_le _ | decide) ?_)
          refine c_underway hst hM 287 i 2 rfl rfl rfl (by omega) ?_
          repeat (first | (refine And.intro hM.1 (And.intro hM.2.1 ?_); rw [g_st hM]) | (refine And.intro hM.1 ?_; rw [fp_st hM]) | (refine And.intro hM.1 ?_; rw [fg_st hM]) | refine And.intro (by first | exact hM.1 | assumption | rfl | exact Nat.le_of_ble_eq_true rfl | exact Nat.zero_le _ | decide) ?_)
          refine And.intro (k20 hM) (And.intro (vin hM (x := (5 : Int32)) (i := 5) rfl (by decide)) ?_); rw [ld_st hM (x := (5 : Int32)) (i := 5) rfl (by decide)]
          refine And.intro (fun hd => ?_) (fun hd => ?_)
          · rw [if_pos hd] at hr2
            repeat (first | (refine And.intro hM.1 (And.intro hM.2.1 ?_); rw [g_st hM]) | (refine And.intro hM.1 ?_; rw [fp_st hM]) | (refine And.intro hM.1 ?_; rw [fg_st hM]) | refine And.intro (by first | exact hM.1 | assumption | rfl | exact Nat.le_of_ble_eq_true rfl | exact Nat.zero_le _ | decide) ?_)
            refine c_underway hst hM 287 i 0 rfl rfl rfl (by omega) ?_
            rw [p2]
            repeat (first | (refine And.intro hM.1 (And.intro hM.2.1 ?_); rw [g_st hM]) | (refine And.intro hM.1 ?_; rw [fp_st hM]) | (refine And.intro hM.1 ?_; rw [fg_st hM]) | refine And.intro (by first | exact hM.1 | assumption | rfl | exact Nat.le_of_ble_eq_true rfl | exact Nat.zero_le _ | decide) ?_)
            refine c_underway hst hM 287 i 1 rfl rfl rfl (by omega) ?_
            repeat (first | (refine And.intro hM.1 (And.intro hM.2.1 ?_); rw [g_st hM]) | (refine And.intro hM.1 ?_; rw [fp_st hM]) | (refine And.intro hM.1 ?_; rw [fg_st hM]) | refine And.intro (by first | exact hM.1 | assumption | rfl | exact Nat.le_of_ble_eq_true rfl | exact Nat.zero_le _ | decide) ?_)
            refine c_forgetUnderway hst hM 287 3 i (i + n) rfl rfl rfl (by decide) (by decide) e3 (by omega) (by decide) (by omega) ?_
            repeat (first | (refine And.intro hM.1 (And.intro hM.2.1 ?_); rw [g_st hM]) | (refine And.intro hM.1 ?_; rw [fp_st hM]) | (refine And.intro hM.1 ?_; rw [fg_st hM]) | refine And.intro (by first | exact hM.1 | assumption | rfl | exact Nat.le_of_ble_eq_true rfl | exact Nat.zero_le _ | decide) ?_)
            refine c_repairPieces hst hM p rfl (by omega) ?_
            have w3 : WFc (if s_rp (r_fu M 287 3 i (i + n)) p (M (287 + i * 3 + 1)) ≤ 0 then r_rp (r_fu M 287 3 i (i + n)) p (M (287 + i * 3 + 1)) else (r_swA (r_rp (r_fu M 287 3 i (i + n)) p (M (287 + i * 3 + 1)))).1) c0 c1 c9 (i + n) c4 := by
              rw [ee1] at w2; exact w2
            rw [ee1] at hr2
            refine And.intro (fun hz => ?_) (fun hz => ?_)
            · rw [if_pos hz] at hr2 w3
              exact ih i _ _ c9 w3 hr2 _ (Or.inr (Or.inr ⟨_, _, _, rfl⟩))
            · rw [if_neg hz] at hr2 w3
              repeat (first | (refine And.intro hM.1 (And.intro hM.2.1 ?_); rw [g_st hM]) | (refine And.intro hM.1 ?_; rw [fp_st hM]) | (refine And.intro hM.1 ?_; rw [fg_st hM]) | refine And.intro (by first | exact hM.1 | assumption | rfl | exact Nat.le_of_ble_eq_true rfl | exact Nat.zero_le _ | decide) ?_)
              refine c_serveWaitingA hst hM h2 ?_
              exact ih i _ _ c9 w3 hr2 _ (Or.inr (Or.inr ⟨_, _, _, rfl⟩))
          · rw [if_neg hd] at hr2
            first
              | (have := ih (i + 1) s M c2' (by rw [show i + 1 + n = i + (n + 1) by omega]; exact hM9) hr2 _ (Or.inl rfl)
                 rw [← nI_1 i] at this
                 exact this)
              | (have := ih (i + 1) s M c2' (by rw [show i + 1 + n = i + (n + 1) by omega]; exact hM9) hr2 _ (Or.inr (Or.inl ⟨a, b, d, rfl⟩))
                 rw [← nI_1 i] at this
                 exact this)
  exact hk c3 0 0 N c2 (by rw [Nat.zero_add]; exact hN) rfl _ (Or.inl rfl)
end M6

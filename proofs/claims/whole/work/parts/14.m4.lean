section M4
/-- row i of the waiting ones is taken out; c is how many remain -/
def r_fw (N : Nat → Int32) (i c : Nat) : Nat → Int32 := fun j => if 227 + i * 5 ≤ j ∧ j < 227 + c * 5 then N (j + 5) else if j = 2 then nI c else N j
theorem c_forgetWaiting {l : Launch} (hst : l.stackTraces = false) {Q : Option Value → Hp → Prop} {X : String → Hp → Prop} {h : Hp} {m : Nat} {F N : Nat → Int32} (hM : MdS h m) {P : Int32} (i c : Nat) (hp : P = nI i) (hc : N 2 = nI (c + 1)) (c12 : c + 1 ≤ 12) (hi : i < c + 1) (q : Q none (st h m F (r_fw N i c))) : CX9_forgetWaiting l [.ref m, .int P] (st h m F N) Q X := by
  subst hp
  refine eX9_forgetWaiting hst (Nat.le_of_ble_eq_true rfl) (fun K hK => ?_)
  repeat (first | (refine And.intro hM.1 (And.intro hM.2.1 ?_); rw [g_st hM]) | (refine And.intro hM.1 ?_; rw [fp_st hM]) | (refine And.intro hM.1 ?_; rw [fg_st hM]) | refine And.intro (by first | exact hM.1 | assumption | rfl | exact Nat.le_of_ble_eq_true rfl | exact Nat.zero_le _ | decide) ?_)
  refine And.intro (k20 hM) (And.intro (vin hM (x := (2 : Int32)) (i := 2) rfl (by decide)) ?_); rw [ld_st hM (x := (2 : Int32)) (i := 2) rfl (by decide)]
  refine And.intro (k20 hM) (And.intro (vin hM (x := (2 : Int32)) (i := 2) rfl (by decide)) ?_); rw [sd_st hM (x := (2 : Int32)) (i := 2) rfl (by decide)]
  rw [hc, show nI (c + 1) - 1 = nI c from nI_pred c]
  have hk : ∀ (n j : Nat) (M : Nat → Int32), j + n = 227 + c * 5 → 227 + i * 5 ≤ j → (M = fun x => if 227 + i * 5 ≤ x ∧ x < j then N (x + 5) else if x = 2 then nI c else N x) → K 18 [(2, .int (nI j)), (0, .ref m), (1, .int (nI i))] [] (st h m F M) (0, 0) := by
    intro n
    induction n with
    | zero =>
      intro j M hj h1 hMM
      have e2 : M 2 = nI c := by rw [hMM]; show (if _ then _ else _) = _; rw [if_neg (by omega)]; exact if_pos rfl
      refine hK _ _ _ _ ?_
      repeat (first | (refine And.intro hM.1 (And.intro hM.2.1 ?_); rw [g_st hM]) | (refine And.intro hM.1 ?_; rw [fp_st hM]) | (refine And.intro hM.1 ?_; rw [fg_st hM]) | refine And.intro (by first | exact hM.1 | assumption | rfl | exact Nat.le_of_ble_eq_true rfl | exact Nat.zero_le _ | decide) ?_)
      refine And.intro (k20 hM) (And.intro (vin hM (x := (2 : Int32)) (i := 2) rfl (by decide)) ?_); rw [ld_st hM (x := (2 : Int32)) (i := 2) rfl (by decide)]
      rw [e2]
      refine And.intro (fun hcc => ?_) (fun hcc => ?_)
      · repeat (first | (refine And.intro hM.1 (And.intro hM.2.1 ?_); rw [g_st hM]) | (refine And.intro hM.1 ?_; rw [fp_st hM]) | (refine And.intro hM.1 ?_; rw [fg_st hM]) | refine And.intro (by first | exact hM.1 | assumption | rfl | exact Nat.le_of_ble_eq_true rfl | exact Nat.zero_le _ | decide) ?_)
        rw [hMM, show j = 227 + c * 5 by omega]
        exact q
      · exact absurd (by rw [show (227 : Int32) + nI c * 5 = nI (227 + c * 5) from ix2 227 5 c]; exact nI_le (by omega) (by omega)) hcc
    | succ n ih =>
      intro j M hj h1 hMM
      have e2 : M 2 = nI c := by rw [hMM]; show (if _ then _ else _) = _; rw [if_neg (by omega)]; exact if_pos rfl
      refine hK _ _ _ _ ?_
      repeat (first | (refine And.intro hM.1 (And.intro hM.2.1 ?_); rw [g_st hM]) | (refine And.intro hM.1 ?_; rw [fp_st hM]) | (refine And.intro hM.1 ?_; rw [fg_st hM]) | refine And.intro (by first | exact hM.1 | assumption | rfl | exact Nat.le_of_ble_eq_true rfl | exact Nat.zero_le _ | decide) ?_)
      refine And.intro (k20 hM) (And.intro (vin hM (x := (2 : Int32)) (i := 2) rfl (by decide)) ?_); rw [ld_st hM (x := (2 : Int32)) (i := 2) rfl (by decide)]
      rw [e2]
      refine And.intro (fun hcc => ?_) (fun hcc => ?_)
      · exact absurd hcc (by rw [show (227 : Int32) + nI c * 5 = nI (227 + c * 5) from ix2 227 5 c]; exact nI_ge (by omega) (by omega))
      · repeat (first | (refine And.intro hM.1 (And.intro hM.2.1 ?_); rw [g_st hM]) | (refine And.intro hM.1 ?_; rw [fp_st hM]) | (refine And.intro hM.1 ?_; rw [fg_st hM]) | refine And.intro (by first | exact hM.1 | assumption | rfl | exact Nat.le_of_ble_eq_true rfl | exact Nat.zero_le _ | decide) ?_)
        refine And.intro (k20 hM) (And.intro (vin hM (i := j + 5) (show nI j + (5 : Int32) = nI (j + 5) from nI_add j 5) (by omega)) ?_); rw [ld_st hM (i := j + 5) (show nI j + (5 : Int32) = nI (j + 5) from nI_add j 5) (by omega)]
        refine And.intro (k20 hM) (And.intro (vin hM (i := j) rfl (by omega)) ?_); rw [sd_st hM (i := j) rfl (by omega)]
        have := ih (j + 1) (upd M j (M (j + 5))) (by omega) (by omega) (by
          funext x
          by_cases e : x = j
          · subst e
            rw [pk_us, hMM]
            show (if _ then _ else _) = if _ then _ else _
            rw [if_neg (by omega), if_neg (by omega), if_pos (by omega)]
          · rw [pk_un e, hMM]
            show (if _ then _ else _) = if _ then _ else _
            by_cases g : 227 + i * 5 ≤ x ∧ x < j
            · rw [if_pos g, if_pos (by omega)]
            · rw [if_neg g, if_neg (show ¬ (227 + i * 5 ≤ x ∧ x < j + 1) by omega)])
        rw [← nI_1 j] at this
        exact this
  have e0 : (227 : Int32) + nI i * 5 = nI (227 + i * 5) := ix2 227 5 i
  have := hk (227 + c * 5 - (227 + i * 5)) (227 + i * 5) (upd N 2 (nI c)) (by omega) (by omega) (by
    funext x
    show _ = if _ then _ else _
    rw [if_neg (by omega)]
    rfl)
  rw [← e0] at this
  exact this
theorem WFc.fw {N : Nat → Int32} {c0 c1 c c3 c4 i : Nat} (h : WFc N c0 c1 (c + 1) c3 c4) (hi : i < c + 1) : WFc (r_fw N i c) c0 c1 c c3 c4 := by
  have ho : ∀ j, ¬ (227 + i * 5 ≤ j ∧ j < 227 + c * 5) → j ≠ 2 → r_fw N i c j = N j := fun j h1 h2 => by unfold r_fw; rw [if_neg h1, if_neg h2]
  have hin : ∀ j, 227 + i * 5 ≤ j → j < 227 + c * 5 → r_fw N i c j = N (j + 5) := fun j h1 h2 => by unfold r_fw; rw [if_pos ⟨h1, h2⟩]
  obtain ⟨⟨h0, k0⟩, ⟨h1, k1⟩, ⟨h2, k2⟩, ⟨h3, k3⟩, ⟨h4, k4⟩, hp, hk, hw, hr, hoo⟩ := h
  refine ⟨⟨by rw [ho 0 (by omega) (by decide)]; exact h0, k0⟩, ⟨by rw [ho 1 (by omega) (by decide)]; exact h1, k1⟩, ⟨by unfold r_fw; rw [if_neg (by omega), if_pos rfl], by omega⟩, ⟨by rw [ho 3 (by omega) (by decide)]; exact h3, k3⟩, ⟨by rw [ho 4 (by omega) (by decide)]; exact h4, k4⟩, ?_, ?_, ?_, ?_, ?_⟩
  · intro p hp9
    obtain ⟨x, x1, x2, x3⟩ := hp p hp9
    refine ⟨x, x1, by rw [ho _ (by omega) (by omega)]; exact x2, fun k hk9 => ?_⟩
    obtain ⟨s, y1, y2⟩ := x3 k hk9
    exact ⟨s, y1, by rw [ho _ (by omega) (by omega)]; exact y2⟩
  · intro p hp9
    obtain ⟨x, x1, x2, x3⟩ := hk p hp9
    refine ⟨x, x1, by rw [ho _ (by omega) (by omega)]; exact x2, fun k hk9 => ?_⟩
    obtain ⟨s, y1, y2⟩ := x3 k hk9
    exact ⟨s, y1, by rw [ho _ (by omega) (by omega)]; exact y2⟩
  · intro a ha
    by_cases g : a < i
    · obtain ⟨s, y1, y2⟩ := hw a (by omega)
      exact ⟨s, y1, by rw [ho _ (by omega) (by omega)]; exact y2⟩
    · obtain ⟨s, y1, y2⟩ := hw (a + 1) (by omega)
      exact ⟨s, y1, by rw [hin _ (by omega) (by omega), show 227 + a * 5 + 1 + 5 = 227 + (a + 1) * 5 + 1 by omega]; exact y2⟩
  · intro a ha
    obtain ⟨s, y1, y2⟩ := hr a ha
    exact ⟨s, y1, by rw [ho _ (by omega) (by omega)]; exact y2⟩
  · intro a ha
    obtain ⟨s, y1, y2⟩ := hoo a ha
    exact ⟨s, y1, by rw [ho _ (by omega) (by omega)]; exact y2⟩
/-- all waiting requests from the place i on are served once, n of them; d: how many wait no longer -/
def r_sw : Nat → Nat → (Nat → Int32) → Nat → (Nat → Int32) × Nat
  | 0, _, N, d => (N, d)
  | n + 1, i, N, d =>
    let r := r_serve N (N (227 + i * 5 + 1)).toNatClampNeg (N (227 + i * 5 + 3))
    let N1 := upd r.2 (227 + i * 5 + 3) r.1
    if r.1 = 0 then r_sw n i (r_fw N1 i (i + n)) (d + 1) else r_sw n (i + 1) N1 d
theorem r_sw_s (n i : Nat) (N : Nat → Int32) (d : Nat) : r_sw (n + 1) i N d = (if (r_serve N (N (227 + i * 5 + 1)).toNatClampNeg (N (227 + i * 5 + 3))).1 = 0 then r_sw n i (r_fw (upd (r_serve N (N (227 + i * 5 + 1)).toNatClampNeg (N (227 + i * 5 + 3))).2 (227 + i * 5 + 3) (r_serve N (N (227 + i * 5 + 1)).toNatClampNeg (N (227 + i * 5 + 3))).1) i (i + n)) (d + 1) else r_sw n (i + 1) (upd (r_serve N (N (227 + i * 5 + 1)).toNatClampNeg (N (227 + i * 5 + 3))).2 (227 + i * 5 + 3) (r_serve N (N (227 + i * 5 + 1)).toNatClampNeg (N (227 + i * 5 + 3))).1) d) := rfl
theorem ix_w3 (i : Nat) : (227 : Int32) + nI i * 5 + 3 = nI (227 + i * 5 + 3) := ix3 227 5 i 3
theorem WFc.sv1 {N : Nat → Int32} {c0 c1 c2 c3 c4 : Nat} (h : WFc N c0 c1 c2 c3 c4) {p : Nat} (hp : p < c0) (w v : Int32) (i : Nat) (hi : i < 12) : WFc (upd (r_serve N p w).2 (227 + i * 5 + 3) v) c0 c1 c2 c3 c4 := by
  have k0 := h.1.2
  exact h.agree (fun j hj => by rw [pk_un (by unfold stru at hj; omega), r_serve_s (by omega) (h.sub hp) hj])
theorem r_sw_wf {c0 c1 c3 c4 : Nat} : ∀ (n i d : Nat) {N : Nat → Int32}, WFc N c0 c1 (i + n) c3 c4 → ∃ c2, c2 + (r_sw n i N d).2 = i + n + d ∧ WFc (r_sw n i N d).1 c0 c1 c2 c3 c4 ∧ c2 ≤ i + n
  | 0, i, d, N, h => ⟨i, by show i + d = _; omega, h, by omega⟩
  | n + 1, i, d, N, h => by
    obtain ⟨s, s1, s2⟩ := h.2.2.2.2.2.2.2.1 i (by omega)
    have k2 := h.2.2.1.2
    have h1 := h.sv1 s1 (N (227 + i * 5 + 3)) (r_serve N s (N (227 + i * 5 + 3))).1 i (by omega)
    rw [r_sw_s, s2, nI_clamp (by have := h.1.2; omega)]
    split
    · obtain ⟨c2, e1, e2, e3⟩ := r_sw_wf n i (d + 1) (h1.fw (i := i) (c := i + n) (by omega))
      exact ⟨c2, by omega, e2, by omega⟩
    · obtain ⟨c2, e1, e2, e3⟩ := r_sw_wf n (i + 1) d (N := upd (r_serve N s (N (227 + i * 5 + 3))).2 (227 + i * 5 + 3) (r_serve N s (N (227 + i * 5 + 3))).1) (by rw [show i + 1 + n = i + (n + 1) by omega]; exact h1)
      exact ⟨c2, by omega, e2, by omega⟩
theorem c_serveWaiting {l : Launch} (hst : l.stackTraces = false) {Q : Option Value → Hp → Prop} {X : String → Hp → Prop} {h : Hp} {m : Nat} {F N : Nat → Int32} (hM : MdS h m) {c0 c1 c2 c3 c4 : Nat} (hN : WFc N c0 c1 c2 c3 c4) (q : Q (some (.int (nI (r_sw c2 0 N 0).2))) (st h m F (r_sw c2 0 N 0).1)) : CX9_serveWaiting l [.ref m] (st h m F N) Q X := by
  refine eX9_serveWaiting hst (Nat.le_of_ble_eq_true rfl) (fun K hK => ?_)
  have hk : ∀ (n i d : Nat) (M : Nat → Int32), WFc M c0 c1 (i + n) c3 c4 → r_sw n i M d = r_sw c2 0 N 0 → ∀ L, (L = [(2, .int (nI i)), (1, .int (nI d)), (0, .ref m)] ∨ (∃ v, L = [(1, .int (nI d)), (3, v), (2, .int (nI i)), (0, .ref m)]) ∨ ∃ v, L = [(2, .int (nI i)), (3, v), (1, .int (nI d)), (0, .ref m)]) → K 4 L [] (st h m F M) (0, 0) := by
    intro n
    induction n with
    | zero =>
      intro i d M hM9 hr L hL
      have e2 := hM9.2.2.1.1
      have k2 := hM9.2.2.1.2
      rcases hL with hL | ⟨v, hL⟩ | ⟨v, hL⟩ <;> subst hL
      all_goals
        refine hK _ _ _ _ ?_
        repeat (first | (refine And.intro hM.1 (And.intro hM.2.1 ?_); rw [g_st hM]) | (refine And.intro hM.1 ?_; rw [fp_st hM]) | (refine And.intro hM.1 ?_; rw [fg_st hM]) | refine And.intro (by first | exact hM.1 | assumption | rfl | exact Nat.le_of_ble_eq_true rfl | exact Nat.zero_le _ | decide) ?_)
        refine And.intro (k20 hM) (And.intro (vin hM (x := (2 : Int32)) (i := 2) rfl (by decide)) ?_); rw [ld_st hM (x := (2 : Int32)) (i := 2) rfl (by decide)]
        rw [e2]
        refine And.intro (fun hcc => ?_) (fun hcc => ?_)
        · repeat (first | (refine And.intro hM.1 (And.intro hM.2.1 ?_); rw [g_st hM]) | (refine And.intro hM.1 ?_; rw [fp_st hM]) | (refine And.intro hM.1 ?_; rw [fg_st hM]) | refine And.intro (by first | exact hM.1 | assumption | rfl | exact Nat.le_of_ble_eq_true rfl | exact Nat.zero_le _ | decide) ?_)
          rw [← hr] at q
          exact q
        · exact absurd (nI_le (by omega) (by omega)) hcc
    | succ n ih =>
      intro i d M hM9 hr L hL
      have e2 := hM9.2.2.1.1
      have k2 := hM9.2.2.1.2
      have k0 := hM9.1.2
      obtain ⟨s, s1, s2⟩ := hM9.2.2.2.2.2.2.2.1 i (by omega)
      have h1 := hM9.sv1 s1 (M (227 + i * 5 + 3)) (r_serve M s (M (227 + i * 5 + 3))).1 i (by omega)
      have hr2 : (if (r_serve M s (M (227 + i * 5 + 3))).1 = 0 then r_sw n i (r_fw (upd (r_serve M s (M (227 + i * 5 + 3))).2 (227 + i * 5 + 3) (r_serve M s (M (227 + i * 5 + 3))).1) i (i + n)) (d + 1) else r_sw n (i + 1) (upd (r_serve M s (M (227 + i * 5 + 3))).2 (227 + i * 5 + 3) (r_serve M s (M (227 + i * 5 + 3))).1) d) = r_sw c2 0 N 0 := by
        rw [← hr]
        rw [r_sw_s, s2, nI_clamp (by omega)]
      rcases hL with hL | ⟨v, hL⟩ | ⟨v, hL⟩ <;> subst hL
      all_goals
        refine hK _ _ _ _ ?_
        repeat (first | (refine And.intro hM.1 (And.intro hM.2.1 ?_); rw [g_st hM]) | (refine And.intro hM.1 ?_; rw [fp_st hM]) | (refine And.intro hM.1 ?_; rw [fg_st hM]) | refine And.intro (by first | exact hM.1 | assumption | rfl | exact Nat.le_of_ble_eq_true rfl | exact Nat.zero_le _ | decide) ?_)
        refine And.intro (k20 hM) (And.intro (vin hM (x := (2 : Int32)) (i := 2) rfl (by decide)) ?_); rw [ld_st hM (x := (2 : Int32)) (i := 2) rfl (by decide)]
        rw [e2]
        refine And.intro (fun hcc => ?_) (fun hcc => ?_)
        · exact absurd hcc (nI_ge (by omega) (by omega))
        · repeat (first | (refine And.intro hM.1 (And.intro hM.2.1 ?_); rw [g_st hM]) | (refine And.intro hM.1 ?_; rw [fp_st hM]) | (refine And.intro hM.1 ?_; rw [fg_st hM]) | refine And.intro (by first | exact hM.1 | assumption | rfl | exact Nat.le_of_ble_eq_true rfl | exact Nat.zero_le _ | decide) ?_)
          refine c_waits hst hM i 1 rfl rfl (by omega) ?_
          repeat (first | (refine And.intro hM.1 (And.intro hM.2.1 ?_); rw [g_st hM]) | (refine And.intro hM.1 ?_; rw [fp_st hM]) | (refine And.intro hM.1 ?_; rw [fg_st hM]) | refine And.intro (by first | exact hM.1 | assumption | rfl | exact Nat.le_of_ble_eq_true rfl | exact Nat.zero_le _ | decide) ?_)
          refine c_waits hst hM i 3 rfl rfl (by omega) ?_
          rw [s2]
          repeat (first | (refine And.intro hM.1 (And.intro hM.2.1 ?_); rw [g_st hM]) | (refine And.intro hM.1 ?_; rw [fp_st hM]) | (refine And.intro hM.1 ?_; rw [fg_st hM]) | refine And.intro (by first | exact hM.1 | assumption | rfl | exact Nat.le_of_ble_eq_true rfl | exact Nat.zero_le _ | decide) ?_)
          refine c_serve hst hM s rfl (by omega) (hM9.sub s1) ?_
          repeat (first | (refine And.intro hM.1 (And.intro hM.2.1 ?_); rw [g_st hM]) | (refine And.intro hM.1 ?_; rw [fp_st hM]) | (refine And.intro hM.1 ?_; rw [fg_st hM]) | refine And.intro (by first | exact hM.1 | assumption | rfl | exact Nat.le_of_ble_eq_true rfl | exact Nat.zero_le _ | decide) ?_)
          refine And.intro (k20 hM) (And.intro (vin hM (i := 227 + i * 5 + 3) (ix_w3 i) (by omega)) ?_); rw [sd_st hM (i := 227 + i * 5 + 3) (ix_w3 i) (by omega)]
          refine And.intro (fun hz => ?_) (fun hz => ?_)
          · rw [if_neg hz] at hr2
            have := ih (i + 1) d _ (by rw [show i + 1 + n = i + (n + 1) by omega]; exact h1) hr2 _ (Or.inr (Or.inr ⟨.int (r_serve M s (M (227 + i * 5 + 3))).1, rfl⟩))
            rw [← nI_1 i] at this
            exact this
          · rw [if_pos hz] at hr2
            repeat (first | (refine And.intro hM.1 (And.intro hM.2.1 ?_); rw [g_st hM]) | (refine And.intro hM.1 ?_; rw [fp_st hM]) | (refine And.intro hM.1 ?_; rw [fg_st hM]) | refine And.intro (by first | exact hM.1 | assumption | rfl | exact Nat.le_of_ble_eq_true rfl | exact Nat.zero_le _ | decide) ?_)
            refine c_forgetWaiting hst hM i (i + n) rfl h1.2.2.1.1 (by omega) (by omega) ?_
            have := ih i (d + 1) _ (h1.fw (i := i) (c := i + n) (by omega)) hr2 _ (Or.inr (Or.inl ⟨.int (r_serve M s (M (227 + i * 5 + 3))).1, rfl⟩))
            rw [← nI_1 d] at this
            exact this
  exact hk c2 0 0 N (by rw [Nat.zero_add]; exact hN) rfl _ (Or.inl rfl)
end M4

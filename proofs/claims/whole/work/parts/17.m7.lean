section M7
/-- an order that arrives -/
def r_in (N : Nat → Int32) (p : Nat) (v : Int32) : Nat → Int32 :=
  let N2 := upd N (7 + p * 23 + 0) (N (7 + p * 23 + 0) + v)
  upd N2 (7 + p * 23 + 14) (N2 (7 + p * 23 + 14) + v)
theorem r_in_s {N : Nat → Int32} {p : Nat} {v : Int32} (hp : p < 8) {j : Nat} (h : stru j) : r_in N p v j = N j := by
  unfold r_in
  show upd _ _ _ j = _
  rw [pk_un (by unfold stru at h; omega), pk_un (by unfold stru at h; omega)]
def r_ro1 (N : Nat → Int32) (i c : Nat) : Nat → Int32 := (r_swA (r_in (r_fu N 323 4 i c) (N (323 + i * 3 + 0)).toNatClampNeg (N (323 + i * 3 + 1)))).1
def r_ro : Nat → Nat → (Nat → Int32) → Int32 → (Nat → Int32) × Int32
  | 0, _, N, s => (N, s)
  | n + 1, i, N, s => if N (323 + i * 3 + 2) ≤ N 5 then r_ro n i (r_ro1 N i (i + n)) (s + N (323 + i * 3 + 1)) else r_ro n (i + 1) N s
theorem r_ro1_wf {N : Nat → Int32} {c0 c1 c2 c3 c i : Nat} (h : WFc N c0 c1 c2 c3 (c + 1)) (hi : i < c + 1) : ∃ c2', c2' ≤ c2 ∧ WFc (r_ro1 N i c) c0 c1 c2' c3 c := by
  obtain ⟨s, s1, s2⟩ := h.2.2.2.2.2.2.2.2.2 i hi
  have k0 := h.1.2
  have h1 := (h.fu4 hi).agree (N' := r_in (r_fu N 323 4 i c) s (N (323 + i * 3 + 1))) (fun j hj => r_in_s (by omega) hj)
  unfold r_ro1
  rw [s2, nI_clamp (by omega)]
  obtain ⟨c', -, e2, e3⟩ := r_swA_wf h1
  exact ⟨c', e3, e2⟩
theorem r_ro_wf {c0 c1 c3 : Nat} : ∀ (n i : Nat) {N : Nat → Int32} {s : Int32} {c2 : Nat}, WFc N c0 c1 c2 c3 (i + n) → ∃ c2' c4', c2' ≤ c2 ∧ c4' ≤ i + n ∧ WFc (r_ro n i N s).1 c0 c1 c2' c3 c4'
  | 0, i, N, s, c2, h => ⟨c2, i, Nat.le_refl _, Nat.le_refl _, h⟩
  | n + 1, i, N, s, c2, h => by
    show ∃ c2' c4', _ ∧ _ ∧ WFc (if N (323 + i * 3 + 2) ≤ N 5 then r_ro n i (r_ro1 N i (i + n)) (s + N (323 + i * 3 + 1)) else r_ro n (i + 1) N s).1 c0 c1 c2' c3 c4'
    split
    · obtain ⟨c', e1, e2⟩ := r_ro1_wf (i := i) (c := i + n) h (by omega)
      obtain ⟨a, b, f1, f2, f3⟩ := r_ro_wf n i (s := s + N (323 + i * 3 + 1)) e2
      exact ⟨a, b, by omega, by omega, f3⟩
    · obtain ⟨a, b, f1, f2, f3⟩ := r_ro_wf n (i + 1) (N := N) (s := s) (c2 := c2) (by rw [show i + 1 + n = i + (n + 1) by omega]; exact h)
      exact ⟨a, b, f1, by omega, f3⟩
theorem c_receiveOrders {l : Launch} (hst : l.stackTraces = false) {Q : Option Value → Hp → Prop} {X : String → Hp → Prop} {h : Hp} {m : Nat} {F N : Nat → Int32} (hM : MdS h m) {c0 c1 c2 c3 c4 : Nat} (hN : WFc N c0 c1 c2 c3 c4) (q : Q (some (.int (r_ro c4 0 N 0).2)) (st h m F (r_ro c4 0 N 0).1)) : CX9_receiveOrders l [.ref m] (st h m F N) Q X := by
  refine eX9_receiveOrders hst (Nat.le_of_ble_eq_true rfl) (fun K hK => ?_)
  have hk : ∀ (n i : Nat) (s : Int32) (M : Nat → Int32) (c2' : Nat), WFc M c0 c1 c2' c3 (i + n) → r_ro n i M s = r_ro c4 0 N 0 → ∀ L, (L = [(2, .int (nI i)), (1, .int s), (0, .ref m)] ∨ (∃ b d, L = [(2, .int (nI i)), (1, .int s), (4, b), (3, d), (0, .ref m)]) ∨ (∃ b d, L = [(1, .int s), (4, b), (3, d), (2, .int (nI i)), (0, .ref m)])) → K 4 L [] (st h m F M) (0, 0) := by
    intro n
    induction n with
    | zero =>
      intro i s M c2' hM9 hr L hL
      have e4 := hM9.2.2.2.2.1.1
      have k4 := hM9.2.2.2.2.1.2
      rcases hL with hL | ⟨b, d, hL⟩ | ⟨b, d, hL⟩ <;> subst hL
      all_goals
        refine hK _ _ _ _ ?_
        repeat (first | (refine And.intro hM.1 (And.intro hM.2.1 ?_); rw [g_st hM]) | (refine And.intro hM.1 ?_; rw [fp_st hM]) | (refine And.intro hM.1 ?_; rw [fg_st hM]) | refine And.intro (by first | exact hM.1 | assumption | rfl | exact Nat.le_of_ble_eq_true rfl | exact Nat.zero_le _ | decide) ?_)
        refine And.intro (k20 hM) (And.intro (vin hM (x := (4 : Int32)) (i := 4) rfl (by decide)) ?_); rw [ld_st hM (x := (4 : Int32)) (i := 4) rfl (by decide)]
        rw [e4]
        refine And.intro (fun hcc => ?_) (fun hcc => ?_)
        · repeat (first | (refine And.intro hM.1 (And.intro hM.2.1 ?_); rw [g_st hM]) | (refine And.intro hM.1 ?_; rw [fp_st hM]) | (refine And.intro hM.1 ?_; rw [fg_st hM]) | refine And.intro (by first | exact hM.1 | assumption | rfl | exact Nat.le_of_ble_eq_true rfl | exact Nat.zero_le _ | decide) ?_)
          rw [← hr] at q
          exact q
        · exact absurd (nI_le (by omega) (by omega)) hcc
    | succ n ih =>
      intro i s M c2' hM9 hr L hL
      have e4 := hM9.2.2.2.2.1.1
      have k4 := hM9.2.2.2.2.1.2
      have k0 := hM9.1.2
      obtain ⟨p, p1, p2⟩ := hM9.2.2.2.2.2.2.2.2.2 i (by omega)
      have h1 := (hM9.fu4 (i := i) (c := i + n) (by omega))
      have h2 := h1.agree (N' := r_in (r_fu M 323 4 i (i + n)) p (M (323 + i * 3 + 1))) (fun j hj => r_in_s (by omega) hj)
      obtain ⟨c9, w1, w2⟩ := r_ro1_wf (i := i) (c := i + n) hM9 (by omega)
      have hr2 : (if M (323 + i * 3 + 2) ≤ M 5 then r_ro n i (r_ro1 M i (i + n)) (s + M (323 + i * 3 + 1)) else r_ro n (i + 1) M s) = r_ro c4 0 N 0 := hr
      have ee1 : r_ro1 M i (i + n) = (r_swA (r_in (r_fu M 323 4 i (i + n)) p (M (323 + i * 3 + 1)))).1 := by
        unfold r_ro1
        rw [p2, nI_clamp (by omega)]
      rcases hL with hL | ⟨b, d, hL⟩ | ⟨b, d, hL⟩ <;> subst hL
      all_goals
        refine hK _ _ _ _ ?_
        repeat (first | (refine And.intro hM.1 (And.intro hM.2.1 ?_); rw [g_st hM]) | (refine And.intro hM.1 ?_; rw [fp_st hM]) | (refine And.intro hM.1 ?_; rw [fg_st hM]) | refine And.intro (by first | exact hM.1 | assumption | rfl | exact Nat.le_of_ble_eq_true rfl | exact Nat.zero_le _ | decide) ?_)
        refine And.intro (k20 hM) (And.intro (vin hM (x := (4 : Int32)) (i := 4) rfl (by decide)) ?_); rw [ld_st hM (x := (4 : Int32)) (i := 4) rfl (by decide)]
        rw [e4]
        refine And.intro (fun hcc => ?_) (fun hcc => ?_)
        · exact absurd hcc (nI_ge (by omega) (by omega))
        · repeat (first | (refine And.intro hM.1 (And.intro hM.2.1 ?_); rw [g_st hM]) | (refine And.intro hM.1 ?_; rw [fp_st hM]) | (refine And.intro hM.1 ?_; rw [fg_st hM]) | refine And.intro (by first | exact hM.1 | assumption | rfl | exact Nat.le_of_ble_eq_true rfl | exact Nat.zero_le _ | decide) ?_)
          refine c_underway hst hM 323 i 2 rfl rfl rfl (by omega) ?_
          repeat (first | (refine And.intro hM.1 (And.intro hM.2.1 ?_); rw [g_st hM]) | (refine And.intro hM.1 ?_; rw [fp_st hM]) | (refine And.intro hM.1 ?_; rw [fg_st hM]) | refine And.intro (by first | exact hM.1 | assumption | rfl | exact Nat.le_of_ble_eq_true rfl | exact Nat.zero_le _ | decide) ?_)
          refine And.intro (k20 hM) (And.intro (vin hM (x := (5 : Int32)) (i := 5) rfl (by decide)) ?_); rw [ld_st hM (x := (5 : Int32)) (i := 5) rfl (by decide)]
          refine And.intro (fun hd => ?_) (fun hd => ?_)
          · rw [if_pos hd] at hr2
            repeat (first | (refine And.intro hM.1 (And.intro hM.2.1 ?_); rw [g_st hM]) | (refine And.intro hM.1 ?_; rw [fp_st hM]) | (refine And.intro hM.1 ?_; rw [fg_st hM]) | refine And.intro (by first | exact hM.1 | assumption | rfl | exact Nat.le_of_ble_eq_true rfl | exact Nat.zero_le _ | decide) ?_)
            refine c_underway hst hM 323 i 0 rfl rfl rfl (by omega) ?_
            rw [p2]
            repeat (first | (refine And.intro hM.1 (And.intro hM.2.1 ?_); rw [g_st hM]) | (refine And.intro hM.1 ?_; rw [fp_st hM]) | (refine And.intro hM.1 ?_; rw [fg_st hM]) | refine And.intro (by first | exact hM.1 | assumption | rfl | exact Nat.le_of_ble_eq_true rfl | exact Nat.zero_le _ | decide) ?_)
            refine c_underway hst hM 323 i 1 rfl rfl rfl (by omega) ?_
            repeat (first | (refine And.intro hM.1 (And.intro hM.2.1 ?_); rw [g_st hM]) | (refine And.intro hM.1 ?_; rw [fp_st hM]) | (refine And.intro hM.1 ?_; rw [fg_st hM]) | refine And.intro (by first | exact hM.1 | assumption | rfl | exact Nat.le_of_ble_eq_true rfl | exact Nat.zero_le _ | decide) ?_)
            refine c_forgetUnderway hst hM 323 4 i (i + n) rfl rfl rfl (by decide) (by decide) e4 (by omega) (by decide) (by omega) ?_
            repeat (first | (refine And.intro hM.1 (And.intro hM.2.1 ?_); rw [g_st hM]) | (refine And.intro hM.1 ?_; rw [fp_st hM]) | (refine And.intro hM.1 ?_; rw [fg_st hM]) | refine And.intro (by first | exact hM.1 | assumption | rfl | exact Nat.le_of_ble_eq_true rfl | exact Nat.zero_le _ | decide) ?_)
            refine c_increase hst hM p 0 rfl rfl (by omega) ?_
            repeat (first | (refine And.intro hM.1 (And.intro hM.2.1 ?_); rw [g_st hM]) | (refine And.intro hM.1 ?_; rw [fp_st hM]) | (refine And.intro hM.1 ?_; rw [fg_st hM]) | refine And.intro (by first | exact hM.1 | assumption | rfl | exact Nat.le_of_ble_eq_true rfl | exact Nat.zero_le _ | decide) ?_)
            refine c_increase hst hM p 14 rfl rfl (by omega) ?_
            repeat (first | (refine And.intro hM.1 (And.intro hM.2.1 ?_); rw [g_st hM]) | (refine And.intro hM.1 ?_; rw [fp_st hM]) | (refine And.intro hM.1 ?_; rw [fg_st hM]) | refine And.intro (by first | exact hM.1 | assumption | rfl | exact Nat.le_of_ble_eq_true rfl | exact Nat.zero_le _ | decide) ?_)
            refine c_serveWaitingA hst hM h2 ?_
            rw [ee1] at hr2 w2
            exact ih i _ _ c9 w2 hr2 _ (Or.inr (Or.inr ⟨_, _, rfl⟩))
          · rw [if_neg hd] at hr2
            first
              | (have := ih (i + 1) s M c2' (by rw [show i + 1 + n = i + (n + 1) by omega]; exact hM9) hr2 _ (Or.inl rfl)
                 rw [← nI_1 i] at this
                 exact this)
              | (have := ih (i + 1) s M c2' (by rw [show i + 1 + n = i + (n + 1) by omega]; exact hM9) hr2 _ (Or.inr (Or.inl ⟨b, d, rfl⟩))
                 rw [← nI_1 i] at this
                 exact this)
  exact hk c4 0 0 N c2 (by rw [Nat.zero_add]; exact hN) rfl _ (Or.inl rfl)
/-- the quantity that would be ordered -/
def s_want (N : Nat → Int32) (p : Nat) : Int32 := if s_pos N p < N (7 + p * 23 + 2) then N (7 + p * 23 + 3) - s_pos N p else 0
theorem c_wantedOf {l : Launch} (hst : l.stackTraces = false) {Q : Option Value → Hp → Prop} {X : String → Hp → Prop} {h : Hp} {m : Nat} {F N : Nat → Int32} (hM : MdS h m) {P : Int32} (p : Nat) (hp : P = nI p) (hb : p < 8) (hN : cOk N) (q : Q (some (.int (s_want N p))) (st h m F N)) : CX9_wantedOf l [.ref m, .int P] (st h m F N) Q X := by
  subst hp
  refine eX9_wantedOf hst (Nat.le_of_ble_eq_true rfl) (fun K => ?_)
  repeat (first | (refine And.intro hM.1 (And.intro hM.2.1 ?_); rw [g_st hM]) | (refine And.intro hM.1 ?_; rw [fp_st hM]) | (refine And.intro hM.1 ?_; rw [fg_st hM]) | refine And.intro (by first | exact hM.1 | assumption | rfl | exact Nat.le_of_ble_eq_true rfl | exact Nat.zero_le _ | decide) ?_)
  refine c_position hst hM p rfl hb hN ?_
  repeat (first | (refine And.intro hM.1 (And.intro hM.2.1 ?_); rw [g_st hM]) | (refine And.intro hM.1 ?_; rw [fp_st hM]) | (refine And.intro hM.1 ?_; rw [fg_st hM]) | refine And.intro (by first | exact hM.1 | assumption | rfl | exact Nat.le_of_ble_eq_true rfl | exact Nat.zero_le _ | decide) ?_)
  refine c_of hst hM p 2 rfl rfl (by omega) ?_
  unfold s_want at q
  refine And.intro (fun hcc => ?_) (fun hcc => ?_)
  · rw [if_neg (Int32.not_lt.mpr hcc)] at q
    repeat (first | (refine And.intro hM.1 (And.intro hM.2.1 ?_); rw [g_st hM]) | (refine And.intro hM.1 ?_; rw [fp_st hM]) | (refine And.intro hM.1 ?_; rw [fg_st hM]) | refine And.intro (by first | exact hM.1 | assumption | rfl | exact Nat.le_of_ble_eq_true rfl | exact Nat.zero_le _ | decide) ?_)
    exact q
  · rw [if_pos (Int32.not_le.mp hcc)] at q
    repeat (first | (refine And.intro hM.1 (And.intro hM.2.1 ?_); rw [g_st hM]) | (refine And.intro hM.1 ?_; rw [fp_st hM]) | (refine And.intro hM.1 ?_; rw [fg_st hM]) | refine And.intro (by first | exact hM.1 | assumption | rfl | exact Nat.le_of_ble_eq_true rfl | exact Nat.zero_le _ | decide) ?_)
    refine c_of hst hM p 3 rfl rfl (by omega) ?_
    repeat (first | (refine And.intro hM.1 (And.intro hM.2.1 ?_); rw [g_st hM]) | (refine And.intro hM.1 ?_; rw [fp_st hM]) | (refine And.intro hM.1 ?_; rw [fg_st hM]) | refine And.intro (by first | exact hM.1 | assumption | rfl | exact Nat.le_of_ble_eq_true rfl | exact Nat.zero_le _ | decide) ?_)
    exact q
/-- the parts are ordered, from the part i on, n of them; c4: the orders -/
def r_mo1 (N : Nat → Int32) (i : Nat) : Nat → Int32 := if 0 < s_want N i ∧ N 4 < 12 then r_start N 323 4 (N 4).toNatClampNeg (nI i) (s_want N i) (N 5 + N (7 + i * 23 + 4)) else N
def r_mo : Nat → Nat → (Nat → Int32) → (Nat → Int32)
  | 0, _, N => N
  | n + 1, i, N => r_mo n (i + 1) (r_mo1 N i)
theorem WFc.start4 {N : Nat → Int32} {c0 c1 c2 c3 c : Nat} (h : WFc N c0 c1 c2 c3 c) (hc : c < 12) {p : Nat} (hp : p < c0) (v e : Int32) : WFc (r_start N 323 4 c (nI p) v e) c0 c1 c2 c3 (c + 1) := by
  have hin : ∀ j, j ≠ 4 → (j < 323 + c * 3 ∨ 323 + c * 3 + 3 ≤ j) → r_start N 323 4 c (nI p) v e j = N j := fun j h1 h2 => by
    unfold r_start r_st3
    rw [pk_un h1, pk_un (by omega), pk_un (by omega), pk_un (by omega)]
  have h4 : r_start N 323 4 c (nI p) v e 4 = nI (c + 1) := by
    unfold r_start r_st3
    rw [pk_us, pk_un (by omega), pk_un (by omega), pk_un (by omega), h.2.2.2.2.1.1]
    exact nI_1 c
  have hl : r_start N 323 4 c (nI p) v e (323 + c * 3 + 0) = nI p := by
    unfold r_start r_st3
    rw [pk_un (by omega), pk_un (by omega), pk_un (by omega)]
    exact pk_us
  obtain ⟨⟨h0, k0⟩, ⟨h1, k1⟩, ⟨h2, k2⟩, ⟨h3, k3⟩, ⟨-, k4⟩, hp9, hk, hw, hr, hoo⟩ := h
  refine ⟨⟨by rw [hin 0 (by decide) (by omega)]; exact h0, k0⟩, ⟨by rw [hin 1 (by decide) (by omega)]; exact h1, k1⟩, ⟨by rw [hin 2 (by decide) (by omega)]; exact h2, k2⟩, ⟨by rw [hin 3 (by decide) (by omega)]; exact h3, k3⟩, ⟨h4, by omega⟩, ?_, ?_, ?_, ?_, ?_⟩
  · intro p hp8
    obtain ⟨x, x1, x2, x3⟩ := hp9 p hp8
    refine ⟨x, x1, by rw [hin _ (by omega) (by omega)]; exact x2, fun k hk9 => ?_⟩
    obtain ⟨s, y1, y2⟩ := x3 k hk9
    exact ⟨s, y1, by rw [hin _ (by omega) (by omega)]; exact y2⟩
  · intro p hp8
    obtain ⟨x, x1, x2, x3⟩ := hk p hp8
    refine ⟨x, x1, by rw [hin _ (by omega) (by omega)]; exact x2, fun k hk9 => ?_⟩
    obtain ⟨s, y1, y2⟩ := x3 k hk9
    exact ⟨s, y1, by rw [hin _ (by omega) (by omega)]; exact y2⟩
  · intro a ha
    obtain ⟨s, y1, y2⟩ := hw a ha
    exact ⟨s, y1, by rw [hin _ (by omega) (by omega)]; exact y2⟩
  · intro a ha
    obtain ⟨s, y1, y2⟩ := hr a ha
    exact ⟨s, y1, by rw [hin _ (by omega) (by omega)]; exact y2⟩
  · intro a ha
    by_cases g : a < c
    · obtain ⟨s, y1, y2⟩ := hoo a g
      exact ⟨s, y1, by rw [hin _ (by omega) (by omega)]; exact y2⟩
    · exact ⟨p, hp, by rw [show a = c by omega]; exact hl⟩
theorem WFc.start3 {N : Nat → Int32} {c0 c1 c2 c c4 : Nat} (h : WFc N c0 c1 c2 c c4) (hc : c < 12) {p : Nat} (hp : p < c0) (v e : Int32) : WFc (r_start N 287 3 c (nI p) v e) c0 c1 c2 (c + 1) c4 := by
  have hin : ∀ j, j ≠ 3 → (j < 287 + c * 3 ∨ 287 + c * 3 + 3 ≤ j) → r_start N 287 3 c (nI p) v e j = N j := fun j h1 h2 => by
    unfold r_start r_st3
    rw [pk_un h1, pk_un (by omega), pk_un (by omega), pk_un (by omega)]
  have h4 : r_start N 287 3 c (nI p) v e 3 = nI (c + 1) := by
    unfold r_start r_st3
    rw [pk_us, pk_un (by omega), pk_un (by omega), pk_un (by omega), h.2.2.2.1.1]
    exact nI_1 c
  have hl : r_start N 287 3 c (nI p) v e (287 + c * 3 + 0) = nI p := by
    unfold r_start r_st3
    rw [pk_un (by omega), pk_un (by omega), pk_un (by omega)]
    exact pk_us
  obtain ⟨⟨h0, k0⟩, ⟨h1, k1⟩, ⟨h2, k2⟩, ⟨h3, k3⟩, ⟨h49, k4⟩, hp9, hk, hw, hr, hoo⟩ := h
  refine ⟨⟨by rw [hin 0 (by decide) (by omega)]; exact h0, k0⟩, ⟨by rw [hin 1 (by decide) (by omega)]; exact h1, k1⟩, ⟨by rw [hin 2 (by decide) (by omega)]; exact h2, k2⟩, ⟨h4, by omega⟩, ⟨by rw [hin 4 (by decide) (by omega)]; exact h49, k4⟩, ?_, ?_, ?_, ?_, ?_⟩
  · intro p hp8
    obtain ⟨x, x1, x2, x3⟩ := hp9 p hp8
    refine ⟨x, x1, by rw [hin _ (by omega) (by omega)]; exact x2, fun k hk9 => ?_⟩
    obtain ⟨s, y1, y2⟩ := x3 k hk9
    exact ⟨s, y1, by rw [hin _ (by omega) (by omega)]; exact y2⟩
  · intro p hp8
    obtain ⟨x, x1, x2, x3⟩ := hk p hp8
    refine ⟨x, x1, by rw [hin _ (by omega) (by omega)]; exact x2, fun k hk9 => ?_⟩
    obtain ⟨s, y1, y2⟩ := x3 k hk9
    exact ⟨s, y1, by rw [hin _ (by omega) (by omega)]; exact y2⟩
  · intro a ha
    obtain ⟨s, y1, y2⟩ := hw a ha
    exact ⟨s, y1, by rw [hin _ (by omega) (by omega)]; exact y2⟩
  · intro a ha
    by_cases g : a < c
    · obtain ⟨s, y1, y2⟩ := hr a g
      exact ⟨s, y1, by rw [hin _ (by omega) (by omega)]; exact y2⟩
    · exact ⟨p, hp, by rw [show a = c by omega]; exact hl⟩
  · intro a ha
    obtain ⟨s, y1, y2⟩ := hoo a ha
    exact ⟨s, y1, by rw [hin _ (by omega) (by omega)]; exact y2⟩
theorem r_mo1_wf {N : Nat → Int32} {c0 c1 c2 c3 c4 i : Nat} (h : WFc N c0 c1 c2 c3 c4) (hi : i < c0) : ∃ c4', WFc (r_mo1 N i) c0 c1 c2 c3 c4' := by
  unfold r_mo1
  split
  · rename_i hg
    have k4 := h.2.2.2.2.1.2
    rw [h.2.2.2.2.1.1, nI_clamp (by omega)] at *
    have : c4 < 12 := (nI_ltI (by omega) (by decide)).mp hg.2
    exact ⟨c4 + 1, h.start4 this hi _ _⟩
  · exact ⟨c4, h⟩
theorem r_mo_wf {c0 c1 c2 c3 : Nat} : ∀ (n i : Nat) {N : Nat → Int32} {c4 : Nat}, WFc N c0 c1 c2 c3 c4 → i + n ≤ c0 → ∃ c4', WFc (r_mo n i N) c0 c1 c2 c3 c4'
  | 0, i, N, c4, h, _ => ⟨c4, h⟩
  | n + 1, i, N, c4, h, hi => by
    obtain ⟨c', h'⟩ := r_mo1_wf h (i := i) (by omega)
    exact r_mo_wf n (i + 1) h' (by omega)
/-- a day ends -/
def r_day (N : Nat → Int32) : (Nat → Int32) × Int32 :=
  let N1 := upd N 5 (N 5 + 1)
  let e := r_er (N1 3).toNatClampNeg 0 N1 0
  let o := r_ro (e.1 4).toNatClampNeg 0 e.1 0
  (r_mo (o.1 0).toNatClampNeg 0 o.1, e.2 + o.2)
theorem WFc.day1 {N : Nat → Int32} {c0 c1 c2 c3 c4 : Nat} (h : WFc N c0 c1 c2 c3 c4) (v : Int32) : WFc (upd N 5 v) c0 c1 c2 c3 c4 := h.agree (fun j hj => pk_un (by unfold stru at hj; omega))
theorem r_day_wf {N : Nat → Int32} {c0 c1 c2 c3 c4 : Nat} (h : WFc N c0 c1 c2 c3 c4) : ∃ c2' c3' c4', WFc (r_day N).1 c0 c1 c2' c3' c4' := by
  have h1 := h.day1 (N 5 + 1)
  have k3 := h1.2.2.2.1.2
  unfold r_day
  dsimp only
  rw [h1.2.2.2.1.1, nI_clamp (by omega)]
  obtain ⟨a, b, -, -, h2⟩ := r_er_wf c3 0 (s := 0) (c2 := c2) (c4 := c4) (c0 := c0) (c1 := c1) (by rw [Nat.zero_add]; exact h1)
  have k4 := h2.2.2.2.2.1.2
  rw [h2.2.2.2.2.1.1, nI_clamp (by omega)]
  obtain ⟨a', b', -, -, h3⟩ := r_ro_wf c4 0 (s := 0) (c2 := a) (c3 := b) (c0 := c0) (c1 := c1) (by rw [Nat.zero_add]; exact h2)
  have k0 := h3.1.2
  rw [h3.1.1, nI_clamp (by omega)]
  obtain ⟨c', h4⟩ := r_mo_wf c0 0 h3 (by omega)
  exact ⟨_, _, _, h4⟩
theorem c_endDay {l : Launch} (hst : l.stackTraces = false) {Q : Option Value → Hp → Prop} {X : String → Hp → Prop} {h : Hp} {m : Nat} {F N : Nat → Int32} (hM : MdS h m) {c0 c1 c2 c3 c4 : Nat} (hN : WFc N c0 c1 c2 c3 c4) (q : Q (some (.int (r_day N).2)) (st h m F (r_day N).1)) : CX9_endDay l [.ref m] (st h m F N) Q X := by
  have h1 := hN.day1 (N 5 + 1)
  have k3 := h1.2.2.2.1.2
  unfold r_day at q
  dsimp only at q
  rw [h1.2.2.2.1.1, nI_clamp (by omega)] at q
  obtain ⟨a, b, -, -, h2⟩ := r_er_wf c3 0 (s := 0) (c2 := c2) (c4 := c4) (c0 := c0) (c1 := c1) (by rw [Nat.zero_add]; exact h1)
  have k4 := h2.2.2.2.2.1.2
  rw [h2.2.2.2.2.1.1, nI_clamp (by omega)] at q
  obtain ⟨a', b', -, -, h3⟩ := r_ro_wf c4 0 (s := 0) (c2 := a) (c3 := b) (c0 := c0) (c1 := c1) (by rw [Nat.zero_add]; exact h2)
  have k0 := h3.1.2
  rw [h3.1.1, nI_clamp (by omega)] at q
  refine eX9_endDay hst (Nat.le_of_ble_eq_true rfl) (fun K hK => ?_)
  repeat (first | (refine And.intro hM.1 (And.intro hM.2.1 ?_); rw [g_st hM]) | (refine And.intro hM.1 ?_; rw [fp_st hM]) | (refine And.intro hM.1 ?_; rw [fg_st hM]) | refine And.intro (by first | exact hM.1 | assumption | rfl | exact Nat.le_of_ble_eq_true rfl | exact Nat.zero_le _ | decide) ?_)
  refine And.intro (k20 hM) (And.intro (vin hM (x := (5 : Int32)) (i := 5) rfl (by decide)) ?_); rw [ld_st hM (x := (5 : Int32)) (i := 5) rfl (by decide)]
  refine And.intro (k20 hM) (And.intro (vin hM (x := (5 : Int32)) (i := 5) rfl (by decide)) ?_); rw [sd_st hM (x := (5 : Int32)) (i := 5) rfl (by decide)]
  repeat (first | (refine And.intro hM.1 (And.intro hM.2.1 ?_); rw [g_st hM]) | (refine And.intro hM.1 ?_; rw [fp_st hM]) | (refine And.intro hM.1 ?_; rw [fg_st hM]) | refine And.intro (by first | exact hM.1 | assumption | rfl | exact Nat.le_of_ble_eq_true rfl | exact Nat.zero_le _ | decide) ?_)
  refine c_endRepairs hst hM h1 ?_
  repeat (first | (refine And.intro hM.1 (And.intro hM.2.1 ?_); rw [g_st hM]) | (refine And.intro hM.1 ?_; rw [fp_st hM]) | (refine And.intro hM.1 ?_; rw [fg_st hM]) | refine And.intro (by first | exact hM.1 | assumption | rfl | exact Nat.le_of_ble_eq_true rfl | exact Nat.zero_le _ | decide) ?_)
  refine c_receiveOrders hst hM h2 ?_
  repeat (first | (refine And.intro hM.1 (And.intro hM.2.1 ?_); rw [g_st hM]) | (refine And.intro hM.1 ?_; rw [fp_st hM]) | (refine And.intro hM.1 ?_; rw [fg_st hM]) | refine And.intro (by first | exact hM.1 | assumption | rfl | exact Nat.le_of_ble_eq_true rfl | exact Nat.zero_le _ | decide) ?_)
  generalize hS : (r_er c3 0 (upd N 5 (N 5 + 1)) 0).2 + (r_ro c4 0 (r_er c3 0 (upd N 5 (N 5 + 1)) 0).1 0).2 = S at q ⊢
  generalize hO : (r_ro c4 0 (r_er c3 0 (upd N 5 (N 5 + 1)) 0).1 0).1 = O at q h3 ⊢
  have hk : ∀ (n i : Nat) (M : Nat → Int32) (c4' : Nat), WFc M c0 c1 a' b c4' → i + n = c0 → r_mo n i M = r_mo c0 0 O → ∀ L, (L = [(2, .int (nI i)), (1, .int S), (0, .ref m)] ∨ ∃ z, L = [(2, .int (nI i)), (3, z), (1, .int S), (0, .ref m)]) → K 24 L [] (st h m F M) (0, 0) := by
    intro n
    induction n with
    | zero =>
      intro i M c4' hM9 hi hr L hL
      have e0 := hM9.1.1
      rcases hL with hL | ⟨z, hL⟩ <;> subst hL
      all_goals
        refine hK _ _ _ _ ?_
        repeat (first | (refine And.intro hM.1 (And.intro hM.2.1 ?_); rw [g_st hM]) | (refine And.intro hM.1 ?_; rw [fp_st hM]) | (refine And.intro hM.1 ?_; rw [fg_st hM]) | refine And.intro (by first | exact hM.1 | assumption | rfl | exact Nat.le_of_ble_eq_true rfl | exact Nat.zero_le _ | decide) ?_)
        refine And.intro (k20 hM) (And.intro (vin hM (x := (0 : Int32)) (i := 0) rfl (by decide)) ?_); rw [ld_st hM (x := (0 : Int32)) (i := 0) rfl (by decide)]
        rw [e0]
        refine And.intro (fun hcc => ?_) (fun hcc => ?_)
        · repeat (first | (refine And.intro hM.1 (And.intro hM.2.1 ?_); rw [g_st hM]) | (refine And.intro hM.1 ?_; rw [fp_st hM]) | (refine And.intro hM.1 ?_; rw [fg_st hM]) | refine And.intro (by first | exact hM.1 | assumption | rfl | exact Nat.le_of_ble_eq_true rfl | exact Nat.zero_le _ | decide) ?_)
          rw [← hr] at q
          exact q
        · exact absurd (nI_le (by omega) (by omega)) hcc
    | succ n ih =>
      intro i M c4' hM9 hi hr L hL
      have e0 := hM9.1.1
      have e4 := hM9.2.2.2.2.1.1
      have k4' := hM9.2.2.2.2.1.2
      obtain ⟨c9, w⟩ := r_mo1_wf hM9 (i := i) (by omega)
      have go : ∀ z, fX9_endDay_78 l Q X K [(3, z), (2, .int (nI i)), (1, .int S), (0, .ref m)] [] (st h m F (r_mo1 M i)) (0, 0) := by
        intro z
        have := ih (i + 1) _ c9 w (by omega) hr _ (Or.inr ⟨z, rfl⟩)
        rw [← nI_1 i] at this
        exact this
      unfold r_mo1 at go
      rw [e4, nI_clamp (by omega)] at go
      rcases hL with hL | ⟨z, hL⟩ <;> subst hL
      all_goals
        refine hK _ _ _ _ ?_
        repeat (first | (refine And.intro hM.1 (And.intro hM.2.1 ?_); rw [g_st hM]) | (refine And.intro hM.1 ?_; rw [fp_st hM]) | (refine And.intro hM.1 ?_; rw [fg_st hM]) | refine And.intro (by first | exact hM.1 | assumption | rfl | exact Nat.le_of_ble_eq_true rfl | exact Nat.zero_le _ | decide) ?_)
        refine And.intro (k20 hM) (And.intro (vin hM (x := (0 : Int32)) (i := 0) rfl (by decide)) ?_); rw [ld_st hM (x := (0 : Int32)) (i := 0) rfl (by decide)]
        rw [e0]
        refine And.intro (fun hcc => ?_) (fun hcc => ?_)
        · exact absurd hcc (nI_ge (by omega) (by omega))
        · repeat (first | (refine And.intro hM.1 (And.intro hM.2.1 ?_); rw [g_st hM]) | (refine And.intro hM.1 ?_; rw [fp_st hM]) | (refine And.intro hM.1 ?_; rw [fg_st hM]) | refine And.intro (by first | exact hM.1 | assumption | rfl | exact Nat.le_of_ble_eq_true rfl | exact Nat.zero_le _ | decide) ?_)
          refine c_wantedOf hst hM i rfl (by omega) hM9.cOk ?_
          refine And.intro (fun hz => ?_) (fun hz => ?_)
          · rw [if_neg (fun y => absurd hz (Int32.not_le.mpr y.1))] at go
            exact go _
          · repeat (first | (refine And.intro hM.1 (And.intro hM.2.1 ?_); rw [g_st hM]) | (refine And.intro hM.1 ?_; rw [fp_st hM]) | (refine And.intro hM.1 ?_; rw [fg_st hM]) | refine And.intro (by first | exact hM.1 | assumption | rfl | exact Nat.le_of_ble_eq_true rfl | exact Nat.zero_le _ | decide) ?_)
            refine And.intro (k20 hM) (And.intro (vin hM (x := (4 : Int32)) (i := 4) rfl (by decide)) ?_); rw [ld_st hM (x := (4 : Int32)) (i := 4) rfl (by decide)]
            rw [e4]
            refine And.intro (fun h12 => ?_) (fun h12 => ?_)
            · rw [if_neg (fun y => absurd h12 (Int32.not_le.mpr y.2))] at go
              exact go _
            · rw [if_pos ⟨Int32.not_le.mp hz, Int32.not_le.mp h12⟩] at go
              have k12 : c4' < 12 := (nI_ltI (by omega) (by decide)).mp (Int32.not_le.mp h12)
              repeat (first | (refine And.intro hM.1 (And.intro hM.2.1 ?_); rw [g_st hM]) | (refine And.intro hM.1 ?_; rw [fp_st hM]) | (refine And.intro hM.1 ?_; rw [fg_st hM]) | refine And.intro (by first | exact hM.1 | assumption | rfl | exact Nat.le_of_ble_eq_true rfl | exact Nat.zero_le _ | decide) ?_)
              refine And.intro (k20 hM) (And.intro (vin hM (x := (5 : Int32)) (i := 5) rfl (by decide)) ?_); rw [ld_st hM (x := (5 : Int32)) (i := 5) rfl (by decide)]
              repeat (first | (refine And.intro hM.1 (And.intro hM.2.1 ?_); rw [g_st hM]) | (refine And.intro hM.1 ?_; rw [fp_st hM]) | (refine And.intro hM.1 ?_; rw [fg_st hM]) | refine And.intro (by first | exact hM.1 | assumption | rfl | exact Nat.le_of_ble_eq_true rfl | exact Nat.zero_le _ | decide) ?_)
              refine c_of hst hM i 4 rfl rfl (by omega) ?_
              repeat (first | (refine And.intro hM.1 (And.intro hM.2.1 ?_); rw [g_st hM]) | (refine And.intro hM.1 ?_; rw [fp_st hM]) | (refine And.intro hM.1 ?_; rw [fg_st hM]) | refine And.intro (by first | exact hM.1 | assumption | rfl | exact Nat.le_of_ble_eq_true rfl | exact Nat.zero_le _ | decide) ?_)
              refine c_start hst hM 323 4 c4' rfl rfl (by decide) (by decide) e4 (by omega) ?_
              exact go _
  exact hk c0 0 O _ h3 (by omega) rfl _ (Or.inl (by rw [← hS]; rfl))
/-- k days end -/
def r_days : Nat → (Nat → Int32) → (Nat → Int32) × Int32
  | 0, N => (N, 0)
  | k + 1, N => let r := r_days k N; ((r_day r.1).1, r.2 + (r_day r.1).2)
theorem r_days_wf {c0 c1 : Nat} {N : Nat → Int32} {c2 c3 c4 : Nat} (h : WFc N c0 c1 c2 c3 c4) : ∀ k : Nat, ∃ c2' c3' c4', WFc (r_days k N).1 c0 c1 c2' c3' c4'
  | 0 => ⟨c2, c3, c4, h⟩
  | k + 1 => by
    obtain ⟨a, b, c, h'⟩ := r_days_wf h k
    exact r_day_wf h'
theorem c_doAdvance {l : Launch} (hst : l.stackTraces = false) {Q : Option Value → Hp → Prop} {X : String → Hp → Prop} {h : Hp} {m : Nat} {F N : Nat → Int32} (hM : MdS h m) {P : Int32} {c0 c1 c2 c3 c4 : Nat} (d : Nat) (hp : P = nI d) (hd : d < 1000) (hN : WFc N c0 c1 c2 c3 c4) (q : Q (some (.int (r_days d N).2)) (st h m F (r_days d N).1)) : CX9_doAdvance l [.ref m, .int P] (st h m F N) Q X := by
  subst hp
  refine eX9_doAdvance hst (Nat.le_of_ble_eq_true rfl) (fun K hK => ?_)
  have hk : ∀ (n i : Nat), i + n = d → K 4 [(3, .int (nI i)), (2, .int (r_days i N).2), (0, .ref m), (1, .int (nI d))] [] (st h m F (r_days i N).1) (0, 0) := by
    intro n
    induction n with
    | zero =>
      intro i hi
      refine hK _ _ _ _ ?_
      refine And.intro (fun hcc => ?_) (fun hcc => ?_)
      · repeat (first | (refine And.intro hM.1 (And.intro hM.2.1 ?_); rw [g_st hM]) | (refine And.intro hM.1 ?_; rw [fp_st hM]) | (refine And.intro hM.1 ?_; rw [fg_st hM]) | refine And.intro (by first | exact hM.1 | assumption | rfl | exact Nat.le_of_ble_eq_true rfl | exact Nat.zero_le _ | decide) ?_)
        rw [show i = d by omega]
        exact q
      · exact absurd (nI_le (by omega) (by omega)) hcc
    | succ n ih =>
      intro i hi
      obtain ⟨a, b, c, h'⟩ := r_days_wf hN i
      refine hK _ _ _ _ ?_
      refine And.intro (fun hcc => ?_) (fun hcc => ?_)
      · exact absurd hcc (nI_ge (by omega) (by omega))
      · repeat (first | (refine And.intro hM.1 (And.intro hM.2.1 ?_); rw [g_st hM]) | (refine And.intro hM.1 ?_; rw [fp_st hM]) | (refine And.intro hM.1 ?_; rw [fg_st hM]) | refine And.intro (by first | exact hM.1 | assumption | rfl | exact Nat.le_of_ble_eq_true rfl | exact Nat.zero_le _ | decide) ?_)
        refine c_endDay hst hM h' ?_
        have := ih (i + 1) (by omega)
        rw [← nI_1 i] at this
        exact this
  exact hk d 0 (by omega)
end M7

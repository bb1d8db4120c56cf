section M3
/-- the numbers of a row that say which parts belong where, and how many there are -/
def stru (j : Nat) : Prop := j < 5 ∨ (7 ≤ j ∧ j < 191 ∧ 8 ≤ (j - 7) % 23 ∧ (j - 7) % 23 ≤ 12) ∨ (191 ≤ j ∧ j < 227) ∨ (227 ≤ j ∧ j < 287 ∧ (j - 227) % 5 = 1) ∨ (287 ≤ j ∧ j < 359 ∧ (j - 287) % 3 = 0)
/-- a row whose counts and references to parts are in their ranges -/
def WFc (N : Nat → Int32) (c0 c1 c2 c3 c4 : Nat) : Prop := (N 0 = nI c0 ∧ c0 ≤ 8) ∧ (N 1 = nI c1 ∧ c1 ≤ 4) ∧ (N 2 = nI c2 ∧ c2 ≤ 12) ∧ (N 3 = nI c3 ∧ c3 ≤ 12) ∧ (N 4 = nI c4 ∧ c4 ≤ 12) ∧
  (∀ p, p < c0 → ∃ c : Nat, c ≤ 4 ∧ N (7 + p * 23 + 8) = nI c ∧ ∀ k, k < c → ∃ s : Nat, s < c0 ∧ N (7 + p * 23 + (9 + k)) = nI s) ∧
  (∀ k, k < c1 → ∃ c : Nat, c ≤ 4 ∧ N (191 + k * 9) = nI c ∧ ∀ i, i < c → ∃ s : Nat, s < c0 ∧ N (191 + k * 9 + 1 + 2 * i + 0) = nI s) ∧
  (∀ i, i < c2 → ∃ s : Nat, s < c0 ∧ N (227 + i * 5 + 1) = nI s) ∧ (∀ i, i < c3 → ∃ s : Nat, s < c0 ∧ N (287 + i * 3 + 0) = nI s) ∧ (∀ i, i < c4 → ∃ s : Nat, s < c0 ∧ N (323 + i * 3 + 0) = nI s)
theorem WFc.agree {N N' : Nat → Int32} {c0 c1 c2 c3 c4 : Nat} (h : WFc N c0 c1 c2 c3 c4) (e : ∀ j, stru j → N' j = N j) : WFc N' c0 c1 c2 c3 c4 := by
  obtain ⟨⟨h0, k0⟩, ⟨h1, k1⟩, ⟨h2, k2⟩, ⟨h3, k3⟩, ⟨h4, k4⟩, hp, hk, hw, hr, ho⟩ := h
  refine ⟨⟨by rw [e 0 (Or.inl (by decide))]; exact h0, k0⟩, ⟨by rw [e 1 (Or.inl (by decide))]; exact h1, k1⟩, ⟨by rw [e 2 (Or.inl (by decide))]; exact h2, k2⟩, ⟨by rw [e 3 (Or.inl (by decide))]; exact h3, k3⟩, ⟨by rw [e 4 (Or.inl (by decide))]; exact h4, k4⟩, ?_, ?_, ?_, ?_, ?_⟩
  · intro p hp9
    obtain ⟨c, x1, x2, x3⟩ := hp p hp9
    refine ⟨c, x1, by rw [e _ (by unfold stru; omega)]; exact x2, fun k hk9 => ?_⟩
    obtain ⟨s, y1, y2⟩ := x3 k hk9
    exact ⟨s, y1, by rw [e _ (by unfold stru; omega)]; exact y2⟩
  · intro p hp9
    obtain ⟨c, x1, x2, x3⟩ := hk p hp9
    refine ⟨c, x1, by rw [e _ (by unfold stru; omega)]; exact x2, fun k hk9 => ?_⟩
    obtain ⟨s, y1, y2⟩ := x3 k hk9
    exact ⟨s, y1, by rw [e _ (by unfold stru; omega)]; exact y2⟩
  · intro i hi
    obtain ⟨s, y1, y2⟩ := hw i hi
    exact ⟨s, y1, by rw [e _ (by unfold stru; omega)]; exact y2⟩
  · intro i hi
    obtain ⟨s, y1, y2⟩ := hr i hi
    exact ⟨s, y1, by rw [e _ (by unfold stru; omega)]; exact y2⟩
  · intro i hi
    obtain ⟨s, y1, y2⟩ := ho i hi
    exact ⟨s, y1, by rw [e _ (by unfold stru; omega)]; exact y2⟩
theorem WFc.sub {N : Nat → Int32} {c0 c1 c2 c3 c4 : Nat} (h : WFc N c0 c1 c2 c3 c4) {p : Nat} (hp : p < c0) : subOk N p := by
  obtain ⟨⟨h0, k0⟩, -, -, -, -, hp9, -⟩ := h
  obtain ⟨c, x1, x2, x3⟩ := hp9 p hp
  exact ⟨c, x1, x2, fun k hk => by obtain ⟨s, y1, y2⟩ := x3 k hk; exact ⟨s, by omega, y2⟩⟩
theorem WFc.cOk {N : Nat → Int32} {c0 c1 c2 c3 c4 : Nat} (h : WFc N c0 c1 c2 c3 c4) : cOk N := ⟨⟨c0, h.1.1, h.1.2⟩, ⟨c1, h.2.1.1, h.2.1.2⟩, ⟨c2, h.2.2.1.1, h.2.2.1.2⟩, ⟨c3, h.2.2.2.1.1, h.2.2.2.1.2⟩, ⟨c4, h.2.2.2.2.1.1, h.2.2.2.2.1.2⟩⟩
theorem stru_0 {j q : Nat} (h : stru j) : j ≠ 7 + q * 23 + 0 ∨ 8 ≤ q := by unfold stru at h; omega
theorem stru_20 {j q : Nat} (h : stru j) : j ≠ 7 + q * 23 + 20 ∨ 8 ≤ q := by unfold stru at h; omega
theorem r_issue_s {N : Nat → Int32} {p : Nat} {w : Int32} (hp : p < 8) {j : Nat} (h : stru j) : r_issue N p w j = N j :=
  r_issue_o ((stru_0 h).resolve_right (by omega)) ((stru_20 h).resolve_right (by omega))
theorem r_subs_s {p : Nat} (hp : p < 8) : ∀ (n : Nat) {N : Nat → Int32} {w : Int32} {j : Nat}, n ≤ 4 → (∀ k, k < n → ∃ s : Nat, s < 8 ∧ N (7 + p * 23 + (9 + k)) = nI s) → stru j → (r_subs p n N w).2 j = N j
  | 0, _, _, _, _, _, _ => rfl
  | n + 1, N, w, j, hn, hs, h => by
    have ih := fun {j} => r_subs_s hp n (N := N) (w := w) (j := j) (by omega) (fun k hk => hs k (by omega))
    show r_issue _ _ _ j = N j
    obtain ⟨s, s1, s2⟩ := hs n (by omega)
    rw [ih (j := 7 + p * 23 + (9 + n)) (by unfold stru; omega), s2, nI_clamp (by omega), r_issue_s s1 h, ih h]
theorem r_serve_s {N : Nat → Int32} {p : Nat} {w : Int32} (hp : p < 8) (hs : subOk N p) {j : Nat} (h : stru j) : (r_serve N p w).2 j = N j := by
  obtain ⟨c, c4, hc, hk⟩ := hs
  unfold r_serve
  rw [hc, nI_clamp (by omega), r_subs_s hp c c4 (fun k hk9 => by
    obtain ⟨s, s1, s2⟩ := hk k hk9
    exact ⟨s, s1, by rw [r_issue_s hp (by unfold stru; omega)]; exact s2⟩) h, r_issue_s hp h]
/-- the pieces of a part and its first k substitutes -/
def s_av (N : Nat → Int32) (p : Nat) : Nat → Int32
  | 0 => N (7 + p * 23 + 0)
  | k + 1 => s_av N p k + N (7 + (N (7 + p * 23 + (9 + k))).toNatClampNeg * 23 + 0)
theorem c_availableOf {l : Launch} (hst : l.stackTraces = false) {Q : Option Value → Hp → Prop} {X : String → Hp → Prop} {h : Hp} {m : Nat} {F N : Nat → Int32} (hM : MdS h m) {P : Int32} (p : Nat) (hp : P = nI p) (hb : p < 8) (hs : subOk N p) (q : Q (some (.int (s_av N p (N (7 + p * 23 + 8)).toNatClampNeg))) (st h m F N)) : CX9_availableOf l [.ref m, .int P] (st h m F N) Q X := by
  subst hp
  obtain ⟨c, c4, hc, hsub⟩ := hs
  rw [hc, nI_clamp (by omega)] at q
  refine eX9_availableOf hst (Nat.le_of_ble_eq_true rfl) (fun K hK => ?_)
  repeat (first | (refine And.intro hM.1 (And.intro hM.2.1 ?_); rw [g_st hM]) | (refine And.intro hM.1 ?_; rw [fp_st hM]) | (refine And.intro hM.1 ?_; rw [fg_st hM]) | refine And.intro (by first | exact hM.1 | assumption | rfl | exact Nat.le_of_ble_eq_true rfl | exact Nat.zero_le _ | decide) ?_)
  refine c_of hst hM p 0 rfl rfl (by omega) ?_
  repeat (first | (refine And.intro hM.1 (And.intro hM.2.1 ?_); rw [g_st hM]) | (refine And.intro hM.1 ?_; rw [fp_st hM]) | (refine And.intro hM.1 ?_; rw [fg_st hM]) | refine And.intro (by first | exact hM.1 | assumption | rfl | exact Nat.le_of_ble_eq_true rfl | exact Nat.zero_le _ | decide) ?_)
  have hk : ∀ (n i : Nat) (v : Int32), i + n = c → v = s_av N p i → K 9 [(3, .int (nI i)), (2, .int v), (0, .ref m), (1, .int (nI p))] [] (st h m F N) (0, 0) := by
    intro n
    induction n with
    | zero =>
      intro i v hi hv
      refine hK _ _ _ _ ?_
      repeat (first | (refine And.intro hM.1 (And.intro hM.2.1 ?_); rw [g_st hM]) | (refine And.intro hM.1 ?_; rw [fp_st hM]) | (refine And.intro hM.1 ?_; rw [fg_st hM]) | refine And.intro (by first | exact hM.1 | assumption | rfl | exact Nat.le_of_ble_eq_true rfl | exact Nat.zero_le _ | decide) ?_)
      refine c_of hst hM p 8 rfl rfl (by omega) ?_
      rw [hc]
      refine And.intro (fun hcc => ?_) (fun hcc => ?_)
      · repeat (first | (refine And.intro hM.1 (And.intro hM.2.1 ?_); rw [g_st hM]) | (refine And.intro hM.1 ?_; rw [fp_st hM]) | (refine And.intro hM.1 ?_; rw [fg_st hM]) | refine And.intro (by first | exact hM.1 | assumption | rfl | exact Nat.le_of_ble_eq_true rfl | exact Nat.zero_le _ | decide) ?_)
        rw [hv, show i = c by omega]
        exact q
      · exact absurd (nI_le (by omega) (by omega)) hcc
    | succ n ih =>
      intro i v hi hv
      obtain ⟨s, s8, hse⟩ := hsub i (by omega)
      refine hK _ _ _ _ ?_
      repeat (first | (refine And.intro hM.1 (And.intro hM.2.1 ?_); rw [g_st hM]) | (refine And.intro hM.1 ?_; rw [fp_st hM]) | (refine And.intro hM.1 ?_; rw [fg_st hM]) | refine And.intro (by first | exact hM.1 | assumption | rfl | exact Nat.le_of_ble_eq_true rfl | exact Nat.zero_le _ | decide) ?_)
      refine c_of hst hM p 8 rfl rfl (by omega) ?_
      rw [hc]
      refine And.intro (fun hcc => ?_) (fun hcc => ?_)
      · exact absurd hcc (nI_ge (by omega) (by omega))
      · repeat (first | (refine And.intro hM.1 (And.intro hM.2.1 ?_); rw [g_st hM]) | (refine And.intro hM.1 ?_; rw [fp_st hM]) | (refine And.intro hM.1 ?_; rw [fg_st hM]) | refine And.intro (by first | exact hM.1 | assumption | rfl | exact Nat.le_of_ble_eq_true rfl | exact Nat.zero_le _ | decide) ?_)
        refine c_of hst hM p (9 + i) rfl (nI_add 9 i) (by omega) ?_
        rw [hse]
        repeat (first | (refine And.intro hM.1 (And.intro hM.2.1 ?_); rw [g_st hM]) | (refine And.intro hM.1 ?_; rw [fp_st hM]) | (refine And.intro hM.1 ?_; rw [fg_st hM]) | refine And.intro (by first | exact hM.1 | assumption | rfl | exact Nat.le_of_ble_eq_true rfl | exact Nat.zero_le _ | decide) ?_)
        refine c_of hst hM s 0 rfl rfl (by omega) ?_
        have := ih (i + 1) (v + N (7 + s * 23 + 0)) (by omega) (by rw [hv]; show _ = s_av N p i + _; rw [hse, nI_clamp (by omega)])
        rw [← nI_1 i] at this
        exact this
  exact hk c 0 _ (by omega) rfl
/-- the place of a substitute among the first k -/
def s_place (N : Nat → Int32) (p : Nat) (o : Int32) : Nat → Int32
  | 0 => -1
  | k + 1 => if N (7 + p * 23 + (9 + k)) = o then nI k else s_place N p o k
theorem c_placeOf {l : Launch} (hst : l.stackTraces = false) {Q : Option Value → Hp → Prop} {X : String → Hp → Prop} {h : Hp} {m : Nat} {F N : Nat → Int32} (hM : MdS h m) {P o : Int32} (p c : Nat) (hp : P = nI p) (hb : p < 8) (c4 : c ≤ 4) (hc : N (7 + p * 23 + 8) = nI c) (q : Q (some (.int (s_place N p o c))) (st h m F N)) : CX9_placeOf l [.ref m, .int P, .int o] (st h m F N) Q X := by
  subst hp
  refine eX9_placeOf hst (Nat.le_of_ble_eq_true rfl) (fun K hK => ?_)
  have hk : ∀ (n i : Nat) (v : Int32), i + n = c → v = s_place N p o i → K 5 [(4, .int (nI i)), (3, .int v), (0, .ref m), (1, .int (nI p)), (2, .int o)] [] (st h m F N) (0, 0) := by
    intro n
    induction n with
    | zero =>
      intro i v hi hv
      refine hK _ _ _ _ ?_
      repeat (first | (refine And.intro hM.1 (And.intro hM.2.1 ?_); rw [g_st hM]) | (refine And.intro hM.1 ?_; rw [fp_st hM]) | (refine And.intro hM.1 ?_; rw [fg_st hM]) | refine And.intro (by first | exact hM.1 | assumption | rfl | exact Nat.le_of_ble_eq_true rfl | exact Nat.zero_le _ | decide) ?_)
      refine c_of hst hM p 8 rfl rfl (by omega) ?_
      rw [hc]
      refine And.intro (fun hcc => ?_) (fun hcc => ?_)
      · repeat (first | (refine And.intro hM.1 (And.intro hM.2.1 ?_); rw [g_st hM]) | (refine And.intro hM.1 ?_; rw [fp_st hM]) | (refine And.intro hM.1 ?_; rw [fg_st hM]) | refine And.intro (by first | exact hM.1 | assumption | rfl | exact Nat.le_of_ble_eq_true rfl | exact Nat.zero_le _ | decide) ?_)
        rw [hv, show i = c by omega]
        exact q
      · exact absurd (nI_le (by omega) (by omega)) hcc
    | succ n ih =>
      intro i v hi hv
      refine hK _ _ _ _ ?_
      repeat (first | (refine And.intro hM.1 (And.intro hM.2.1 ?_); rw [g_st hM]) | (refine And.intro hM.1 ?_; rw [fp_st hM]) | (refine And.intro hM.1 ?_; rw [fg_st hM]) | refine And.intro (by first | exact hM.1 | assumption | rfl | exact Nat.le_of_ble_eq_true rfl | exact Nat.zero_le _ | decide) ?_)
      refine c_of hst hM p 8 rfl rfl (by omega) ?_
      rw [hc]
      have fin : ∀ x : Int32, x = s_place N p o (i + 1) → fX9_placeOf_37 l Q X K [(4, .int (nI i)), (3, .int v), (0, .ref m), (1, .int (nI p)), (2, .int o)] [.int x] (st h m F N) (0, 0) := by
        intro x hx
        have := ih (i + 1) x (by omega) hx
        rw [← nI_1 i] at this
        exact this
      refine And.intro (fun hcc => ?_) (fun hcc => ?_)
      · exact absurd hcc (nI_ge (by omega) (by omega))
      · repeat (first | (refine And.intro hM.1 (And.intro hM.2.1 ?_); rw [g_st hM]) | (refine And.intro hM.1 ?_; rw [fp_st hM]) | (refine And.intro hM.1 ?_; rw [fg_st hM]) | refine And.intro (by first | exact hM.1 | assumption | rfl | exact Nat.le_of_ble_eq_true rfl | exact Nat.zero_le _ | decide) ?_)
        refine c_of hst hM p (9 + i) rfl (nI_add 9 i) (by omega) ?_
        refine And.intro (fun heq => ?_) (fun heq => ?_)
        · refine fin _ ?_
          show _ = if _ then _ else _
          rw [if_neg heq]; exact hv
        · refine fin _ ?_
          show _ = if _ then _ else _
          rw [if_pos heq]
  exact hk c 0 _ (by omega) rfl
def b2 (b : Bool) : Int32 := if b then 1 else 0
theorem b2_or (a b : Bool) : b2 a ||| b2 b = b2 (a || b) := by cases a <;> cases b <;> rfl
/-- whether one of the first i items of a kit has the part -/
def s_has (N : Nat → Int32) (k : Nat) (P : Int32) : Nat → Bool
  | 0 => false
  | i + 1 => s_has N k P i || decide (N (191 + k * 9 + 1 + 2 * i + 0) = P)
theorem c_hasItem {l : Launch} (hst : l.stackTraces = false) {Q : Option Value → Hp → Prop} {X : String → Hp → Prop} {h : Hp} {m : Nat} {F N : Nat → Int32} (hM : MdS h m) {P o : Int32} (p c : Nat) (hp : P = nI p) (hb : p < 4) (c4 : c ≤ 4) (hc : N (191 + p * 9) = nI c) (q : Q (some (.int (b2 (s_has N p o c)))) (st h m F N)) : CX9_hasItem l [.ref m, .int P, .int o] (st h m F N) Q X := by
  subst hp
  refine eX9_hasItem hst (Nat.le_of_ble_eq_true rfl) (fun K hK => ?_)
  have hk : ∀ (n i : Nat) (v : Int32), i + n = c → v = b2 (s_has N p o i) → K 5 [(4, .int (nI i)), (3, .int v), (0, .ref m), (1, .int (nI p)), (2, .int o)] [] (st h m F N) (0, 0) := by
    intro n
    induction n with
    | zero =>
      intro i v hi hv
      refine hK _ _ _ _ ?_
      repeat (first | (refine And.intro hM.1 (And.intro hM.2.1 ?_); rw [g_st hM]) | (refine And.intro hM.1 ?_; rw [fp_st hM]) | (refine And.intro hM.1 ?_; rw [fg_st hM]) | refine And.intro (by first | exact hM.1 | assumption | rfl | exact Nat.le_of_ble_eq_true rfl | exact Nat.zero_le _ | decide) ?_)
      refine c_items hst hM p rfl (by omega) ?_
      rw [hc]
      refine And.intro (fun hcc => ?_) (fun hcc => ?_)
      · repeat (first | (refine And.intro hM.1 (And.intro hM.2.1 ?_); rw [g_st hM]) | (refine And.intro hM.1 ?_; rw [fp_st hM]) | (refine And.intro hM.1 ?_; rw [fg_st hM]) | refine And.intro (by first | exact hM.1 | assumption | rfl | exact Nat.le_of_ble_eq_true rfl | exact Nat.zero_le _ | decide) ?_)
        refine And.intro (by rw [hv]; unfold b2; split <;> decide) ?_
        rw [hv, show i = c by omega]
        exact q
      · exact absurd (nI_le (by omega) (by omega)) hcc
    | succ n ih =>
      intro i v hi hv
      refine hK _ _ _ _ ?_
      repeat (first | (refine And.intro hM.1 (And.intro hM.2.1 ?_); rw [g_st hM]) | (refine And.intro hM.1 ?_; rw [fp_st hM]) | (refine And.intro hM.1 ?_; rw [fg_st hM]) | refine And.intro (by first | exact hM.1 | assumption | rfl | exact Nat.le_of_ble_eq_true rfl | exact Nat.zero_le _ | decide) ?_)
      refine c_items hst hM p rfl (by omega) ?_
      rw [hc]
      have fin : ∀ x : Bool, x = decide (N (191 + p * 9 + 1 + 2 * i + 0) = o) → fX9_hasItem_33 l Q X K [(4, .int (nI i)), (3, .int v), (0, .ref m), (1, .int (nI p)), (2, .int o)] [.int (b2 x), .int v] (st h m F N) (0, 0) := by
        intro x hx
        have := ih (i + 1) (v ||| b2 x) (by omega) (by rw [hv, b2_or, hx]; rfl)
        rw [← nI_1 i] at this
        exact this
      refine And.intro (fun hcc => ?_) (fun hcc => ?_)
      · exact absurd hcc (nI_ge (by omega) (by omega))
      · repeat (first | (refine And.intro hM.1 (And.intro hM.2.1 ?_); rw [g_st hM]) | (refine And.intro hM.1 ?_; rw [fp_st hM]) | (refine And.intro hM.1 ?_; rw [fg_st hM]) | refine And.intro (by first | exact hM.1 | assumption | rfl | exact Nat.le_of_ble_eq_true rfl | exact Nat.zero_le _ | decide) ?_)
        refine c_itemOf hst hM p i 0 rfl rfl rfl (by omega) ?_
        refine And.intro (fun heq => ?_) (fun heq => ?_)
        · exact fin false (by rw [decide_eq_false heq])
        · exact fin true (by rw [decide_eq_true heq])
  exact hk c 0 _ (by omega) rfl
end M3

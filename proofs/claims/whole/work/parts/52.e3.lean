section E3
/-- items of kit k are taken, n of them from i on: the row, whether all went, pieces of substitutes, the part that lacks and how much -/
def g_take (k : Nat) : Nat → Nat → (Nat → Int32) → Int32 → (Nat → Int32) × Bool × Int32 × Int32 × Int32
  | 0, _, N, o => (N, true, o, 0, 0)
  | n + 1, i, N, o =>
    if s_av N (N (191 + k * 9 + 1 + 2 * i + 0)).toNatClampNeg (N (7 + (N (191 + k * 9 + 1 + 2 * i + 0)).toNatClampNeg * 23 + 8)).toNatClampNeg < N (191 + k * 9 + 1 + 2 * i + 1) then (N, false, -1, N (191 + k * 9 + 1 + 2 * i + 0), N (191 + k * 9 + 1 + 2 * i + 1) - s_av N (N (191 + k * 9 + 1 + 2 * i + 0)).toNatClampNeg (N (7 + (N (191 + k * 9 + 1 + 2 * i + 0)).toNatClampNeg * 23 + 8)).toNatClampNeg)
    else g_take k n (i + 1) (r_serve N (N (191 + k * 9 + 1 + 2 * i + 0)).toNatClampNeg (N (191 + k * 9 + 1 + 2 * i + 1))).2 (o + (N (191 + k * 9 + 1 + 2 * i + 1) - lss (N (191 + k * 9 + 1 + 2 * i + 1)) (N (7 + (N (191 + k * 9 + 1 + 2 * i + 0)).toNatClampNeg * 23 + 0))))
theorem g_take_s (k n i : Nat) (N : Nat → Int32) (o : Int32) {p : Nat} (hp : N (191 + k * 9 + 1 + 2 * i + 0) = nI p) (h : p < 2 ^ 31) : g_take k (n + 1) i N o = if s_av N p (N (7 + p * 23 + 8)).toNatClampNeg < N (191 + k * 9 + 1 + 2 * i + 1) then (N, false, -1, nI p, N (191 + k * 9 + 1 + 2 * i + 1) - s_av N p (N (7 + p * 23 + 8)).toNatClampNeg) else g_take k n (i + 1) (r_serve N p (N (191 + k * 9 + 1 + 2 * i + 1))).2 (o + (N (191 + k * 9 + 1 + 2 * i + 1) - lss (N (191 + k * 9 + 1 + 2 * i + 1)) (N (7 + p * 23 + 0)))) := by
  show (if _ then _ else _) = _
  rw [hp, nI_clamp h]
/-- stocks, substitutes and kits are in their ranges -/
def KI (N : Nat → Int32) (c0 c1 : Nat) : Prop := Sk N c0 ∧ (∀ q, q < c0 → (N (7 + q * 23 + 0)).toInt ≤ 100000000) ∧ Dst N c0 ∧ ∀ k c i, k < c1 → N (191 + k * 9) = nI c → c ≤ 4 → i < c → 0 ≤ (N (191 + k * 9 + 1 + 2 * i + 1)).toInt ∧ (N (191 + k * 9 + 1 + 2 * i + 1)).toInt ≤ 9
theorem KI.serve {N : Nat → Int32} {c0 c1 c2 c3 c4 p : Nat} {v : Int32} (hN : WFc N c0 c1 c2 c3 c4) (h : KI N c0 c1) (hp : p < c0) (hv : 0 ≤ v.toInt) : KI (r_serve N p v).2 c0 c1 := by
  obtain ⟨n1, n2, n3, n4⟩ := serve_num hN h.1 hp hv
  have k0 := hN.1.2
  have px : ∀ p' k, p' < c0 → k < 23 → k ≠ 0 → k ≠ 20 → (r_serve N p v).2 (7 + p' * 23 + k) = N (7 + p' * 23 + k) := fun p' k hp' hk h0 h2 => r_serve_x hN hp (fun q hq => by omega)
  refine ⟨n1, fun q hq => Int.le_trans (n4 q hq) (h.2.1 q hq), fun q c hq hc c4' => ?_, fun k c i hk hc c4' hi => ?_⟩
  · rw [px q 8 hq (by decide) (by decide) (by decide)] at hc
    obtain ⟨d1, d2⟩ := h.2.2.1 q c hq hc c4'
    refine ⟨fun i hi => ?_, fun i j hij hj => ?_⟩
    · rw [px q (9 + i) hq (by omega) (by omega) (by omega)]; exact d1 i hi
    · rw [px q (9 + i) hq (by omega) (by omega) (by omega), px q (9 + j) hq (by omega) (by omega) (by omega)]; exact d2 i j hij hj
  · rw [r_serve_o hN hp (by omega)] at hc
    rw [r_serve_o hN hp (by omega)]
    exact h.2.2.2 k c i hk hc c4' hi
/-- whether a quantity can be served, and what is missing -/
theorem KI.av {N : Nat → Int32} {c0 c1 c2 c3 c4 p : Nat} {v : Int32} (hN : WFc N c0 c1 c2 c3 c4) (h : KI N c0 c1) (hp : p < c0) (hv : 0 ≤ v.toInt) : (s_av N p (N (7 + p * 23 + 8)).toNatClampNeg < v → (r_serve N p v).1 = v - s_av N p (N (7 + p * 23 + 8)).toNatClampNeg ∧ 0 < (r_serve N p v).1) ∧ (¬ s_av N p (N (7 + p * 23 + 8)).toNatClampNeg < v → (r_serve N p v).1 = 0) := by
  obtain ⟨a1, a2⟩ := serve_av hN h.1 h.2.2.1 hp hv
  obtain ⟨c, c4', hc, hsub⟩ := hN.2.2.2.2.2.1 p hp
  rw [hc, nI_clamp (by omega)] at a1 a2 ⊢
  obtain ⟨b1, b2, b3⟩ := av_i hN.1.2 h.1 h.2.1 hp hsub c4' c (Nat.le_refl _)
  have hi := i32_hi v
  refine ⟨fun z => ?_, fun z => ?_⟩
  · have z' := Int32.lt_iff_toInt_lt.mp z
    have e : (v - s_av N p c).toInt = v.toInt - s_avI N p c := by rw [isub_i (by omega) (by omega), b1]
    exact ⟨Int32.toInt_inj.mp (by omega), i_lt0.mpr (by omega)⟩
  · have z' : ¬ (s_av N p c).toInt < v.toInt := fun y => z (Int32.lt_iff_toInt_lt.mpr y)
    exact i_eq0.mpr (by omega)
theorem d_serveItems {l : Launch} (hst : l.stackTraces = false) {Q : Option Value → Hp → Prop} {X : String → Hp → Prop} {h0 H : Hp} {w : Nat} {σ ρ : Nat → Nat} {N : Nat → Int32} {c0 c1 c2 c3 c4 : Nat} (W : Wv [] h0 H w σ ρ N c0 c1 c2 c3 c4) {k c : Nat} {P : Int32} (hP : P = nI k) (hk : k < c1) (hc : N (191 + k * 9) = nI c) (c4' : c ≤ 4) (hit : ∀ i, i < c → ∃ s : Nat, s < c0 ∧ N (191 + k * 9 + 1 + 2 * i + 0) = nI s) (hK9 : KI N c0 c1)
    (q : ∀ H' M, Wv [] h0 H' w σ ρ M c0 c1 c2 c3 c4 → ((g_take k c 0 N 0).2.1 = true → M = (g_take k c 0 N 0).1) → Q (some (.int (if (g_take k c 0 N 0).2.1 = true then -1 else 100 * (g_take k c 0 N 0).2.2.2.1 + (g_take k c 0 N 0).2.2.2.2))) H') : CX7_serveItems l [.ref w, .int P] H Q X := by
  subst hP
  have k0 := W.1.1.2
  have k1 := W.1.2.1.2
  have k4 : k < 4 := by omega
  refine eX7_serveItems hst (Nat.le_of_ble_eq_true rfl) (fun K hK => ?_)
  refine gKits W.k ?_
  refine aKit W.k rfl k4 ?_
  have hk : ∀ (n i : Nat) (M : Nat → Int32) (o : Int32) (H' : Hp), i + n = c → Wv [] h0 H' w σ ρ M c0 c1 c2 c3 c4 → KI M c0 c1 → (∀ j, 191 ≤ j → M j = N j) → g_take k n i M o = g_take k c 0 N 0 → ∀ L, (L = [(3, .int (nI i)), (2, .ref (w + 56 + 3 * k)), (0, .ref w), (1, .int (nI k))] ∨ ∃ a, L = [(3, .int (nI i)), (4, a), (2, .ref (w + 56 + 3 * k)), (0, .ref w), (1, .int (nI k))]) → K 9 L [] H' (0, 0) := by
    intro n
    induction n with
    | zero =>
      intro i M o H' hi W' hK' hM hr L hL
      have ec : M (191 + k * 9) = nI c := by rw [hM _ (by omega)]; exact hc
      have hr1 : (M, true, o, 0, 0) = g_take k c 0 N 0 := hr
      rw [← hr1] at q
      rcases hL with hL | ⟨a, hL⟩ <;> subst hL
      all_goals
        refine hK _ _ _ _ ?_
        refine iKitC W' hk ?_
        rw [ec]
        refine And.intro (fun hcc => ?_) (fun hcc => ?_)
        · repeat (refine And.intro (by first | assumption | rfl | exact Nat.le_of_ble_eq_true rfl | exact Nat.zero_le _ | decide) ?_)
          exact q H' M W' (fun _ => rfl)
        · exact absurd (nI_le (by omega) (by omega)) hcc
    | succ n ih =>
      intro i M o H' hi W' hK' hM hr L hL
      have ec : M (191 + k * 9) = nI c := by rw [hM _ (by omega)]; exact hc
      obtain ⟨p, p1, p2'⟩ := hit i (by omega)
      have p2 : M (191 + k * 9 + 1 + 2 * i + 0) = nI p := by rw [hM _ (by omega)]; exact p2'
      obtain ⟨q1, q9⟩ := hK'.2.2.2 k c i hk ec c4' (by omega)
      rw [g_take_s k n i M o p2 (by omega)] at hr
      obtain ⟨av1, av2⟩ := hK'.av W'.1 p1 q1
      have hK2 := hK'.serve W'.1 p1 q1
      rcases hL with hL | ⟨a, hL⟩ <;> subst hL
      all_goals
        refine hK _ _ _ _ ?_
        refine iKitC W' hk ?_
        rw [ec]
        refine And.intro (fun hcc => ?_) (fun hcc => ?_)
        · exact absurd hcc (nI_ge (by omega) (by omega))
        · refine gKQ W'.k k4 ?_
          refine iKQ W' hk ec c4' (show i < c by omega) rfl ?_
          refine gKP W'.k k4 ?_
          refine iKP W' hk ec c4' (show i < c by omega) rfl ?_
          rw [p2]
          refine gKQ W'.k k4 ?_
          refine iKQ W' hk ec c4' (show i < c by omega) rfl ?_
          (repeat (refine And.intro (by first | assumption | rfl | exact Nat.le_of_ble_eq_true rfl | exact Nat.zero_le _ | decide) ?_)); refine And.intro (W'.k.s_w) ?_; (repeat (refine And.intro (by first | assumption | rfl | exact Nat.le_of_ble_eq_true rfl | exact Nat.zero_le _ | decide) ?_))
          refine d_serve hst W' p1 rfl (fun H1 W1 => ?_)
          have eo : ∀ j, 191 ≤ j → (r_serve M p (M (191 + k * 9 + 1 + 2 * i + 1))).2 j = M j := fun j hj => r_serve_o W'.1 p1 hj
          have e9 : M (191 + k * 9 + 1 + 2 * i + 1) - (M (191 + k * 9 + 1 + 2 * i + 1) - (r_serve M p (M (191 + k * 9 + 1 + 2 * i + 1))).1) = (r_serve M p (M (191 + k * 9 + 1 + 2 * i + 1))).1 := sub_sub_i _ _
          have er : ∀ z : Int32, (M (191 + k * 9 + 1 + 2 * i + 1) - (M (191 + k * 9 + 1 + 2 * i + 1) - (r_serve M p (M (191 + k * 9 + 1 + 2 * i + 1))).1) ≤ 0) = ((r_serve M p (M (191 + k * 9 + 1 + 2 * i + 1))).1 ≤ 0) := fun _ => by rw [e9]
          refine And.intro (fun hz => ?_) (fun hz => ?_)
          · rw [e9] at hz
            have hn : ¬ s_av M p (M (7 + p * 23 + 8)).toNatClampNeg < M (191 + k * 9 + 1 + 2 * i + 1) := fun z => absurd hz (Int32.not_le.mpr (av1 z).2)
            rw [if_neg hn] at hr
            have go := ih (i + 1) _ _ H1 (by omega) W1 hK2 (fun j hj => by rw [eo j hj]; exact hM j hj) hr
            rw [← nI_1 i] at go
            exact go _ (Or.inr ⟨_, rfl⟩)
          · rw [e9] at hz
            have hy : s_av M p (M (7 + p * 23 + 8)).toNatClampNeg < M (191 + k * 9 + 1 + 2 * i + 1) := Classical.byContradiction fun z => hz (by rw [av2 z]; decide)
            rw [if_pos hy] at hr
            rw [← hr] at q
            refine gKP W1.k k4 ?_
            refine iKP W1 hk (by rw [eo _ (by omega)]; exact ec) c4' (show i < c by omega) rfl ?_
            repeat (refine And.intro (by first | assumption | rfl | exact Nat.le_of_ble_eq_true rfl | exact Nat.zero_le _ | decide) ?_)
            rw [eo _ (by omega), p2, e9, (av1 hy).1]
            exact q H1 _ W1 (fun z => Bool.noConfusion (show false = true from z))
  exact hk c 0 N 0 H (by omega) W hK9 (fun _ _ => rfl) rfl _ (Or.inl rfl)
theorem d_takeItems {l : Launch} (hst : l.stackTraces = false) {Q : Option Value → Hp → Prop} {X : String → Hp → Prop} {h0 H : Hp} {w : Nat} {σ ρ : Nat → Nat} {N : Nat → Int32} {c0 c1 c2 c3 c4 : Nat} (W : Wv [] h0 H w σ ρ N c0 c1 c2 c3 c4) {k c : Nat} {P : Int32} (hP : P = nI k) (hk : k < c1) (hc : N (191 + k * 9) = nI c) (c4' : c ≤ 4) (hit : ∀ i, i < c → ∃ s : Nat, s < c0 ∧ N (191 + k * 9 + 1 + 2 * i + 0) = nI s) (hK9 : KI N c0 c1) (hok : (g_take k c 0 N 0).2.1 = true)
    (q : ∀ H', Wv [] h0 H' w σ ρ (g_take k c 0 N 0).1 c0 c1 c2 c3 c4 → Q (some (.int (g_take k c 0 N 0).2.2.1)) H') : CX7_takeItems l [.ref w, .int P] H Q X := by
  subst hP
  have k0 := W.1.1.2
  have k1 := W.1.2.1.2
  have k4 : k < 4 := by omega
  refine eX7_takeItems hst (Nat.le_of_ble_eq_true rfl) (fun K hK => ?_)
  refine gKits W.k ?_
  refine aKit W.k rfl k4 ?_
  have hk : ∀ (n i : Nat) (M : Nat → Int32) (o : Int32) (H' : Hp), i + n = c → Wv [] h0 H' w σ ρ M c0 c1 c2 c3 c4 → KI M c0 c1 → (∀ j, 191 ≤ j → M j = N j) → g_take k n i M o = g_take k c 0 N 0 → ∀ L, (L = [(4, .int (nI i)), (3, .int o), (2, .ref (w + 56 + 3 * k)), (0, .ref w), (1, .int (nI k))] ∨ ∃ a b, L = [(4, .int (nI i)), (3, .int o), (6, a), (5, b), (2, .ref (w + 56 + 3 * k)), (0, .ref w), (1, .int (nI k))]) → K 12 L [] H' (0, 0) := by
    intro n
    induction n with
    | zero =>
      intro i M o H' hi W' hK' hM hr L hL
      have ec : M (191 + k * 9) = nI c := by rw [hM _ (by omega)]; exact hc
      have hr1 : (M, true, o, 0, 0) = g_take k c 0 N 0 := hr
      rw [← hr1] at q
      rcases hL with hL | ⟨a, b, hL⟩ <;> subst hL
      all_goals
        refine hK _ _ _ _ ?_
        refine iKitC W' hk ?_
        rw [ec]
        refine And.intro (fun hcc => ?_) (fun hcc => ?_)
        · repeat (refine And.intro (by first | assumption | rfl | exact Nat.le_of_ble_eq_true rfl | exact Nat.zero_le _ | decide) ?_)
          exact q H' W'
        · exact absurd (nI_le (by omega) (by omega)) hcc
    | succ n ih =>
      intro i M o H' hi W' hK' hM hr L hL
      have ec : M (191 + k * 9) = nI c := by rw [hM _ (by omega)]; exact hc
      obtain ⟨p, p1, p2'⟩ := hit i (by omega)
      have p2 : M (191 + k * 9 + 1 + 2 * i + 0) = nI p := by rw [hM _ (by omega)]; exact p2'
      obtain ⟨q1, q9⟩ := hK'.2.2.2 k c i hk ec c4' (by omega)
      rw [g_take_s k n i M o p2 (by omega)] at hr
      obtain ⟨av1, av2⟩ := hK'.av W'.1 p1 q1
      have hK2 := hK'.serve W'.1 p1 q1
      have hn : ¬ s_av M p (M (7 + p * 23 + 8)).toNatClampNeg < M (191 + k * 9 + 1 + 2 * i + 1) := fun z => by
        rw [if_pos z] at hr
        rw [← hr] at hok
        exact Bool.noConfusion (show false = true from hok)
      rw [if_neg hn] at hr
      have e0 := av2 hn
      have ev : M (191 + k * 9 + 1 + 2 * i + 1) - (r_serve M p (M (191 + k * 9 + 1 + 2 * i + 1))).1 = M (191 + k * 9 + 1 + 2 * i + 1) := by rw [e0, Int32.sub_zero]
      rcases hL with hL | ⟨a, b, hL⟩ <;> subst hL
      all_goals
        refine hK _ _ _ _ ?_
        refine iKitC W' hk ?_
        rw [ec]
        refine And.intro (fun hcc => ?_) (fun hcc => ?_)
        · exact absurd hcc (nI_ge (by omega) (by omega))
        · refine gParts W'.k ?_
          refine gKP W'.k k4 ?_
          refine iKP W' hk ec c4' (show i < c by omega) rfl ?_
          rw [p2]
          refine aPart W'.k rfl (show p < 8 by omega) ?_
          refine iPart W' p1 (k := 0) (by decide) ?_
          refine gKP W'.k k4 ?_
          refine iKP W' hk ec c4' (show i < c by omega) rfl ?_
          rw [p2]
          refine gKQ W'.k k4 ?_
          refine iKQ W' hk ec c4' (show i < c by omega) rfl ?_
          (repeat (refine And.intro (by first | assumption | rfl | exact Nat.le_of_ble_eq_true rfl | exact Nat.zero_le _ | decide) ?_)); refine And.intro (W'.k.s_w) ?_; (repeat (refine And.intro (by first | assumption | rfl | exact Nat.le_of_ble_eq_true rfl | exact Nat.zero_le _ | decide) ?_))
          refine d_serve hst W' p1 rfl (fun H1 W1 => ?_)
          have eo : ∀ j, 191 ≤ j → (r_serve M p (M (191 + k * 9 + 1 + 2 * i + 1))).2 j = M j := fun j hj => r_serve_o W'.1 p1 hj
          rw [ev]
          have fin : ∀ x : Int32, x = M (191 + k * 9 + 1 + 2 * i + 1) - lss (M (191 + k * 9 + 1 + 2 * i + 1)) (M (7 + p * 23 + 0)) → fX7_takeItems_75 l Q X K [(6, .int (M (191 + k * 9 + 1 + 2 * i + 1))), (5, .int (M (7 + p * 23 + 0))), (4, .int (nI i)), (3, .int o), (2, .ref (w + 56 + 3 * k)), (0, .ref w), (1, .int (nI k))] [.int x, .int o] H1 (0, 0) := fun x hx => by
            subst hx
            have go := ih (i + 1) _ _ H1 (by omega) W1 hK2 (fun j hj => by rw [eo j hj]; exact hM j hj) hr _ (Or.inr ⟨.int (M (191 + k * 9 + 1 + 2 * i + 1)), .int (M (7 + p * 23 + 0)), rfl⟩)
            rw [← nI_1 i] at go
            exact go
          refine And.intro (fun hz => ?_) (fun hz => ?_)
          · refine fin 0 ?_
            unfold lss
            by_cases z : M (191 + k * 9 + 1 + 2 * i + 1) < M (7 + p * 23 + 0)
            · rw [if_pos z, Int32.sub_self]
            · rw [if_neg z, Int32.le_antisymm hz (Int32.not_lt.mp z), Int32.sub_self]
          · refine fin _ ?_
            unfold lss
            rw [if_neg (fun z => hz (Int32.le_of_lt z))]
  exact hk c 0 N 0 H (by omega) W hK9 (fun _ _ => rfl) rfl _ (Or.inl rfl)
end E3

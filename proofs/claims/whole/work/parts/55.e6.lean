section E6
/-- an item more in kit k -/
def r_addi (N : Nat → Int32) (k c : Nat) (P v : Int32) : Nat → Int32 := upd (upd (upd N (191 + k * 9 + 1 + 2 * c + 0) P) (191 + k * 9 + 1 + 2 * c + 1) v) (191 + k * 9) (nI c + 1)
/-- a kit more, without items -/
def r_newk (N : Nat → Int32) (k : Nat) : Nat → Int32 := upd (upd N (191 + k * 9) 0) 1 (nI k + 1)
theorem addi_o {N : Nat → Int32} {k c j : Nat} {P v : Int32} (h1 : j ≠ 191 + k * 9) (h2 : j ≠ 191 + k * 9 + 1 + 2 * c + 0) (h3 : j ≠ 191 + k * 9 + 1 + 2 * c + 1) : r_addi N k c P v j = N j := by
  unfold r_addi
  rw [pk_un h1, pk_un h3, pk_un h2]
theorem newk_o {N : Nat → Int32} {k j : Nat} (h1 : j ≠ 191 + k * 9) (h2 : j ≠ 1) : r_newk N k j = N j := by
  unfold r_newk
  rw [pk_un h2, pk_un h1]
theorem WFc.addi {N : Nat → Int32} {c0 c1 c2 c3 c4 k c s : Nat} {v : Int32} (h : WFc N c0 c1 c2 c3 c4) (hk9 : k < c1) (hc : N (191 + k * 9) = nI c) (c4' : c < 4) (hs : s < c0) : WFc (r_addi N k c (nI s) v) c0 c1 c2 c3 c4 := by
  obtain ⟨⟨h0, k0⟩, ⟨h1, k1⟩, ⟨h2, k2⟩, ⟨h3, k3⟩, ⟨h4, k4⟩, hp9, hk, hw, hr, ho⟩ := h
  refine ⟨⟨by rw [addi_o (by omega) (by omega) (by omega)]; exact h0, k0⟩, ⟨by rw [addi_o (by omega) (by omega) (by omega)]; exact h1, k1⟩, ⟨by rw [addi_o (by omega) (by omega) (by omega)]; exact h2, k2⟩, ⟨by rw [addi_o (by omega) (by omega) (by omega)]; exact h3, k3⟩, ⟨by rw [addi_o (by omega) (by omega) (by omega)]; exact h4, k4⟩, fun q hq => ?_, fun q hq => ?_, fun i hi => ?_, fun i hi => ?_, fun i hi => ?_⟩
  · obtain ⟨c', y1, y2, y3⟩ := hp9 q hq
    refine ⟨c', y1, by rw [addi_o (by omega) (by omega) (by omega)]; exact y2, fun k hk => ?_⟩
    obtain ⟨t, z1, z2⟩ := y3 k hk
    exact ⟨t, z1, by rw [addi_o (by omega) (by omega) (by omega)]; exact z2⟩
  · by_cases z : q = k
    · subst z
      refine ⟨c + 1, by omega, by unfold r_addi; rw [pk_us]; exact nI_1 c, fun i hi => ?_⟩
      by_cases y : i = c
      · subst y
        refine ⟨s, hs, ?_⟩
        unfold r_addi
        rw [pk_un (by omega), pk_un (by omega), pk_us]
      · obtain ⟨c', y1, y2, y3⟩ := hk q hq
        have ec : c' = c := (nI_eq (by omega) (by omega)).mp (y2.symm.trans hc)
        subst ec
        obtain ⟨t, z1, z2⟩ := y3 i (by omega)
        exact ⟨t, z1, by rw [addi_o (by omega) (by omega) (by omega)]; exact z2⟩
    · obtain ⟨c', y1, y2, y3⟩ := hk q hq
      refine ⟨c', y1, by rw [addi_o (by omega) (by omega) (by omega)]; exact y2, fun i hi => ?_⟩
      obtain ⟨t, z1, z2⟩ := y3 i hi
      exact ⟨t, z1, by rw [addi_o (by omega) (by omega) (by omega)]; exact z2⟩
  · obtain ⟨t, z1, z2⟩ := hw i hi
    exact ⟨t, z1, by rw [addi_o (by omega) (by omega) (by omega)]; exact z2⟩
  · obtain ⟨t, z1, z2⟩ := hr i hi
    exact ⟨t, z1, by rw [addi_o (by omega) (by omega) (by omega)]; exact z2⟩
  · obtain ⟨t, z1, z2⟩ := ho i hi
    exact ⟨t, z1, by rw [addi_o (by omega) (by omega) (by omega)]; exact z2⟩
theorem WFc.newk {N : Nat → Int32} {c0 c1 c2 c3 c4 : Nat} (h : WFc N c0 c1 c2 c3 c4) (hc : c1 < 4) : WFc (r_newk N c1) c0 (c1 + 1) c2 c3 c4 := by
  obtain ⟨⟨h0, k0⟩, ⟨h1, k1⟩, ⟨h2, k2⟩, ⟨h3, k3⟩, ⟨h4, k4⟩, hp9, hk, hw, hr, ho⟩ := h
  refine ⟨⟨by rw [newk_o (by omega) (by omega)]; exact h0, k0⟩, ⟨by unfold r_newk; rw [pk_us]; exact nI_1 c1, hc⟩, ⟨by rw [newk_o (by omega) (by omega)]; exact h2, k2⟩, ⟨by rw [newk_o (by omega) (by omega)]; exact h3, k3⟩, ⟨by rw [newk_o (by omega) (by omega)]; exact h4, k4⟩, fun q hq => ?_, fun q hq => ?_, fun i hi => ?_, fun i hi => ?_, fun i hi => ?_⟩
  · obtain ⟨c', y1, y2, y3⟩ := hp9 q hq
    refine ⟨c', y1, by rw [newk_o (by omega) (by omega)]; exact y2, fun k hk => ?_⟩
    obtain ⟨t, z1, z2⟩ := y3 k hk
    exact ⟨t, z1, by rw [newk_o (by omega) (by omega)]; exact z2⟩
  · by_cases z : q = c1
    · subst z
      exact ⟨0, by decide, by unfold r_newk; rw [pk_un (by omega), pk_us]; rfl, fun i hi => absurd hi (Nat.not_lt_zero i)⟩
    · obtain ⟨c', y1, y2, y3⟩ := hk q (by omega)
      refine ⟨c', y1, by rw [newk_o (by omega) (by omega)]; exact y2, fun i hi => ?_⟩
      obtain ⟨t, z1, z2⟩ := y3 i hi
      exact ⟨t, z1, by rw [newk_o (by omega) (by omega)]; exact z2⟩
  · obtain ⟨t, z1, z2⟩ := hw i hi
    exact ⟨t, z1, by rw [newk_o (by omega) (by omega)]; exact z2⟩
  · obtain ⟨t, z1, z2⟩ := hr i hi
    exact ⟨t, z1, by rw [newk_o (by omega) (by omega)]; exact z2⟩
  · obtain ⟨t, z1, z2⟩ := ho i hi
    exact ⟨t, z1, by rw [newk_o (by omega) (by omega)]; exact z2⟩
theorem vld.kits {N N' : Nat → Int32} {c0 c1 c2 c3 c4 k c j : Nat} (k0 : c0 ≤ 8) (k1 : c1 ≤ 4) (hp : k < c1) (lo : ∀ i, (7 ≤ i ∧ i < 191 + k * 9 ∨ 191 + k * 9 + 9 ≤ i) → N' i = N i) (hc : N' (191 + k * 9) = nI c) (c4' : c ≤ 4) (hv : vld N' c0 c1 c2 c3 c4 j) : (vld N c0 c1 c2 c3 c4 j ∧ (j < 191 + k * 9 + 1 ∨ 191 + k * 9 + 9 ≤ j)) ∨ ∃ i z, i < c ∧ z < 2 ∧ j = 191 + k * 9 + 1 + 2 * i + z := by
  rcases hv with h | ⟨h1, h2, h3⟩ | ⟨h1, h2, h3⟩ | h
  · exact Or.inl ⟨Or.inl h, by omega⟩
  · refine Or.inl ⟨Or.inr (Or.inl ⟨h1, h2, ?_⟩), by omega⟩
    rcases h3 with h | h | h
    · exact Or.inl h
    · exact Or.inr (Or.inl h)
    · rw [lo _ (by omega)] at h
      exact Or.inr (Or.inr h)
  · by_cases g : 191 + k * 9 + 1 ≤ j ∧ j < 191 + k * 9 + 9
    · refine Or.inr ⟨(j - (191 + k * 9 + 1)) / 2, (j - (191 + k * 9 + 1)) % 2, ?_, by omega, by omega⟩
      rcases h3 with h | h
      · omega
      · rw [show j - (j - 191) % 9 = 191 + k * 9 by omega, hc, nI_clamp (by omega)] at h
        omega
    · refine Or.inl ⟨Or.inr (Or.inr (Or.inl ⟨h1, h2, ?_⟩)), by omega⟩
      rcases h3 with h | h
      · exact Or.inl h
      · by_cases y : j - (j - 191) % 9 = 191 + k * 9
        · omega
        · rw [lo _ (by omega)] at h
          exact Or.inr h
  · exact Or.inl ⟨Or.inr (Or.inr (Or.inr h)), by omega⟩
theorem d_canHold {l : Launch} (hst : l.stackTraces = false) {Q : Option Value → Hp → Prop} {X : String → Hp → Prop} {h0 H : Hp} {w : Nat} {σ ρ : Nat → Nat} {N : Nat → Int32} {c0 c1 c2 c3 c4 : Nat} (W : Wv [] h0 H w σ ρ N c0 c1 c2 c3 c4) {k c : Nat} (hk9 : k < c1) (hc : N (191 + k * 9) = nI c) (c4' : c ≤ 4) {P : Int32} (q : Q (some (.int (b2 (!(s_has N k P c) && decide (c < 4))))) H) : CX2_canHold l [.ref (w + 56 + 3 * k), .int P] H Q X := by
  have k1 := W.1.2.1.2
  have kk : k < 4 := by omega
  refine eX2_canHold hst (Nat.le_of_ble_eq_true rfl) (fun K hK => ?_)
  have hmono : ∀ n i, i + n = c → s_has N k P i = true → s_has N k P c = true := by
    intro n
    induction n with
    | zero => intro i hi h; rw [show c = i by omega]; exact h
    | succ n ih => intro i hi h; exact ih (i + 1) (by omega) (by show (s_has N k P i || _) = true; rw [h]; rfl)
  have hk : ∀ (n i : Nat), i + n = c → s_has N k P i = false → K 2 [(2, .int (nI i)), (0, .ref (w + 56 + 3 * k)), (1, .int P)] [] H (0, 0) := by
    intro n
    induction n with
    | zero =>
      intro i hi hno
      refine hK _ _ _ _ ?_
      refine iKitC W hk9 ?_
      rw [hc]
      refine And.intro (fun hcc => ?_) (fun hcc => ?_)
      · refine iKitC W hk9 ?_
        rw [hc]
        rw [show c = i by omega, hno] at q
        refine And.intro (fun hd => ?_) (fun hd => ?_)
        · repeat (refine And.intro (by first | assumption | rfl | exact Nat.le_of_ble_eq_true rfl | exact Nat.zero_le _ | decide) ?_)
          rw [decide_eq_false (fun z : i < 4 => absurd (show nI 4 ≤ nI c from hd) (nI_ge (by omega) (by decide)))] at q
          exact q
        · repeat (refine And.intro (by first | assumption | rfl | exact Nat.le_of_ble_eq_true rfl | exact Nat.zero_le _ | decide) ?_)
          rw [decide_eq_true (show i < 4 from Classical.byContradiction fun z => hd (show nI 4 ≤ nI c from nI_le (by omega) (by omega)))] at q
          exact q
      · exact absurd (nI_le (by omega) (by omega)) hcc
    | succ n ih =>
      intro i hi hno
      refine hK _ _ _ _ ?_
      refine iKitC W hk9 ?_
      rw [hc]
      refine And.intro (fun hcc => ?_) (fun hcc => ?_)
      · exact absurd hcc (nI_ge (by omega) (by omega))
      · refine gKP W.k kk ?_
        refine iKP W hk9 hc c4' (show i < c by omega) rfl ?_
        refine And.intro (fun heq => ?_) (fun heq => ?_)
        · have := ih (i + 1) (by omega) (by
            show (s_has N k P i || decide (_ = P)) = false
            rw [hno, decide_eq_false heq]; rfl)
          rw [← nI_1 i] at this
          exact this
        · repeat (refine And.intro (by first | assumption | rfl | exact Nat.le_of_ble_eq_true rfl | exact Nat.zero_le _ | decide) ?_)
          have hyes : s_has N k P c = true := hmono n (i + 1) (by omega) (by
            show (s_has N k P i || decide (_ = P)) = true
            rw [hno, decide_eq_true heq]; rfl)
          rw [hyes] at q
          exact q
  exact hk c 0 (by omega) rfl
theorem d_kitAdd {l : Launch} (hst : l.stackTraces = false) {Q : Option Value → Hp → Prop} {X : String → Hp → Prop} {h0 H : Hp} {w : Nat} {σ ρ : Nat → Nat} {N : Nat → Int32} {c0 c1 c2 c3 c4 : Nat} (W : Wv [] h0 H w σ ρ N c0 c1 c2 c3 c4) {k c s : Nat} (hk9 : k < c1) (hc : N (191 + k * 9) = nI c) (c4' : c < 4) (hs : s < c0) {P v : Int32} (hP : P = nI s) (q : ∀ H', Wv [] h0 H' w σ ρ (r_addi N k c (nI s) v) c0 c1 c2 c3 c4 → Q none H') : CX2_addLast l [.ref (w + 56 + 3 * k), .int P, .int v] H Q X := by
  subst hP
  have k0 := W.1.1.2
  have k1 := W.1.2.1.2
  have kk : k < 4 := by omega
  have W0 : Wk h0 H w σ ρ N (vld N c0 c1 c2 c3 c4) := W.k
  refine eX2_addLast hst (Nat.le_of_ble_eq_true rfl) (fun K => ?_)
  refine iKitC W hk9 ?_
  rw [hc]
  refine And.intro (fun hcc => ?_) (fun hcc => ?_)
  · exact absurd (show nI 4 ≤ nI c from hcc) (nI_ge c4' (by decide))
  · refine gKP W.k kk ?_
    refine iKitC W hk9 ?_
    rw [hc]
    refine xKP W0 kk (k := c) (by omega) rfl (fun H1 W1 => ?_)
    refine gKQ W1 kk ?_
    refine gI_of (x := nI c) (W1.s_kit k kk).2.1 ((W1.ld (j := 191 + k * 9) (by omega) (loc_k0 w ρ k kk) (Or.inl (v_kit hk9))).trans ((pk_un (by omega)).trans hc)) ?_
    refine xKQ W1 kk (k := c) (by omega) rfl (fun H2 W2 => ?_)
    refine gI_of (x := nI c) (W2.s_kit k kk).2.1 ((W2.ld (j := 191 + k * 9) (by omega) (loc_k0 w ρ k kk) (Or.inl (Or.inl (v_kit hk9)))).trans ((pk_un (by omega)).trans ((pk_un (by omega)).trans hc))) ?_
    refine xKitC W2 kk (fun H3 W3 => ?_)
    repeat (refine And.intro (by first | assumption | rfl | exact Nat.le_of_ble_eq_true rfl | exact Nat.zero_le _ | decide) ?_)
    refine q H3 ⟨W.1.addi hk9 hc c4' hs, W3.mono (fun j hj hv => ?_), fun q hq => absurd hq List.not_mem_nil⟩
    rcases hv.kits (N := N) (c := c + 1) k0 k1 hk9 (fun i hi => addi_o (by omega) (by omega) (by omega)) (by unfold r_addi; rw [pk_us]; exact nI_1 c) (by omega) with ⟨h, _⟩ | ⟨i, z, hi, hz, e⟩
    · exact Or.inl (Or.inl (Or.inl h))
    · by_cases y : i = c
      · subst y
        by_cases x : z = 0
        · subst x; exact Or.inl (Or.inl (Or.inr e))
        · exact Or.inl (Or.inr (by omega))
      · rw [e]; exact Or.inl (Or.inl (Or.inl (v_item hk9 hc (by omega) (by omega) hz)))
theorem addi_at {N : Nat → Int32} {k c : Nat} {P v : Int32} : r_addi N k c P v (191 + k * 9) = nI (c + 1) := by
  unfold r_addi
  rw [pk_us]; exact nI_1 c
theorem d_addItemOld {l : Launch} (hst : l.stackTraces = false) {Q : Option Value → Hp → Prop} {X : String → Hp → Prop} {h0 H : Hp} {w : Nat} {σ ρ : Nat → Nat} {N : Nat → Int32} {c0 c1 c2 c3 c4 : Nat} (W : Wv [] h0 H w σ ρ N c0 c1 c2 c3 c4) {k c s : Nat} (hk9 : k < c1) (hc : N (191 + k * 9) = nI c) (c4' : c < 4) (hs : s < c0) {K9 P v : Int32} (hK9 : K9 = nI k) (hP : P = nI s) (q : ∀ H', Wv [] h0 H' w σ ρ (r_addi N k c (nI s) v) c0 c1 c2 c3 c4 → Q (some (.int (nI (c + 1)))) H') : CX7_addItem l [.ref w, .int K9, .int P, .int v] H Q X := by
  subst hK9
  have k1 := W.1.2.1.2
  have kk : k < 4 := by omega
  refine eX7_addItem hst (Nat.le_of_ble_eq_true rfl) (fun K => ?_)
  refine iKC W ?_
  rw [W.1.2.1.1]
  refine And.intro (fun hne => ?_) (fun hne => ?_)
  · refine gKits W.k ?_
    refine aKit W.k rfl kk ?_
    (repeat (refine And.intro (by first | assumption | rfl | exact Nat.le_of_ble_eq_true rfl | exact Nat.zero_le _ | decide) ?_)); refine And.intro ((W.k.s_kit k kk).2.1) ?_; (repeat (refine And.intro (by first | assumption | rfl | exact Nat.le_of_ble_eq_true rfl | exact Nat.zero_le _ | decide) ?_))
    refine d_kitAdd hst W hk9 hc c4' hs hP (fun H1 W1 => ?_)
    refine gKits W1.k ?_
    refine aKit W1.k rfl kk ?_
    refine iKitC W1 hk9 ?_
    rw [addi_at]
    repeat (refine And.intro (by first | assumption | rfl | exact Nat.le_of_ble_eq_true rfl | exact Nat.zero_le _ | decide) ?_)
    exact q H1 W1
  · exact absurd ((nI_eq (by omega) (by omega)).mp hne) (by omega)
theorem d_addItemNew {l : Launch} (hst : l.stackTraces = false) {Q : Option Value → Hp → Prop} {X : String → Hp → Prop} {h0 H : Hp} {w : Nat} {σ ρ : Nat → Nat} {N : Nat → Int32} {c0 c1 c2 c3 c4 : Nat} (W : Wv [] h0 H w σ ρ N c0 c1 c2 c3 c4) {s : Nat} (hc1 : c1 < 4) (hs : s < c0) {K9 P v : Int32} (hK9 : K9 = nI c1) (hP : P = nI s) (q : ∀ H', Wv [] h0 H' w σ ρ (r_addi (r_newk N c1) c1 0 (nI s) v) c0 (c1 + 1) c2 c3 c4 → Q (some (.int (nI (0 + 1)))) H') : CX7_addItem l [.ref w, .int K9, .int P, .int v] H Q X := by
  subst hK9
  have k0 := W.1.1.2
  have W0 : Wk h0 H w σ ρ N (vld N c0 c1 c2 c3 c4) := W.k
  refine eX7_addItem hst (Nat.le_of_ble_eq_true rfl) (fun K => ?_)
  refine iKC W ?_
  rw [W.1.2.1.1]
  refine And.intro (fun hne => ?_) (fun hne => ?_)
  · exact absurd rfl hne
  · refine gKits W.k ?_
    refine aKit W.k rfl hc1 ?_
    refine xKitC W0 hc1 (fun H1 W1 => ?_)
    refine iKCk W1 (Or.inl (Or.inl (by decide))) ?_
    rw [pk_un (show (1 : Nat) ≠ 191 + c1 * 9 by omega), W.1.2.1.1]
    refine xKC W1 (fun H2 W2 => ?_)
    have V2 : Wv [] h0 H2 w σ ρ (r_newk N c1) c0 (c1 + 1) c2 c3 c4 := by
      refine ⟨W.1.newk hc1, W2.mono (fun j hj hv => ?_), fun q hq => absurd hq List.not_mem_nil⟩
      rcases hv.kits (N := N) (c := 0) k0 hc1 (Nat.lt_succ_self c1) (fun i hi => newk_o (by omega) (by omega)) (by unfold r_newk; rw [pk_un (by omega), pk_us]; rfl) (by decide) with ⟨h, h9⟩ | ⟨i, z, hi, _⟩
      · rcases h with h | h | ⟨h1, h2, h3⟩ | h
        · by_cases y : j = 1
          · exact Or.inr y
          · exact Or.inl (Or.inl (Or.inl h))
        · exact Or.inl (Or.inl (Or.inr (Or.inl h)))
        · by_cases y : j = 191 + c1 * 9
          · exact Or.inl (Or.inr y)
          · exact Or.inl (Or.inl (Or.inr (Or.inr (Or.inl ⟨h1, by omega, h3⟩))))
        · exact Or.inl (Or.inl (Or.inr (Or.inr (Or.inr h))))
      · exact absurd hi (Nat.not_lt_zero i)
    have ez : r_newk N c1 (191 + c1 * 9) = nI 0 := by unfold r_newk; rw [pk_un (by omega), pk_us]; rfl
    refine gKits V2.k ?_
    refine aKit V2.k rfl hc1 ?_
    (repeat (refine And.intro (by first | assumption | rfl | exact Nat.le_of_ble_eq_true rfl | exact Nat.zero_le _ | decide) ?_)); refine And.intro ((V2.k.s_kit c1 hc1).2.1) ?_; (repeat (refine And.intro (by first | assumption | rfl | exact Nat.le_of_ble_eq_true rfl | exact Nat.zero_le _ | decide) ?_))
    refine d_kitAdd hst V2 (Nat.lt_succ_self c1) ez (by decide) hs hP (fun H3 W3 => ?_)
    refine gKits W3.k ?_
    refine aKit W3.k rfl hc1 ?_
    refine iKitC W3 (Nat.lt_succ_self c1) ?_
    rw [addi_at]
    repeat (refine And.intro (by first | assumption | rfl | exact Nat.le_of_ble_eq_true rfl | exact Nat.zero_le _ | decide) ?_)
    exact q H3 W3
/-- whether a part's movements add up, x of it in repair -/
def s_up (N : Nat → Int32) (p : Nat) (x : Int32) : Bool := decide (N (7 + p * 23 + (13 + 0)) + N (7 + p * 23 + (13 + 1)) + N (7 + p * 23 + (13 + 2)) + N (7 + p * 23 + (13 + 5)) - N (7 + p * 23 + (13 + 7)) = N (7 + p * 23 + 0)) && (decide (N (7 + p * 23 + (13 + 3)) - N (7 + p * 23 + (13 + 4)) = N (7 + p * 23 + 1)) && decide (N (7 + p * 23 + (13 + 4)) - N (7 + p * 23 + (13 + 5)) - N (7 + p * 23 + (13 + 6)) = x))
theorem d_addsUp {l : Launch} (hst : l.stackTraces = false) {Q : Option Value → Hp → Prop} {X : String → Hp → Prop} {h0 H : Hp} {w : Nat} {σ ρ : Nat → Nat} {N : Nat → Int32} {c0 c1 c2 c3 c4 : Nat} (W : Wv [] h0 H w σ ρ N c0 c1 c2 c3 c4) {p : Nat} (hp : p < c0) {x : Int32} (q : Q (some (.int (b2 (s_up N p x)))) H) : CX3_addsUp l [.ref (w + 32 + 3 * p), .int x] H Q X := by
  have p8 := W.p8 hp
  unfold s_up at q
  refine eX3_addsUp hst (Nat.le_of_ble_eq_true rfl) (fun K => ?_)
  refine gMovs W.k p8 ?_
  refine iMov W hp (k := 0) (by decide) rfl ?_
  refine gMovs W.k p8 ?_
  refine iMov W hp (k := 1) (by decide) rfl ?_
  refine gMovs W.k p8 ?_
  refine iMov W hp (k := 2) (by decide) rfl ?_
  refine gMovs W.k p8 ?_
  refine iMov W hp (k := 5) (by decide) rfl ?_
  refine gMovs W.k p8 ?_
  refine iMov W hp (k := 4) (by decide) rfl ?_
  refine gMovs W.k p8 ?_
  refine iMov W hp (k := 5) (by decide) rfl ?_
  refine gMovs W.k p8 ?_
  refine iMov W hp (k := 6) (by decide) rfl ?_
  refine gMovs W.k p8 ?_
  refine iMov W hp (k := 7) (by decide) rfl ?_
  refine iPart W hp (k := 0) (by decide) ?_
  refine And.intro (fun h1 => ?_) (fun h1 => ?_)
  · repeat (refine And.intro (by first | assumption | rfl | exact Nat.le_of_ble_eq_true rfl | exact Nat.zero_le _ | decide) ?_)
    rw [decide_eq_false h1] at q
    exact q
  · rw [decide_eq_true h1, Bool.true_and] at q
    refine gMovs W.k p8 ?_
    refine iMov W hp (k := 3) (by decide) rfl ?_
    refine gMovs W.k p8 ?_
    refine iMov W hp (k := 4) (by decide) rfl ?_
    refine iPart W hp (k := 1) (by decide) ?_
    refine And.intro (fun h2 => ?_) (fun h2 => ?_)
    · repeat (refine And.intro (by first | assumption | rfl | exact Nat.le_of_ble_eq_true rfl | exact Nat.zero_le _ | decide) ?_)
      rw [decide_eq_false h2] at q
      exact q
    · rw [decide_eq_true h2, Bool.true_and] at q
      refine And.intro (fun h3 => ?_) (fun h3 => ?_)
      · repeat (refine And.intro (by first | assumption | rfl | exact Nat.le_of_ble_eq_true rfl | exact Nat.zero_le _ | decide) ?_)
        rw [decide_eq_false h3] at q
        exact q
      · repeat (refine And.intro (by first | assumption | rfl | exact Nat.le_of_ble_eq_true rfl | exact Nat.zero_le _ | decide) ?_)
        rw [decide_eq_true h3] at q
        exact q
end E6

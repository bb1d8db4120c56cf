section E5
/-- a substitute more -/
def r_adds (N : Nat → Int32) (p c : Nat) (o : Int32) : Nat → Int32 := upd (upd N (7 + p * 23 + (9 + c)) o) (7 + p * 23 + 8) (nI c + 1)
theorem WFc.adds {N : Nat → Int32} {c0 c1 c2 c3 c4 p c s : Nat} (h : WFc N c0 c1 c2 c3 c4) (hp : p < c0) (hc : N (7 + p * 23 + 8) = nI c) (c4' : c < 4) (hs : s < c0) : WFc (r_adds N p c (nI s)) c0 c1 c2 c3 c4 := by
  have k8 := h.1.2
  have lo : ∀ j, j ≠ 7 + p * 23 + (9 + c) → j ≠ 7 + p * 23 + 8 → r_adds N p c (nI s) j = N j := fun j h1 h2 => by
    unfold r_adds
    rw [pk_un h2, pk_un h1]
  obtain ⟨⟨h0, k0⟩, ⟨h1, k1⟩, ⟨h2, k2⟩, ⟨h3, k3⟩, ⟨h4, k4⟩, hp9, hk, hw, hr, ho⟩ := h
  refine ⟨⟨by rw [lo _ (by omega) (by omega)]; exact h0, k0⟩, ⟨by rw [lo _ (by omega) (by omega)]; exact h1, k1⟩, ⟨by rw [lo _ (by omega) (by omega)]; exact h2, k2⟩, ⟨by rw [lo _ (by omega) (by omega)]; exact h3, k3⟩, ⟨by rw [lo _ (by omega) (by omega)]; exact h4, k4⟩, fun q hq => ?_, fun k hk' => ?_, fun i hi => ?_, fun i hi => ?_, fun i hi => ?_⟩
  · by_cases z : q = p
    · subst z
      refine ⟨c + 1, by omega, by unfold r_adds; rw [pk_us]; exact nI_1 c, fun k hk => ?_⟩
      by_cases y : k = c
      · subst y
        refine ⟨s, hs, ?_⟩
        unfold r_adds
        rw [pk_un (by omega), pk_us]
      · obtain ⟨c', y1, y2, y3⟩ := hp9 q hq
        have ec : c' = c := (nI_eq (by omega) (by omega)).mp (y2.symm.trans hc)
        subst ec
        obtain ⟨t, z1, z2⟩ := y3 k (by omega)
        exact ⟨t, z1, by rw [lo _ (by omega) (by omega)]; exact z2⟩
    · obtain ⟨c', y1, y2, y3⟩ := hp9 q hq
      refine ⟨c', y1, by rw [lo _ (by omega) (by omega)]; exact y2, fun k hk => ?_⟩
      obtain ⟨t, z1, z2⟩ := y3 k hk
      exact ⟨t, z1, by rw [lo _ (by omega) (by omega)]; exact z2⟩
  · obtain ⟨c', y1, y2, y3⟩ := hk k hk'
    refine ⟨c', y1, by rw [lo _ (by omega) (by omega)]; exact y2, fun k hk => ?_⟩
    obtain ⟨t, z1, z2⟩ := y3 k hk
    exact ⟨t, z1, by rw [lo _ (by omega) (by omega)]; exact z2⟩
  · obtain ⟨t, z1, z2⟩ := hw i hi
    exact ⟨t, z1, by rw [lo _ (by omega) (by omega)]; exact z2⟩
  · obtain ⟨t, z1, z2⟩ := hr i hi
    exact ⟨t, z1, by rw [lo _ (by omega) (by omega)]; exact z2⟩
  · obtain ⟨t, z1, z2⟩ := ho i hi
    exact ⟨t, z1, by rw [lo _ (by omega) (by omega)]; exact z2⟩
/-- what is kept of a row whose substitutes of one part have changed -/
theorem vld.subs {N N' : Nat → Int32} {c0 c1 c2 c3 c4 p c j : Nat} (k0 : c0 ≤ 8) (k1 : c1 ≤ 4) (hp : p < c0) (lo : ∀ i, (i < 7 + p * 23 + 8 ∨ 7 + p * 23 + 13 ≤ i) → N' i = N i) (hc : N' (7 + p * 23 + 8) = nI c) (c4' : c ≤ 4) (hv : vld N' c0 c1 c2 c3 c4 j) : (vld N c0 c1 c2 c3 c4 j ∧ (j < 7 + p * 23 + 9 ∨ 7 + p * 23 + 13 ≤ j)) ∨ ∃ k, k < c ∧ j = 7 + p * 23 + (9 + k) := by
  rcases hv with h | ⟨h1, h2, h3⟩ | ⟨h1, h2, h3⟩ | h
  · exact Or.inl ⟨Or.inl h, by omega⟩
  · by_cases g : 7 + p * 23 + 9 ≤ j ∧ j < 7 + p * 23 + 13
    · refine Or.inr ⟨j - (7 + p * 23 + 9), ?_, by omega⟩
      rcases h3 with h | h | h
      · omega
      · omega
      · rw [show j - (j - 7) % 23 + 8 = 7 + p * 23 + 8 by omega, hc, nI_clamp (by omega)] at h
        omega
    · refine Or.inl ⟨Or.inr (Or.inl ⟨h1, h2, ?_⟩), by omega⟩
      rcases h3 with h | h | h
      · exact Or.inl h
      · exact Or.inr (Or.inl h)
      · by_cases y : j - (j - 7) % 23 + 8 = 7 + p * 23 + 8
        · omega
        · rw [lo _ (by omega)] at h
          exact Or.inr (Or.inr h)
  · refine Or.inl ⟨Or.inr (Or.inr (Or.inl ⟨h1, h2, ?_⟩)), by omega⟩
    rcases h3 with h | h
    · exact Or.inl h
    · rw [lo _ (by omega)] at h
      exact Or.inr h
  · exact Or.inl ⟨Or.inr (Or.inr (Or.inr h)), by omega⟩
theorem d_addSub {l : Launch} (hst : l.stackTraces = false) {Q : Option Value → Hp → Prop} {X : String → Hp → Prop} {h0 H : Hp} {w : Nat} {σ ρ : Nat → Nat} {N : Nat → Int32} {c0 c1 c2 c3 c4 : Nat} (W : Wv [] h0 H w σ ρ N c0 c1 c2 c3 c4) {p c s : Nat} (hp : p < c0) (hc : N (7 + p * 23 + 8) = nI c) (c4' : c < 4) (hs : s < c0) {P : Int32} (hP : P = nI s) (q : ∀ H', Wv [] h0 H' w σ ρ (r_adds N p c (nI s)) c0 c1 c2 c3 c4 → Q none H') : CX3_addLast l [.ref (w + 32 + 3 * p), .int P] H Q X := by
  subst hP
  have k0 := W.1.1.2
  have k1 := W.1.2.1.2
  have p8 := W.p8 hp
  have W0 : Wk h0 H w σ ρ N (vld N c0 c1 c2 c3 c4) := W.k
  refine eX3_addLast hst (Nat.le_of_ble_eq_true rfl) (fun K => ?_)
  refine iSC W hp ?_
  rw [hc]
  refine And.intro (fun hcc => ?_) (fun hcc => ?_)
  · exact absurd (show nI 4 ≤ nI c from hcc) (nI_ge c4' (by decide))
  · refine gSubs W.k p8 ?_
    refine iSC W hp ?_
    rw [hc]
    refine xSub W0 p8 (k := c) (by omega) rfl (fun H1 W1 => ?_)
    refine iSCk W1 p8 (Or.inl (v_part hp (by omega) (by omega))) ?_
    rw [pk_un (by omega), hc]
    refine xSC W1 p8 (fun H2 W2 => ?_)
    repeat (refine And.intro (by first | assumption | rfl | exact Nat.le_of_ble_eq_true rfl | exact Nat.zero_le _ | decide) ?_)
    refine q H2 ⟨W.1.adds hp hc c4' hs, W2.mono (fun j hj hv => ?_), fun q hq => absurd hq List.not_mem_nil⟩
    rcases hv.subs (N := N) (c := c + 1) k0 k1 hp (fun i hi => by unfold r_adds; rw [pk_un (by omega), pk_un (by omega)]) (by unfold r_adds; rw [pk_us]; exact nI_1 c) (by omega) with ⟨h, _⟩ | ⟨k, hk, e⟩
    · exact Or.inl (Or.inl h)
    · by_cases z : k = c
      · subst z; exact Or.inl (Or.inr e)
      · rw [e]; exact Or.inl (Or.inl (v_sub hp hc (by omega) (by omega)))
/-- the substitute at place i is out; c remain -/
def r_rems (N : Nat → Int32) (p i c : Nat) : Nat → Int32 := fun j => if 7 + p * 23 + (9 + i) ≤ j ∧ j < 7 + p * 23 + (9 + c) then N (j + 1) else if j = 7 + p * 23 + 8 then nI c else N j
theorem rems_o {N : Nat → Int32} {p i c j : Nat} (h : j < 7 + p * 23 + (9 + i) ∨ 7 + p * 23 + (9 + c) ≤ j) (h2 : j ≠ 7 + p * 23 + 8) : r_rems N p i c j = N j := by
  unfold r_rems
  rw [if_neg (by omega), if_neg h2]
theorem WFc.rems {N : Nat → Int32} {c0 c1 c2 c3 c4 p c i : Nat} (h : WFc N c0 c1 c2 c3 c4) (hp : p < c0) (hc : N (7 + p * 23 + 8) = nI (c + 1)) (c4' : c + 1 ≤ 4) (hi : i < c + 1) : WFc (r_rems N p i c) c0 c1 c2 c3 c4 := by
  have k8 := h.1.2
  obtain ⟨⟨h0, k0⟩, ⟨h1, k1⟩, ⟨h2, k2⟩, ⟨h3, k3⟩, ⟨h4, k4⟩, hp9, hk, hw, hr, ho⟩ := h
  refine ⟨⟨by rw [rems_o (by omega) (by omega)]; exact h0, k0⟩, ⟨by rw [rems_o (by omega) (by omega)]; exact h1, k1⟩, ⟨by rw [rems_o (by omega) (by omega)]; exact h2, k2⟩, ⟨by rw [rems_o (by omega) (by omega)]; exact h3, k3⟩, ⟨by rw [rems_o (by omega) (by omega)]; exact h4, k4⟩, fun q hq => ?_, fun k hk' => ?_, fun i hi => ?_, fun i hi => ?_, fun i hi => ?_⟩
  · by_cases z : q = p
    · subst z
      refine ⟨c, by omega, by unfold r_rems; rw [if_neg (by omega), if_pos rfl], fun k hk => ?_⟩
      obtain ⟨c', y1, y2, y3⟩ := hp9 q hq
      have ec : c' = c + 1 := (nI_eq (by omega) (by omega)).mp (y2.symm.trans hc)
      subst ec
      by_cases y : k < i
      · obtain ⟨t, z1, z2⟩ := y3 k (by omega)
        exact ⟨t, z1, by rw [rems_o (by omega) (by omega)]; exact z2⟩
      · obtain ⟨t, z1, z2⟩ := y3 (k + 1) (by omega)
        refine ⟨t, z1, ?_⟩
        unfold r_rems
        rw [if_pos (by omega), show 7 + q * 23 + (9 + k) + 1 = 7 + q * 23 + (9 + (k + 1)) by omega]
        exact z2
    · obtain ⟨c', y1, y2, y3⟩ := hp9 q hq
      refine ⟨c', y1, by rw [rems_o (by omega) (by omega)]; exact y2, fun k hk => ?_⟩
      obtain ⟨t, z1, z2⟩ := y3 k hk
      exact ⟨t, z1, by rw [rems_o (by omega) (by omega)]; exact z2⟩
  · obtain ⟨c', y1, y2, y3⟩ := hk k hk'
    refine ⟨c', y1, by rw [rems_o (by omega) (by omega)]; exact y2, fun k hk => ?_⟩
    obtain ⟨t, z1, z2⟩ := y3 k hk
    exact ⟨t, z1, by rw [rems_o (by omega) (by omega)]; exact z2⟩
  · obtain ⟨t, z1, z2⟩ := hw i hi
    exact ⟨t, z1, by rw [rems_o (by omega) (by omega)]; exact z2⟩
  · obtain ⟨t, z1, z2⟩ := hr i hi
    exact ⟨t, z1, by rw [rems_o (by omega) (by omega)]; exact z2⟩
  · obtain ⟨t, z1, z2⟩ := ho i hi
    exact ⟨t, z1, by rw [rems_o (by omega) (by omega)]; exact z2⟩
theorem d_removeSub {l : Launch} (hst : l.stackTraces = false) {Q : Option Value → Hp → Prop} {X : String → Hp → Prop} {h0 H : Hp} {w : Nat} {σ ρ : Nat → Nat} {N : Nat → Int32} {c0 c1 c2 c3 c4 : Nat} (W : Wv [] h0 H w σ ρ N c0 c1 c2 c3 c4) {p c i : Nat} (hp : p < c0) (hc : N (7 + p * 23 + 8) = nI (c + 1)) (c4' : c + 1 ≤ 4) (hi : i < c + 1) {P : Int32} (hP : P = nI i) (q : ∀ H', Wv [] h0 H' w σ ρ (r_rems N p i c) c0 c1 c2 c3 c4 → Q none H') : CX3_removeAt l [.ref (w + 32 + 3 * p), .int P] H Q X := by
  subst hP
  have k0 := W.1.1.2
  have k1 := W.1.2.1.2
  have p8 := W.p8 hp
  have W0 : Wk h0 H w σ ρ N (vld N c0 c1 c2 c3 c4) := W.k
  refine eX3_removeAt hst (Nat.le_of_ble_eq_true rfl) (fun K hK => ?_)
  have hk : ∀ (n j : Nat) (M : Nat → Int32) (H' : Hp), j + n = c + 1 → i + 1 ≤ j → (M = fun x => if 7 + p * 23 + (9 + i) ≤ x ∧ x + 1 < 7 + p * 23 + (9 + j) then N (x + 1) else N x) → Wk h0 H' w σ ρ M (vld N c0 c1 c2 c3 c4) → K 4 [(2, .int (nI j)), (0, .ref (w + 32 + 3 * p)), (1, .int (nI i))] [] H' (0, 0) := by
    intro n
    induction n with
    | zero =>
      intro j M H' hj hij hM W'
      have e8 : M (7 + p * 23 + 8) = nI (c + 1) := by
        rw [hM]; dsimp only; rw [if_neg (by omega)]; exact hc
      refine hK _ _ _ _ ?_
      refine iSCk W' p8 (v_part hp (by omega) (by omega)) ?_
      rw [e8]
      refine And.intro (fun hcc => ?_) (fun hcc => ?_)
      · refine iSCk W' p8 (v_part hp (by omega) (by omega)) ?_
        rw [e8]
        refine xSC W' p8 (fun H2 W2 => ?_)
        repeat (refine And.intro (by first | assumption | rfl | exact Nat.le_of_ble_eq_true rfl | exact Nat.zero_le _ | decide) ?_)
        rw [nI_pred] at W2
        refine q H2 ⟨W.1.rems hp hc c4' hi, W2.to (fun x hx hv => ?_), fun q hq => absurd hq List.not_mem_nil⟩
        have hx1 : upd M (7 + p * 23 + 8) (nI c) x = r_rems N p i c x := by
          unfold r_rems
          by_cases z : x = 7 + p * 23 + 8
          · subst z
            rw [pk_us, if_neg (by omega), if_pos rfl]
          · rw [pk_un z, hM]
            dsimp only
            rw [if_neg z]
            by_cases y : 7 + p * 23 + (9 + i) ≤ x ∧ x + 1 < 7 + p * 23 + (9 + j)
            · rw [if_pos y, if_pos (by omega)]
            · rw [if_neg y, if_neg (show ¬ (7 + p * 23 + (9 + i) ≤ x ∧ x < 7 + p * 23 + (9 + c)) by omega)]
        refine ⟨?_, hx1⟩
        rcases hv.subs (N := N) (c := c) k0 k1 hp (fun z hz => rems_o (by omega) (by omega)) (by unfold r_rems; rw [if_neg (by omega), if_pos rfl]) (by omega) with ⟨h, _⟩ | ⟨k, hk, e⟩
        · exact Or.inl h
        · rw [e]; exact Or.inl (v_sub hp hc (by omega) (by omega))
      · exact absurd (nI_le (by omega) (by omega)) hcc
    | succ n ih =>
      intro j M H' hj hij hM W'
      have e8 : M (7 + p * 23 + 8) = nI (c + 1) := by
        rw [hM]; dsimp only; rw [if_neg (by omega)]; exact hc
      have ej : M (7 + p * 23 + (9 + j)) = N (7 + p * 23 + (9 + j)) := by
        rw [hM]; dsimp only; rw [if_neg (by omega)]
      refine hK _ _ _ _ ?_
      refine iSCk W' p8 (v_part hp (by omega) (by omega)) ?_
      rw [e8]
      refine And.intro (fun hcc => ?_) (fun hcc => ?_)
      · exact absurd hcc (nI_ge (by omega) (by omega))
      · refine gSubs W' p8 ?_
        refine gSubs W' p8 ?_
        refine ia_of (W'.s_part p p8).2.2.2.1 rfl (show j < 4 by omega) (by decide) (W'.ld (j := 7 + p * 23 + (9 + j)) (by omega) (loc_p9 w ρ p j p8 (by omega)) (v_sub hp hc c4' (by omega))) ?_
        obtain ⟨j', rfl⟩ : ∃ j', j = j' + 1 := ⟨j - 1, by omega⟩
        refine xSub W' p8 (k := j') (by omega) (nI_pred j') (fun H2 W2 => ?_)
        have := ih (j' + 1 + 1) (upd M (7 + p * 23 + (9 + j')) (M (7 + p * 23 + (9 + (j' + 1))))) H2 (by omega) (by omega) (by
          funext x
          by_cases z : x = 7 + p * 23 + (9 + j')
          · subst z
            rw [pk_us, ej, if_pos (by omega), show 7 + p * 23 + (9 + j') + 1 = 7 + p * 23 + (9 + (j' + 1)) by omega]
          · rw [pk_un z, hM]
            dsimp only
            by_cases y : 7 + p * 23 + (9 + i) ≤ x ∧ x + 1 < 7 + p * 23 + (9 + (j' + 1))
            · rw [if_pos y, if_pos (by omega)]
            · rw [if_neg y, if_neg (by omega)]) (W2.mono (fun _ _ hv => Or.inl hv))
        rw [← nI_1 (j' + 1)] at this
        exact this
  have := hk (c + 1 - (i + 1)) (i + 1) N H (by omega) (Nat.le_refl _) (funext fun x => by rw [if_neg (by omega)]) W0
  rw [← nI_1 i] at this
  exact this
end E5

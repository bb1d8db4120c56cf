section D8
theorem in_stk (N : Nat → Int32) (p : Nat) (v : Int32) : upd (upd N (7 + p * 23 + (13 + 1)) (N (7 + p * 23 + (13 + 1)) + v)) (7 + p * 23 + 0) (upd N (7 + p * 23 + (13 + 1)) (N (7 + p * 23 + (13 + 1)) + v) (7 + p * 23 + 0) + v) = r_in N p v := by
  funext j
  unfold r_in
  by_cases h0 : j = 7 + p * 23 + 0
  · subst h0
    rw [pk_us, pk_un (by omega), pk_un (by omega), pk_us]
  · rw [pk_un h0]
    by_cases h1 : j = 7 + p * 23 + 14
    · subst h1
      show upd N (7 + p * 23 + 14) (N (7 + p * 23 + 14) + v) (7 + p * 23 + 14) = _
      rw [pk_us, pk_us, pk_un (by omega)]
    · show upd N (7 + p * 23 + 14) (N (7 + p * 23 + 14) + v) j = _
      rw [pk_un h1, pk_un h1, pk_un h0]
theorem Ag.inn {A B : Nat → Int32} (h : Ag A B) {p : Nat} (hp : p < 8) {v : Int32} : Ag (r_in A p v) (r_in B p v) := by
  unfold r_in
  refine Ag.upd (Ag.upd h ?_) ?_
  · rw [h _ (noff (by omega) (by omega))]
  · rw [pk_un (by omega), pk_un (by omega), h (7 + p * 23 + 14) (noff (by omega) (by omega))]
theorem in_off {A : Nat → Int32} {p : Nat} (hp : p < 8) {v : Int32} {j : Nat} (hj : off j) : r_in A p v j = A j := in_o (by unfold off at hj; omega)
theorem d_receiveOrders {l : Launch} (hst : l.stackTraces = false) {Q : Option Value → Hp → Prop} {X : String → Hp → Prop} {h0 H : Hp} {w : Nat} {σ ρ : Nat → Nat} {N : Nat → Int32} {c0 c1 c2 c3 c4 : Nat} (W : Wv [] h0 H w σ ρ N c0 c1 c2 c3 c4) (nw : ∀ i, i < 12 → σ i = ρ i) (no : ∀ i, i < 12 → σ (24 + i) = ρ (24 + i)) {B : Int} (hI : NI N c0 c1 c2 c3 c4 B)
    (q : ∀ H' σ' ρ' c2' c4', Wv [] h0 H' w σ' ρ' (r_ro c4 0 N 0).1 c0 c1 c2' c3 c4' → (∀ i, i < 12 → σ' i = ρ' i) → (∀ i, i < 12 → σ' (24 + i) = ρ' (24 + i)) → (∀ i, 12 ≤ i → i < 24 → σ' i = σ i ∧ ρ' i = ρ i) → Q (some (.int (r_ro c4 0 N 0).2)) H') : CX7_receiveOrders l [.ref w] H Q X := by
  have k0 := W.1.1.2
  have k3 := W.1.2.2.2.1.2
  have k4 := W.1.2.2.2.2.1.2
  have hb : (323 = 287 ∧ 4 = 3 ∨ 323 = 323 ∧ 4 = 4) := Or.inr ⟨rfl, rfl⟩
  refine eX7_receiveOrders hst (Nat.le_of_ble_eq_true rfl) (fun K hK => ?_)
  have hk : ∀ (n i s c2' : Nat) (acc : Int32) (M Mc : Nat → Int32) (H' : Hp) (σ' ρ' : Nat → Nat), i + n = c4 → s ≤ i → Wv [] h0 H' w σ' ρ' Mc c0 c1 c2' c3 c4 → NI M c0 c1 c2' c3 (s + n) B → Ag M Mc → (∀ j, off j → Mc j = N j) → M 5 = N 5 → (∀ k f, k < n → f < 3 → M (323 + (s + k) * 3 + f) = N (323 + (i + k) * 3 + f)) →
      (∀ j, off j → r_drop 323 4 (N 5) c4 0 N j = r_drop 323 4 (N 5) n s M j) → (∀ k, k < 12 → σ' k = ρ' k) → (∀ k, 12 ≤ k → σ' k = σ k ∧ ρ' k = ρ k) → r_ro n s M acc = r_ro c4 0 N 0 →
      ∀ L, (L = [(2, .int (nI i)), (1, .int acc), (0, .ref w)] ∨ (∃ a, L = [(2, .int (nI i)), (3, a), (1, .int acc), (0, .ref w)]) ∨ (∃ a, L = [(2, .int (nI i)), (1, .int acc), (3, a), (0, .ref w)])) → K 4 L [] H' (0, 0) := by
    intro n
    induction n with
    | zero =>
      intro i s c2' acc M Mc H' σ' ρ' hi hsi W' hI' hA hoff hd5 hrow hdr n1 n2 hr L hL
      have hnr : ∀ k, k < 12 → σ' (24 + k) = ρ' (24 + k) := fun k hk => by
        rw [(n2 (24 + k) (by omega)).1, (n2 (24 + k) (by omega)).2]; exact no k hk
      have e5 : Mc 5 = N 5 := (hA 5 (by unfold off; omega)).symm.trans hd5
      have hM : r_drop 323 4 (N 5) c4 0 Mc = M := funext fun j => by
        by_cases hj : off j
        · rw [drop_off hb c4 0 hoff j hj, hdr j hj]; rfl
        · rw [drop_no hb c4 0 hj]; exact (hA j hj).symm
      rcases hL with hL | ⟨a, hL⟩ | ⟨a, hL⟩ <;> subst hL
      all_goals
        refine hK _ _ _ _ ?_
        refine gOrds W'.k ?_
        refine iOS W' ?_
        rw [W'.1.2.2.2.2.1.1]
        refine And.intro (fun hcc => ?_) (fun hcc => ?_)
        · refine gOrds W'.k ?_
          refine iDay W' ?_
          rw [e5]
          (repeat (refine And.intro (by first | assumption | rfl | exact Nat.le_of_ble_eq_true rfl | exact Nat.zero_le _ | decide) ?_)); refine And.intro (W'.k.s_ords.2.1) ?_; (repeat (refine And.intro (by first | assumption | rfl | exact Nat.le_of_ble_eq_true rfl | exact Nat.zero_le _ | decide) ?_))
          refine d_dropUntilOrd hst W' hnr (fun q hq => absurd hq List.not_mem_nil) (fun H2 σ2 ρ2 cc W2 m1 m2 m3 => ?_)
          rw [hM] at W2
          repeat (refine And.intro (by first | assumption | rfl | exact Nat.le_of_ble_eq_true rfl | exact Nat.zero_le _ | decide) ?_)
          have hr1 : (M, acc) = r_ro c4 0 N 0 := hr
          rw [← hr1] at q
          exact q H2 σ2 ρ2 c2' cc W2 (fun k hk => by rw [(m2 k (by omega)).1, (m2 k (by omega)).2]; exact n1 k hk) m1 (fun k hk1 hk2 => by rw [(m2 k (by omega)).1, (m2 k (by omega)).2]; exact n2 k (by omega))
        · exact absurd (nI_le (by omega) (by omega)) hcc
    | succ n ih =>
      intro i s c2' acc M Mc H' σ' ρ' hi hsi W' hI' hA hoff hd5 hrow hdr n1 n2 hr L hL
      have hnr : ∀ k, k < 12 → σ' (24 + k) = ρ' (24 + k) := fun k hk => by
        rw [(n2 (24 + k) (by omega)).1, (n2 (24 + k) (by omega)).2]; exact no k hk
      have k2' := W'.1.2.2.1.2
      have e5 : Mc 5 = N 5 := (hA 5 (by unfold off; omega)).symm.trans hd5
      have er0 : ∀ f, f < 3 → Mc (323 + i * 3 + f) = M (323 + s * 3 + f) := fun f hf => by
        rw [hoff _ (by unfold off; omega)]
        exact (hrow 0 f (by omega) hf).symm
      obtain ⟨p, p1, p2⟩ := hI'.wf.2.2.2.2.2.2.2.2.2 s (by omega)
      have hr1 : (if M (323 + s * 3 + 2) ≤ M 5 then r_ro n s (r_ro1 M s (s + n)) (acc + M (323 + s * 3 + 1)) else r_ro n (s + 1) M acc) = r_ro c4 0 N 0 := hr
      rw [hd5] at hr1
      have hdr1 : ∀ j, off j → r_drop 323 4 (N 5) c4 0 N j = (if M (323 + s * 3 + 2) ≤ N 5 then r_drop 323 4 (N 5) n s (r_fu M 323 4 s (s + n)) else r_drop 323 4 (N 5) n (s + 1) M) j := hdr
      have hv := hI'.oq s (by omega)
      have hF := (hI'.fu4 (i := s) (c := s + n) (by omega)).1
      have hz9 := (hI'.fu4 (i := s) (c := s + n) (by omega)).2 p p1 p2
      have hAF : Ag (r_fu M 323 4 s (s + n)) Mc := fun j hj => (fu_no hb hj).trans (hA j hj)
      have hAR := hAF.inn (show p < 8 by omega) (v := M (323 + s * 3 + 1))
      have e0 : r_fu M 323 4 s (s + n) (7 + p * 23 + 0) = M (7 + p * 23 + 0) := fu_no hb (noff (by omega) (by omega))
      have hRn : NI (r_in (r_fu M 323 4 s (s + n)) p (M (323 + s * 3 + 1))) c0 c1 c2' c3 (s + n) B := hF.stk p1 hv (by rw [e0]; exact hz9) in_at (fun j _ hn hj => in_o ⟨hj, fun z => by unfold nix stru at hn; omega⟩)
      have wfR := hRn.wf
      obtain ⟨sw2, hAS, hSo⟩ := Ag.swA wfR hAR
      have ee1 : r_ro1 M s (s + n) = (r_swA (r_in (r_fu M 323 4 s (s + n)) p (M (323 + s * 3 + 1)))).1 := by
        unfold r_ro1
        rw [p2, nI_clamp (by omega)]
      rw [ee1] at hr1
      have off2 : ∀ (M2 : Nat → Int32), (∀ j, off j → M2 j = r_fu M 323 4 s (s + n) j) → (∀ k f, k < n → f < 3 → M2 (323 + (s + k) * 3 + f) = N (323 + (i + 1 + k) * 3 + f)) := fun M2 h k f hk hf => by
        rw [h _ (by unfold off; omega)]
        unfold r_fu
        rw [if_pos (by omega), show 323 + (s + k) * 3 + f + 3 = 323 + (s + (k + 1)) * 3 + f by omega, hrow (k + 1) f (by omega) hf, show i + (k + 1) = i + 1 + k by omega]
      have R5 : r_in (r_fu M 323 4 s (s + n)) p (M (323 + s * 3 + 1)) 5 = N 5 := by
        rw [in_o (by omega), fu_no hb (by unfold off; omega)]; exact hd5
      have S5 : (r_swA (r_in (r_fu M 323 4 s (s + n)) p (M (323 + s * 3 + 1)))).1 5 = N 5 := by
        obtain ⟨c8, b1, b2, b3, b4, b5, b6⟩ := swA_num wfR hRn.sk hRn.mq
        exact (b6.1 5 ⟨by omega, by omega, fun q hq => by omega⟩).trans R5
      rcases hL with hL | ⟨a, hL⟩ | ⟨a, hL⟩ <;> subst hL
      all_goals
        refine hK _ _ _ _ ?_
        refine gOrds W'.k ?_
        refine iOS W' ?_
        rw [W'.1.2.2.2.2.1.1]
        refine And.intro (fun hcc => ?_) (fun hcc => ?_)
        · exact absurd hcc (nI_ge (by omega) (by omega))
        · refine gOrds W'.k ?_
          refine gBO W'.k ?_
          refine aOrd W'.k rfl (show i < 12 by omega) ?_
          rw [hnr i (by omega)]
          refine iOrd W' (show i < c4 by omega) (k := 2) (by decide) ?_
          refine iDay W' ?_
          rw [e5, er0 2 (by decide)]
          refine And.intro (fun hz => ?_) (fun hz => ?_)
          · have hz' : ¬ M (323 + s * 3 + 2) ≤ N 5 := Int32.not_le.mpr hz
            rw [if_neg hz'] at hr1
            have hdr2 : ∀ j, off j → r_drop 323 4 (N 5) c4 0 N j = r_drop 323 4 (N 5) n (s + 1) M j := fun j hj => by
              have := hdr1 j hj
              rw [if_neg hz'] at this
              exact this
            have hIs : NI M c0 c1 c2' c3 (s + 1 + n) B := by rw [show s + 1 + n = s + (n + 1) by omega]; exact hI'
            have hrow2 : ∀ k f, k < n → f < 3 → M (323 + (s + 1 + k) * 3 + f) = N (323 + (i + 1 + k) * 3 + f) := fun k f hk hf => by
              rw [show s + 1 + k = s + (k + 1) by omega, show i + 1 + k = i + (k + 1) by omega]
              exact hrow (k + 1) f (by omega) hf
            have go := ih (i + 1) (s + 1) c2' acc M Mc H' σ' ρ' (by omega) (by omega) W' hIs hA hoff hd5 hrow2 hdr2 n1 n2 hr1
            rw [← nI_1 i] at go
            exact go _ (Or.inr (Or.inl ⟨_, rfl⟩))
          · have hz' : M (323 + s * 3 + 2) ≤ N 5 := Int32.not_lt.mp hz
            rw [if_pos hz'] at hr1
            have hdr2 : ∀ j, off j → r_drop 323 4 (N 5) c4 0 N j = r_drop 323 4 (N 5) n s (r_fu M 323 4 s (s + n)) j := fun j hj => by
              have := hdr1 j hj
              rw [if_pos hz'] at this
              exact this
            refine gParts W'.k ?_
            refine iOrd W' (show i < c4 by omega) (k := 0) (by decide) ?_
            rw [er0 0 (by decide), p2]
            refine aPart W'.k rfl (show p < 8 by omega) ?_
            refine gMovs W'.k (show p < 8 by omega) ?_
            refine iMov W' p1 (k := 1) (by decide) rfl ?_
            refine iOrd W' (show i < c4 by omega) (k := 1) (by decide) ?_
            rw [er0 1 (by decide)]
            refine wMov W' p1 (k := 1) (by decide) rfl (fun H1 W1 => ?_)
            refine iOrd W1 (show i < c4 by omega) (k := 0) (by decide) ?_
            refine iOrd W1 (show i < c4 by omega) (k := 1) (by decide) ?_
            rw [pk_un (show 323 + i * 3 + 0 ≠ 7 + p * 23 + (13 + 1) by omega), pk_un (show 323 + i * 3 + 1 ≠ 7 + p * 23 + (13 + 1) by omega), er0 0 (by decide), er0 1 (by decide), p2]
            (repeat (refine And.intro (by first | assumption | rfl | exact Nat.le_of_ble_eq_true rfl | exact Nat.zero_le _ | decide) ?_)); refine And.intro (W1.k.s_w) ?_; (repeat (refine And.intro (by first | assumption | rfl | exact Nat.le_of_ble_eq_true rfl | exact Nat.zero_le _ | decide) ?_))
            have hSk := hAR.sk k0 hRn.sk
            have hMq : Mq Mc c2' := hA.mq k2' hI'.mq
            refine d_comeIn hst W1 n1 rfl p1 (by rw [in_stk]; exact hSk) (fun k hk => by
              rw [pk_un (by omega)]
              exact (hMq k hk).1) (fun q hq => absurd hq List.not_mem_nil) (fun H2 σ2 ρ2 c22 W2 m1 m2 m3 m4 m5 => ?_)
            rw [in_stk] at W2 m3
            obtain ⟨c8, b1, b2, b3⟩ := hRn.swA
            rw [sw2] at b1
            have ec : c8 = c22 := by omega
            subst ec
            have hoff2 : ∀ j, off j → (r_swA (r_in Mc p (M (323 + s * 3 + 1)))).1 j = N j := fun j hj => by
              have wfc : WFc (r_in Mc p (M (323 + s * 3 + 1))) c0 c1 c2' c3 c4 := W'.1.agree (fun j hj => r_in_s (by omega) hj)
              rw [(Ag.swA wfc (Ag.rfl' _)).2.2 j hj, in_off (by omega) hj]; exact hoff j hj
            have er1 : (r_swA (r_in Mc p (M (323 + s * 3 + 1)))).1 (323 + i * 3 + 1) = M (323 + s * 3 + 1) := by
              rw [hoff2 _ (by unfold off; omega)]
              exact (hrow 0 1 (by omega) (by decide)).symm
            rw [← (m2 (24 + i) (by omega)).2]
            refine iOrd W2 (show i < c4 by omega) (k := 1) (by decide) ?_
            rw [er1]
            have go := ih (i + 1) s c8 (acc + M (323 + s * 3 + 1)) _ _ H2 σ2 ρ2 (by omega) (by omega) W2 b3 hAS hoff2 S5 (off2 _ (fun j hj => by rw [hSo j hj, in_off (by omega) hj])) (fun j hj => (hdr2 j hj).trans (drop_off hb n s (fun j hj => by rw [hSo j hj, in_off (by omega) hj]) j hj)) m1 (fun k hk => by rw [(m2 k hk).1, (m2 k hk).2]; exact n2 k hk) hr1
            rw [← nI_1 i] at go
            exact go _ (Or.inr (Or.inr ⟨_, rfl⟩))
  exact hk c4 0 0 c2 0 N N H σ ρ (by omega) (Nat.le_refl _) W (by rw [Nat.zero_add]; exact hI) (Ag.rfl' N) (fun _ _ => rfl) rfl (fun _ _ _ _ => rfl) (fun _ _ => rfl) nw (fun _ _ => ⟨rfl, rfl⟩) rfl _ (Or.inl rfl)
end D8

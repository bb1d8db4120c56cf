section D7
theorem Ag.rfl' (A : Nat → Int32) : Ag A A := fun _ _ => rfl
theorem Ag.rp {A B : Nat → Int32} (h : Ag A B) {p : Nat} (hp : p < 8) {v : Int32} : s_rp A p v = s_rp B p v ∧ Ag (r_rp A p v) (r_rp B p v) := by
  have e : ∀ k, k < 23 → A (7 + p * 23 + k) = B (7 + p * 23 + k) := fun k hk => h _ (noff (by omega) (by omega))
  have e1 : s_rp A p v = s_rp B p v := by
    unfold s_rp
    rw [e 7 (by decide), e 6 (by decide)]
  refine ⟨e1, ?_⟩
  unfold r_rp
  dsimp only
  rw [e1, e 7 (by decide), e 6 (by decide)]
  refine Ag.upd (Ag.upd (Ag.upd (Ag.upd h rfl) ?_) ?_) ?_
  · rw [pk_un (by omega), pk_un (by omega), e 0 (by decide)]
  · rw [pk_un (by omega), pk_un (by omega), pk_un (by omega), pk_un (by omega), e 18 (by decide)]
  · rw [pk_un (by omega), pk_un (by omega), pk_un (by omega), pk_un (by omega), pk_un (by omega), pk_un (by omega), e 19 (by decide)]
theorem rp_off {A : Nat → Int32} {p : Nat} (hp : p < 8) {v : Int32} {j : Nat} (hj : off j) : r_rp A p v j = A j := rp_o (by unfold off at hj; omega)
/-- NI of a row gives what the class needs of one that is the same but for repairs and orders -/
theorem Ag.sk {A B : Nat → Int32} (h : Ag A B) {c0 : Nat} (k0 : c0 ≤ 8) (s : Sk A c0) : Sk B c0 := fun p hp => by
  rw [← h _ (noff (by omega) (by omega))]; exact s p hp
theorem Ag.mq {A B : Nat → Int32} (h : Ag A B) {c2 : Nat} (k2 : c2 ≤ 12) (s : Mq A c2) : Mq B c2 := fun i hi => by
  rw [← h _ (noff (by omega) (by omega))]; exact s i hi
theorem d_endRepairs {l : Launch} (hst : l.stackTraces = false) {Q : Option Value → Hp → Prop} {X : String → Hp → Prop} {h0 H : Hp} {w : Nat} {σ ρ : Nat → Nat} {N : Nat → Int32} {c0 c1 c2 c3 c4 : Nat} (W : Wv [] h0 H w σ ρ N c0 c1 c2 c3 c4) (nw : ∀ i, i < 12 → σ i = ρ i) (nr : ∀ i, i < 12 → σ (12 + i) = ρ (12 + i)) {B : Int} (hI : NI N c0 c1 c2 c3 c4 B)
    (q : ∀ H' σ' ρ' c2' c3', Wv [] h0 H' w σ' ρ' (r_er c3 0 N 0).1 c0 c1 c2' c3' c4 → (∀ i, i < 12 → σ' i = ρ' i) → (∀ i, i < 12 → σ' (12 + i) = ρ' (12 + i)) → (∀ i, 24 ≤ i → σ' i = σ i ∧ ρ' i = ρ i) → Q (some (.int (r_er c3 0 N 0).2)) H') : CX7_endRepairs l [.ref w] H Q X := by
  have k0 := W.1.1.2
  have k3 := W.1.2.2.2.1.2
  have hb : (287 = 287 ∧ 3 = 3 ∨ 287 = 323 ∧ 3 = 4) := Or.inl ⟨rfl, rfl⟩
  refine eX7_endRepairs hst (Nat.le_of_ble_eq_true rfl) (fun K hK => ?_)
  have hk : ∀ (n i s c2' : Nat) (acc : Int32) (M Mc : Nat → Int32) (H' : Hp) (σ' ρ' : Nat → Nat), i + n = c3 → s ≤ i → Wv [] h0 H' w σ' ρ' Mc c0 c1 c2' c3 c4 → NI M c0 c1 c2' (s + n) c4 B → Ag M Mc → (∀ j, off j → Mc j = N j) → M 5 = N 5 → (∀ k f, k < n → f < 3 → M (287 + (s + k) * 3 + f) = N (287 + (i + k) * 3 + f)) →
      (∀ j, off j → r_drop 287 3 (N 5) c3 0 N j = r_drop 287 3 (N 5) n s M j) → (∀ k, k < 12 → σ' k = ρ' k) → (∀ k, 12 ≤ k → σ' k = σ k ∧ ρ' k = ρ k) → r_er n s M acc = r_er c3 0 N 0 →
      ∀ L, (L = [(2, .int (nI i)), (1, .int acc), (0, .ref w)] ∨ (∃ a, L = [(2, .int (nI i)), (3, a), (1, .int acc), (0, .ref w)]) ∨ (∃ a b, L = [(2, .int (nI i)), (1, .int acc), (4, b), (3, a), (0, .ref w)]) ∨ (∃ a b, L = [(2, .int (nI i)), (3, a), (1, .int acc), (4, b), (0, .ref w)])) → K 4 L [] H' (0, 0) := by
    intro n
    induction n with
    | zero =>
      intro i s c2' acc M Mc H' σ' ρ' hi hsi W' hI' hA hoff hd5 hrow hdr n1 n2 hr L hL
      have hnr : ∀ k, k < 12 → σ' (12 + k) = ρ' (12 + k) := fun k hk => by
        rw [(n2 (12 + k) (by omega)).1, (n2 (12 + k) (by omega)).2]; exact nr k hk
      have e5 : Mc 5 = N 5 := (hA 5 (by unfold off; omega)).symm.trans hd5
      have hM : r_drop 287 3 (N 5) c3 0 Mc = M := funext fun j => by
        by_cases hj : off j
        · rw [drop_off hb c3 0 hoff j hj, hdr j hj]; rfl
        · rw [drop_no hb c3 0 hj]; exact (hA j hj).symm
      rcases hL with hL | ⟨a, hL⟩ | ⟨a, b, hL⟩ | ⟨a, b, hL⟩ <;> subst hL
      all_goals
        refine hK _ _ _ _ ?_
        refine gReps W'.k ?_
        refine iRS W' ?_
        rw [W'.1.2.2.2.1.1]
        refine And.intro (fun hcc => ?_) (fun hcc => ?_)
        · refine gReps W'.k ?_
          refine iDay W' ?_
          rw [e5]
          (repeat (refine And.intro (by first | assumption | rfl | exact Nat.le_of_ble_eq_true rfl | exact Nat.zero_le _ | decide) ?_)); refine And.intro (W'.k.s_reps.2.1) ?_; (repeat (refine And.intro (by first | assumption | rfl | exact Nat.le_of_ble_eq_true rfl | exact Nat.zero_le _ | decide) ?_))
          refine d_dropUntilRep hst W' hnr (fun q hq => absurd hq List.not_mem_nil) (fun H2 σ2 ρ2 cc W2 m1 m2 m3 => ?_)
          rw [hM] at W2
          repeat (refine And.intro (by first | assumption | rfl | exact Nat.le_of_ble_eq_true rfl | exact Nat.zero_le _ | decide) ?_)
          have hr1 : (M, acc) = r_er c3 0 N 0 := hr
          rw [← hr1] at q
          exact q H2 σ2 ρ2 c2' cc W2 (fun k hk => by rw [(m2 k (by omega)).1, (m2 k (by omega)).2]; exact n1 k hk) m1 (fun k hk => by rw [(m2 k (by omega)).1, (m2 k (by omega)).2]; exact n2 k (by omega))
        · exact absurd (nI_le (by omega) (by omega)) hcc
    | succ n ih =>
      intro i s c2' acc M Mc H' σ' ρ' hi hsi W' hI' hA hoff hd5 hrow hdr n1 n2 hr L hL
      have hnr : ∀ k, k < 12 → σ' (12 + k) = ρ' (12 + k) := fun k hk => by
        rw [(n2 (12 + k) (by omega)).1, (n2 (12 + k) (by omega)).2]; exact nr k hk
      have k2' := W'.1.2.2.1.2
      have e5 : Mc 5 = N 5 := (hA 5 (by unfold off; omega)).symm.trans hd5
      have er0 : ∀ f, f < 3 → Mc (287 + i * 3 + f) = M (287 + s * 3 + f) := fun f hf => by
        rw [hoff _ (by unfold off; omega)]
        exact (hrow 0 f (by omega) hf).symm
      obtain ⟨p, p1, p2⟩ := hI'.wf.2.2.2.2.2.2.2.2.1 s (by omega)
      have hr1 : (if M (287 + s * 3 + 2) ≤ M 5 then r_er n s (r_er1 M s (s + n)).2 (acc + (r_er1 M s (s + n)).1) else r_er n (s + 1) M acc) = r_er c3 0 N 0 := hr
      rw [hd5] at hr1
      have hdr1 : ∀ j, off j → r_drop 287 3 (N 5) c3 0 N j = (if M (287 + s * 3 + 2) ≤ N 5 then r_drop 287 3 (N 5) n s (r_fu M 287 3 s (s + n)) else r_drop 287 3 (N 5) n (s + 1) M) j := hdr
      -- what the model does when it ends
      have hv := hI'.rq s (by omega)
      obtain ⟨c9, w1, w2, w3⟩ := hI'.er1 (i := s) (c := s + n) (by omega)
      have hF : NI (r_fu M 287 3 s (s + n)) c0 c1 c2' (s + n) c4 B := (hI'.fu3 (i := s) (c := s + n) (by omega)).1
      have hAF : Ag (r_fu M 287 3 s (s + n)) Mc := fun j hj => (fu_no hb hj).trans (hA j hj)
      obtain ⟨ex, hAR⟩ := hAF.rp (show p < 8 by omega) (v := M (287 + s * 3 + 1))
      have wfR : WFc (r_rp (r_fu M 287 3 s (s + n)) p (M (287 + s * 3 + 1))) c0 c1 c2' (s + n) c4 := hF.wf.agree (fun j hj => r_rp_s (by omega) hj)
      obtain ⟨sw2, hAS, hSo⟩ := Ag.swA wfR hAR
      have ee1 : r_er1 M s (s + n) = (s_rp (r_fu M 287 3 s (s + n)) p (M (287 + s * 3 + 1)), if s_rp (r_fu M 287 3 s (s + n)) p (M (287 + s * 3 + 1)) ≤ 0 then r_rp (r_fu M 287 3 s (s + n)) p (M (287 + s * 3 + 1)) else (r_swA (r_rp (r_fu M 287 3 s (s + n)) p (M (287 + s * 3 + 1)))).1) := by
        unfold r_er1
        dsimp only
        rw [p2, nI_clamp (by omega)]
      rw [ee1] at hr1 w2 w3
      rw [ex] at hr1 w2 w3
      dsimp only at w2 w3
      have off2 : ∀ (M2 : Nat → Int32), (∀ j, off j → M2 j = r_fu M 287 3 s (s + n) j) → (∀ k f, k < n → f < 3 → M2 (287 + (s + k) * 3 + f) = N (287 + (i + 1 + k) * 3 + f)) := fun M2 h k f hk hf => by
        rw [h _ (by unfold off; omega)]
        unfold r_fu
        rw [if_pos (by omega), show 287 + (s + k) * 3 + f + 3 = 287 + (s + (k + 1)) * 3 + f by omega, hrow (k + 1) f (by omega) hf, show i + (k + 1) = i + 1 + k by omega]
      have R5 : r_rp (r_fu M 287 3 s (s + n)) p (M (287 + s * 3 + 1)) 5 = N 5 := by
        rw [rp_o (by omega), fu_no hb (by unfold off; omega)]; exact hd5
      have S5 : (r_swA (r_rp (r_fu M 287 3 s (s + n)) p (M (287 + s * 3 + 1)))).1 5 = N 5 := by
        obtain ⟨c8, b1, b2, b3, b4, b5, b6⟩ := swA_num wfR ((hF.rp p1 hv (by
          have := (hI'.fu3 (i := s) (c := s + n) (by omega)).2 p p1 p2
          have e0 : r_fu M 287 3 s (s + n) (7 + p * 23 + 0) = M (7 + p * 23 + 0) := fu_no hb (noff (by omega) (by omega))
          rw [e0]; exact this)).sk) ((hF.rp p1 hv (by
          have := (hI'.fu3 (i := s) (c := s + n) (by omega)).2 p p1 p2
          have e0 : r_fu M 287 3 s (s + n) (7 + p * 23 + 0) = M (7 + p * 23 + 0) := fu_no hb (noff (by omega) (by omega))
          rw [e0]; exact this)).mq)
        exact (b6.1 5 ⟨by omega, by omega, fun q hq => by omega⟩).trans R5
      have hRn : NI (r_rp (r_fu M 287 3 s (s + n)) p (M (287 + s * 3 + 1))) c0 c1 c2' (s + n) c4 B := hF.rp p1 hv (by
          have := (hI'.fu3 (i := s) (c := s + n) (by omega)).2 p p1 p2
          have e0 : r_fu M 287 3 s (s + n) (7 + p * 23 + 0) = M (7 + p * 23 + 0) := fu_no hb (noff (by omega) (by omega))
          rw [e0]; exact this)
      rcases hL with hL | ⟨a, hL⟩ | ⟨a, b, hL⟩ | ⟨a, b, hL⟩ <;> subst hL
      all_goals
        refine hK _ _ _ _ ?_
        refine gReps W'.k ?_
        refine iRS W' ?_
        rw [W'.1.2.2.2.1.1]
        refine And.intro (fun hcc => ?_) (fun hcc => ?_)
        · exact absurd hcc (nI_ge (by omega) (by omega))
        · refine gReps W'.k ?_
          refine gBR W'.k ?_
          refine aRep W'.k rfl (show i < 12 by omega) ?_
          rw [hnr i (by omega)]
          refine iRep W' (show i < c3 by omega) (k := 2) (by decide) ?_
          refine iDay W' ?_
          rw [e5, er0 2 (by decide)]
          refine And.intro (fun hz => ?_) (fun hz => ?_)
          · have hz' : ¬ M (287 + s * 3 + 2) ≤ N 5 := Int32.not_le.mpr hz
            rw [if_neg hz'] at hr1
            have hdr2 : ∀ j, off j → r_drop 287 3 (N 5) c3 0 N j = r_drop 287 3 (N 5) n (s + 1) M j := fun j hj => by
              have := hdr1 j hj
              rw [if_neg hz'] at this
              exact this
            have hIs : NI M c0 c1 c2' (s + 1 + n) c4 B := by rw [show s + 1 + n = s + (n + 1) by omega]; exact hI'
            have hrow2 : ∀ k f, k < n → f < 3 → M (287 + (s + 1 + k) * 3 + f) = N (287 + (i + 1 + k) * 3 + f) := fun k f hk hf => by
              rw [show s + 1 + k = s + (k + 1) by omega, show i + 1 + k = i + (k + 1) by omega]
              exact hrow (k + 1) f (by omega) hf
            have go := ih (i + 1) (s + 1) c2' acc M Mc H' σ' ρ' (by omega) (by omega) W' hIs hA hoff hd5 hrow2 hdr2 n1 n2 hr1
            rw [← nI_1 i] at go
            first
              | exact go _ (Or.inr (Or.inl ⟨_, rfl⟩))
              | exact go _ (Or.inr (Or.inr (Or.inr ⟨_, _, rfl⟩)))
          · have hz' : M (287 + s * 3 + 2) ≤ N 5 := Int32.not_lt.mp hz
            rw [if_pos hz'] at hr1
            have hdr2 : ∀ j, off j → r_drop 287 3 (N 5) c3 0 N j = r_drop 287 3 (N 5) n s (r_fu M 287 3 s (s + n)) j := fun j hj => by
              have := hdr1 j hj
              rw [if_pos hz'] at this
              exact this
            refine gParts W'.k ?_
            refine iRep W' (show i < c3 by omega) (k := 0) (by decide) ?_
            rw [er0 0 (by decide), p2]
            refine aPart W'.k rfl (show p < 8 by omega) ?_
            refine iRep W' (show i < c3 by omega) (k := 1) (by decide) ?_
            rw [er0 1 (by decide)]
            (repeat (refine And.intro (by first | assumption | rfl | exact Nat.le_of_ble_eq_true rfl | exact Nat.zero_le _ | decide) ?_)); refine And.intro ((W'.k.s_part p (show p < 8 by omega)).2.1) ?_; (repeat (refine And.intro (by first | assumption | rfl | exact Nat.le_of_ble_eq_true rfl | exact Nat.zero_le _ | decide) ?_))
            refine d_endRepair hst W' p1 (fun H1 W1 => ?_)
            refine And.intro (fun hx => ?_) (fun hx => ?_)
            · have hx0 : s_rp Mc p (M (287 + s * 3 + 1)) = 0 := i_eq0.mpr (by have := i_le0.mp hx; omega)
              rw [rpC_0 _ _ _ hx0] at W1
              rw [if_pos hx] at hr1 w2
              have go := ih (i + 1) s c2' (acc + s_rp Mc p (M (287 + s * 3 + 1))) _ _ H1 σ' ρ' (by omega) (by omega) W1 hRn hAR (fun j hj => by rw [rp_off (by omega) hj]; exact hoff j hj) R5 (off2 _ (fun j hj => rp_off (by omega) hj)) (fun j hj => (hdr2 j hj).trans (drop_off hb n s (fun j hj => (rp_off (by omega) hj).symm) j hj)) n1 n2 hr1
              rw [← nI_1 i] at go
              exact go _ (Or.inr (Or.inr (Or.inl ⟨_, _, rfl⟩)))
            · rw [if_neg hx] at hr1 w2
              refine iRep W1 (show i < c3 by omega) (k := 0) (by decide) ?_
              have e9 : r_rpC Mc p (M (287 + s * 3 + 1)) (287 + i * 3 + 0) = nI p := by
                unfold r_rpC
                rw [pk_un (by omega), pk_un (by omega), pk_un (by omega), er0 0 (by decide), p2]
              rw [e9]
              (repeat (refine And.intro (by first | assumption | rfl | exact Nat.le_of_ble_eq_true rfl | exact Nat.zero_le _ | decide) ?_)); refine And.intro (W1.k.s_w) ?_; (repeat (refine And.intro (by first | assumption | rfl | exact Nat.le_of_ble_eq_true rfl | exact Nat.zero_le _ | decide) ?_))
              have hSk := hAR.sk k0 hRn.sk
              have hMq : Mq Mc c2' := hA.mq k2' hI'.mq
              refine d_comeIn hst W1 n1 rfl p1 (by rw [rpC_stk]; exact hSk) (fun k hk => by
                unfold r_rpC
                rw [pk_un (by omega), pk_un (by omega), pk_un (by omega)]
                exact (hMq k hk).1) (fun q hq => absurd hq List.not_mem_nil) (fun H2 σ2 ρ2 c22 W2 m1 m2 m3 m4 m5 => ?_)
              rw [rpC_stk] at W2 m3
              obtain ⟨c8, b1, b2, b3⟩ := hRn.swA
              rw [sw2] at b1
              have ec : c8 = c22 := by omega
              subst ec
              have go := ih (i + 1) s c8 (acc + s_rp Mc p (M (287 + s * 3 + 1))) _ _ H2 σ2 ρ2 (by omega) (by omega) W2 b3 hAS (fun j hj => by
                  have wfc : WFc (r_rp Mc p (M (287 + s * 3 + 1))) c0 c1 c2' c3 c4 := W'.1.agree (fun j hj => r_rp_s (by omega) hj)
                  rw [(Ag.swA wfc (Ag.rfl' _)).2.2 j hj, rp_off (by omega) hj]; exact hoff j hj) S5 (off2 _ (fun j hj => by rw [hSo j hj, rp_off (by omega) hj])) (fun j hj => (hdr2 j hj).trans (drop_off hb n s (fun j hj => by rw [hSo j hj, rp_off (by omega) hj]) j hj)) m1 (fun k hk => by rw [(m2 k hk).1, (m2 k hk).2]; exact n2 k hk) hr1
              rw [← nI_1 i] at go
              exact go _ (Or.inr (Or.inr (Or.inl ⟨_, _, rfl⟩)))
  exact hk c3 0 0 c2 0 N N H σ ρ (by omega) (Nat.le_refl _) W (by rw [Nat.zero_add]; exact hI) (Ag.rfl' N) (fun _ _ => rfl) rfl (fun _ _ _ _ => rfl) (fun _ _ => rfl) nw (fun _ _ => ⟨rfl, rfl⟩) rfl _ (Or.inl rfl)
end D7

section H6
theorem d_tryPieces {l : Launch} (hst : l.stackTraces = false) {Q : Option Value → Hp → Prop} {X : String → Hp → Prop} {H : Hp} {x : Nat} {N F : Nat → Int32} {hi : Nat → Nat → Int32} {sv : Nat → Int32} {sm : Nat → Nat → Int32} {hd tx : Nat → Int32} {B : Int} (C : CR H x N F hi sv sm hd tx B) {M : Nat → Int32} {σ : Nat → Nat} {c0 c1 c2 c3 c4 a b : Nat} {k : Int32} {B1 : Int} (W : Wv [] H H (x + 81) σ σ M c0 c1 c2 c3 c4) (g : GI M c0 c1 c2 c3 c4 B1) (hB : B1 + 999 ≤ 16000000) (hl : isL k) (ha : a < c0) (b1 : 1 ≤ b) (b9 : b ≤ 999) (q1 : ∀ H' M', en M ⟨k, a, b⟩ = some M' → CR H' x N F hi sv sm hd tx B → Kp H' (x + 81) M' (B1 + 999) → Fr (x + 81) H H' → Q (some (.int 1)) H') (q0 : ∀ H', en M ⟨k, a, b⟩ = none → CR H' x N (enF M ⟨k, a, b⟩ F) hi sv sm hd tx B → XF x H H' → Q (some (.int 0)) H') : CX8_tryPieces l [.ref x, .int k, .int (nI a), .int (nI b)] H Q X := by
  have k8 := g.wf.1.2
  have bi : (nI b).toInt = b := nI_toInt (by omega)
  have h0 : nI a < M 0 := by rw [g.wf.1.1]; exact nI_lt ha (by omega)
  have m2 : (M 2).toNatClampNeg = c2 := by rw [g.wf.2.2.1.1]; exact nI_clamp (by have := g.wf.2.2.1.2; omega)
  have m3 : (M 3).toNatClampNeg = c3 := by rw [g.wf.2.2.2.1.1]; exact nI_clamp (by have := g.wf.2.2.2.1.2; omega)
  have k3 := g.wf.2.2.2.1
  have m3l : M 3 < 12 ↔ c3 < 12 := by
    rw [k3.1]
    exact nI_ltI (a := c3) (b := 12) (by omega) (by decide)
  refine eX8_tryPieces hst (Nat.le_of_ble_eq_true rfl) (fun K => ?_)
  rcases hl with rfl | rfl | rfl | rfl
  · have eN : en M ⟨114, a, b⟩ = if rqB M a (nI b) then none else some (r_req M a (nI b) c2) := by
      unfold en
      dsimp only [Ent.k, Ent.a, Ent.b]
      rw [if_neg (by decide), if_neg (by decide), if_pos h0, if_pos rfl, m2]
    have eF : enF M ⟨114, a, b⟩ F = upd F 7 1 := by
      unfold enF
      dsimp only [Ent.k, Ent.a, Ent.b]
      rw [if_neg (by decide), if_pos h0, if_pos rfl]
    refine And.intro (fun z => absurd rfl z) (fun _ => ?_)
    refine xt C ?_
    (repeat (refine And.intro (by first | assumption | rfl | exact Nat.le_of_ble_eq_true rfl | exact Nat.zero_le _ | decide) ?_)); refine And.intro (W.k.s_w) ?_; (repeat (refine And.intro (by first | assumption | rfl | exact Nat.le_of_ble_eq_true rfl | exact Nat.zero_le _ | decide) ?_))
    refine d_obstacleToRequest hst W rfl ha (fun hb => ?_) (fun hb => ?_)
    · rw [if_pos (show rqB M a (nI b) from hb)] at eN
      refine And.intro (fun z => absurd z (by decide)) (fun _ => ?_)
      refine pI_of C.s0 ?_
      repeat (refine And.intro (by first | assumption | rfl | exact Nat.le_of_ble_eq_true rfl | exact Nat.zero_le _ | decide) ?_)
      exact q0 _ eN (by rw [eF]; exact C.rsn 1) (XF.wI (Nat.le_refl x) (by omega))
    · rw [if_neg (show ¬ rqB M a (nI b) from hb)] at eN
      refine And.intro (fun _ => ?_) (fun z => absurd rfl z)
      refine And.intro (fun _ => ?_) (fun z => absurd (by decide) z)
      refine xt C ?_
      (repeat (refine And.intro (by first | assumption | rfl | exact Nat.le_of_ble_eq_true rfl | exact Nat.zero_le _ | decide) ?_)); refine And.intro (W.k.s_w) ?_; (repeat (refine And.intro (by first | assumption | rfl | exact Nat.le_of_ble_eq_true rfl | exact Nat.zero_le _ | decide) ?_))
      have hfull := av_full g ha (v := nI b) (by omega) hb
      refine d_makeRequest hst W (fun _ _ => rfl) rfl ha g.ni.sk (by omega) hfull (fun H2 c2' W2 => ?_)
      repeat (refine And.intro (by first | assumption | rfl | exact Nat.le_of_ble_eq_true rfl | exact Nat.zero_le _ | decide) ?_)
      exact q1 H2 _ eN (C.trial W2.k.1 ⟨_, W2.k.2.1⟩) (Kp.of W2 (fun _ _ => rfl) (g.req ha (by omega) hfull hB W2.1)) W2.k.1
  · have eN : en M ⟨103, a, b⟩ = some (r_swA (r_bkG M a (nI b))).1 := by
      unfold en
      dsimp only [Ent.k, Ent.a, Ent.b]
      rw [if_neg (by decide), if_neg (by decide), if_pos h0, if_neg (by decide), if_neg (by decide), if_pos rfl]
    refine And.intro (fun _ => ?_) (fun z => absurd z (by decide))
    refine And.intro (fun _ => ?_) (fun z => absurd z (by decide))
    refine And.intro (fun _ => ?_) (fun z => absurd rfl z)
    refine And.intro (fun z => absurd z (by decide)) (fun _ => ?_)
    refine And.intro (fun z => absurd z (by decide)) (fun _ => ?_)
    refine xt C ?_
    refine And.intro (fun z => absurd rfl z) (fun _ => ?_)
    obtain ⟨n2, cc, e1, g2⟩ := g.bkG ha (v := nI b) (by omega) hB
    (repeat (refine And.intro (by first | assumption | rfl | exact Nat.le_of_ble_eq_true rfl | exact Nat.zero_le _ | decide) ?_)); refine And.intro (W.k.s_w) ?_; (repeat (refine And.intro (by first | assumption | rfl | exact Nat.le_of_ble_eq_true rfl | exact Nat.zero_le _ | decide) ?_))
    refine d_takeBackG hst W (fun _ _ => rfl) (by decide) rfl ha n2.sk g.ni.mq.mp (fun H2 σ2 ρ2 c2' W2 nn2 => ?_)
    obtain ⟨-, -, u2, -, -⟩ := W2.1.uniq g2.wf
    subst u2
    repeat (refine And.intro (by first | assumption | rfl | exact Nat.le_of_ble_eq_true rfl | exact Nat.zero_le _ | decide) ?_)
    exact q1 H2 _ eN (C.trial W2.k.1 ⟨_, W2.k.2.1⟩) (Kp.of W2 nn2 g2) W2.k.1
  · have eN : en M ⟨98, a, b⟩ = some (r_bkB M a (nI b)) := by
      unfold en
      dsimp only [Ent.k, Ent.a, Ent.b]
      rw [if_neg (by decide), if_neg (by decide), if_pos h0, if_neg (by decide), if_neg (by decide), if_neg (by decide)]
    refine And.intro (fun _ => ?_) (fun z => absurd z (by decide))
    refine And.intro (fun _ => ?_) (fun z => absurd z (by decide))
    refine And.intro (fun _ => ?_) (fun z => absurd rfl z)
    refine And.intro (fun z => absurd z (by decide)) (fun _ => ?_)
    refine And.intro (fun z => absurd z (by decide)) (fun _ => ?_)
    refine xt C ?_
    refine And.intro (fun _ => ?_) (fun z => absurd z (by decide))
    (repeat (refine And.intro (by first | assumption | rfl | exact Nat.le_of_ble_eq_true rfl | exact Nat.zero_le _ | decide) ?_)); refine And.intro (W.k.s_w) ?_; (repeat (refine And.intro (by first | assumption | rfl | exact Nat.le_of_ble_eq_true rfl | exact Nat.zero_le _ | decide) ?_))
    refine d_takeBackB hst W rfl ha (fun H2 W2 => ?_)
    repeat (refine And.intro (by first | assumption | rfl | exact Nat.le_of_ble_eq_true rfl | exact Nat.zero_le _ | decide) ?_)
    exact q1 H2 _ eN (C.trial W2.k.1 ⟨_, W2.k.2.1⟩) (Kp.of W2 (fun _ _ => rfl) ((g.bkB ha).le (by omega) hB)) W2.k.1
  · have eN : en M ⟨115, a, b⟩ = if M (7 + a * 23 + 1) < nI b then none else if M 3 < 12 then some (r_send M a (nI b) c3) else none := by
      unfold en
      dsimp only [Ent.k, Ent.a, Ent.b]
      rw [if_neg (by decide), if_neg (by decide), if_pos h0, if_neg (by decide), if_pos rfl, m3]
    have eF : enF M ⟨115, a, b⟩ F = if M (7 + a * 23 + 1) < nI b then upd F 7 2 else upd F 7 1 := by
      unfold enF
      dsimp only [Ent.k, Ent.a, Ent.b]
      rw [if_neg (by decide), if_pos h0, if_neg (by decide)]
    refine And.intro (fun _ => ?_) (fun z => absurd z (by decide))
    refine And.intro (fun z => absurd rfl z) (fun _ => ?_)
    refine xt C ?_
    (repeat (refine And.intro (by first | assumption | rfl | exact Nat.le_of_ble_eq_true rfl | exact Nat.zero_le _ | decide) ?_)); refine And.intro (W.k.s_w) ?_; (repeat (refine And.intro (by first | assumption | rfl | exact Nat.le_of_ble_eq_true rfl | exact Nat.zero_le _ | decide) ?_))
    refine d_obstacleToSending hst W rfl ha ?_
    by_cases h1 : M (7 + a * 23 + 1) < nI b
    · rw [if_pos h1] at eN eF ⊢
      refine And.intro (fun z => absurd z (by decide)) (fun _ => ?_)
      refine pI_of C.s0 ?_
      repeat (refine And.intro (by first | assumption | rfl | exact Nat.le_of_ble_eq_true rfl | exact Nat.zero_le _ | decide) ?_)
      exact q0 _ eN (by rw [eF]; exact C.rsn 2) (XF.wI (Nat.le_refl x) (by omega))
    · rw [if_neg h1] at eN eF ⊢
      by_cases h2 : c3 < 12
      · rw [if_pos h2]
        rw [if_pos (m3l.mpr h2)] at eN
        refine And.intro (fun _ => ?_) (fun z => absurd rfl z)
        refine And.intro (fun z => absurd z (by decide)) (fun _ => ?_)
        refine And.intro (fun _ => ?_) (fun z => absurd (by decide) z)
        refine xt C ?_
        (repeat (refine And.intro (by first | assumption | rfl | exact Nat.le_of_ble_eq_true rfl | exact Nat.zero_le _ | decide) ?_)); refine And.intro (W.k.s_w) ?_; (repeat (refine And.intro (by first | assumption | rfl | exact Nat.le_of_ble_eq_true rfl | exact Nat.zero_le _ | decide) ?_))
        refine d_sendBroken hst W (fun _ _ => rfl) rfl ha h2 (fun H2 W2 => ?_)
        repeat (refine And.intro (by first | assumption | rfl | exact Nat.le_of_ble_eq_true rfl | exact Nat.zero_le _ | decide) ?_)
        exact q1 H2 _ eN (C.trial W2.k.1 ⟨_, W2.k.2.1⟩) (Kp.of W2 (fun _ _ => rfl) (g.send ha h2 (by omega) hB)) W2.k.1
      · rw [if_neg h2]
        rw [if_neg (fun z => h2 (m3l.mp z))] at eN
        refine And.intro (fun z => absurd z (by decide)) (fun _ => ?_)
        refine pI_of C.s0 ?_
        repeat (refine And.intro (by first | assumption | rfl | exact Nat.le_of_ble_eq_true rfl | exact Nat.zero_le _ | decide) ?_)
        exact q0 _ eN (by rw [eF]; exact C.rsn 1) (XF.wI (Nat.le_refl x) (by omega))
theorem d_tryEntry {l : Launch} (hst : l.stackTraces = false) {Q : Option Value → Hp → Prop} {X : String → Hp → Prop} {H : Hp} {x : Nat} {N F : Nat → Int32} {hi : Nat → Nat → Int32} {sv : Nat → Int32} {sm : Nat → Nat → Int32} {hd tx : Nat → Int32} {B : Int} (C : CR H x N F hi sv sm hd tx B) {M : Nat → Int32} {σ : Nat → Nat} {c0 c1 c2 c3 c4 : Nat} {e : Ent} {B1 : Int} (W : Wv [] H H (x + 81) σ σ M c0 c1 c2 c3 c4) (g : GI M c0 c1 c2 c3 c4 B1) (hB : B1 + 999 ≤ 16000000) (he : EnOk e) (q1 : ∀ H' M', en M e = some M' → CR H' x N F hi sv sm hd tx B → Kp H' (x + 81) M' (B1 + 999) → Fr (x + 81) H H' → Q (some (.int 1)) H') (q0 : ∀ H', en M e = none → CR H' x N (enF M e F) hi sv sm hd tx B → XF x H H' → Q (some (.int 0)) H') : CX8_tryEntry l [.ref x, .int e.k, .int (nI e.a), .int (nI e.b)] H Q X := by
  obtain ⟨k, a, b⟩ := e
  obtain ⟨hk, ha9, hb9, ha7⟩ := he
  have k8 := g.wf.1.2
  have k4 := g.wf.2.1.2
  have ap : 0 ≤ nI a := nI_pos' (show a < 2 ^ 31 by have : a ≤ 9 := ha9; omega)
  refine eX8_tryEntry hst (Nat.le_of_ble_eq_true rfl) (fun K => ?_)
  rcases hk with hk | hk | ⟨hl, b1⟩
  · have : k = 107 := hk
    subst this
    refine And.intro (fun z => absurd (show (107 : Int32).toInt = 100 from z) (by decide)) (fun _ => ?_)
    refine And.intro (fun _ => ?_) (fun z => absurd (show (107 : Int32).toInt = 107 by decide) z)
    refine xt C ?_
    (repeat (refine And.intro (by first | assumption | rfl | exact Nat.le_of_ble_eq_true rfl | exact Nat.zero_le _ | decide) ?_)); refine And.intro (W.k.s_w) ?_; (repeat (refine And.intro (by first | assumption | rfl | exact Nat.le_of_ble_eq_true rfl | exact Nat.zero_le _ | decide) ?_))
    refine d_hasKit hst W ?_
    have hm1 : nI a < M 1 ↔ a < c1 := by rw [g.wf.2.1.1]; exact nI_ltI (by have : a ≤ 9 := ha9; omega) (by omega)
    by_cases hv : a < c1
    · rw [if_pos ⟨ap, by rw [← g.wf.2.1.1]; exact hm1.mpr hv⟩]
      refine And.intro (fun z => absurd z (by decide)) (fun _ => ?_)
      (repeat (refine And.intro (by first | assumption | rfl | exact Nat.le_of_ble_eq_true rfl | exact Nat.zero_le _ | decide) ?_)); refine And.intro (C.s0) ?_; (repeat (refine And.intro (by first | assumption | rfl | exact Nat.le_of_ble_eq_true rfl | exact Nat.zero_le _ | decide) ?_))
      refine d_tryTaking hst C W g hv (fun H2 hb C2 K2 F2 => ?_) (fun H2 hb C2 F2 => ?_)
      · refine And.intro (fun z => absurd z (by decide)) (fun _ => ?_)
        repeat (refine And.intro (by first | assumption | rfl | exact Nat.le_of_ble_eq_true rfl | exact Nat.zero_le _ | decide) ?_)
        refine q1 H2 _ ?_ C2 (K2.le (by omega) hB) F2
        unfold en
        dsimp only [Ent.k, Ent.a, Ent.b]
        rw [if_neg (by decide), if_pos rfl, if_pos (hm1.mpr hv), if_pos hb]
      · refine And.intro (fun _ => ?_) (fun z => absurd rfl z)
        repeat (refine And.intro (by first | assumption | rfl | exact Nat.le_of_ble_eq_true rfl | exact Nat.zero_le _ | decide) ?_)
        refine q0 H2 ?_ ?_ F2
        · unfold en
          dsimp only [Ent.k, Ent.a, Ent.b]
          rw [if_neg (by decide), if_pos rfl, if_pos (hm1.mpr hv), if_neg (by rw [hb]; decide)]
        · unfold enF
          dsimp only [Ent.k, Ent.a, Ent.b]
          rw [if_pos rfl, if_pos (hm1.mpr hv)]
          exact C2
    · rw [if_neg (fun z => hv (by
        have := z.2
        rw [← g.wf.2.1.1] at this
        exact hm1.mp this))]
      refine And.intro (fun _ => ?_) (fun z => absurd rfl z)
      repeat (refine And.intro (by first | assumption | rfl | exact Nat.le_of_ble_eq_true rfl | exact Nat.zero_le _ | decide) ?_)
      refine q0 H ?_ ?_ (XF.rf x H)
      · unfold en
        dsimp only [Ent.k, Ent.a, Ent.b]
        rw [if_neg (by decide), if_pos rfl, if_neg (fun z => hv (hm1.mp z))]
      · unfold enF
        dsimp only [Ent.k, Ent.a, Ent.b]
        rw [if_pos rfl, if_neg (fun z => hv (hm1.mp z))]
        exact C
  · have : k = 100 := hk
    subst this
    refine And.intro (fun _ => ?_) (fun z => absurd (show (100 : Int32).toInt = 100 by decide) z)
    refine xt C ?_
    (repeat (refine And.intro (by first | assumption | rfl | exact Nat.le_of_ble_eq_true rfl | exact Nat.zero_le _ | decide) ?_)); refine And.intro (W.k.s_w) ?_; (repeat (refine And.intro (by first | assumption | rfl | exact Nat.le_of_ble_eq_true rfl | exact Nat.zero_le _ | decide) ?_))
    refine d_passDays hst W (fun _ _ => rfl) g.ni rfl (show a < 1000 by have : a ≤ 9 := ha9; omega) (fun H2 σ2 ρ2 c2' c3' c4' W2 nn2 => ?_)
    repeat (refine And.intro (by first | assumption | rfl | exact Nat.le_of_ble_eq_true rfl | exact Nat.zero_le _ | decide) ?_)
    refine q1 H2 (r_days a M).1 ?_ (C.trial W2.k.1 ⟨_, W2.k.2.1⟩) (Kp.of W2 nn2 ((g.days a W2.1).le (by omega) hB)) W2.k.1
    unfold en
    dsimp only [Ent.k, Ent.a, Ent.b]
    rw [if_pos rfl]
  · have n1 : ¬ k.toInt = 100 := by rcases hl with hl | hl | hl | hl <;> (rw [show k = _ from hl]; decide)
    have n2 : ¬ k.toInt = 107 := by rcases hl with hl | hl | hl | hl <;> (rw [show k = _ from hl]; decide)
    have n1' : ¬ k = 100 := fun z => n1 (by rw [z]; decide)
    have n2' : ¬ k = 107 := fun z => n2 (by rw [z]; decide)
    refine And.intro (fun z => absurd z n1) (fun _ => ?_)
    refine And.intro (fun z => absurd z n2) (fun _ => ?_)
    refine xt C ?_
    (repeat (refine And.intro (by first | assumption | rfl | exact Nat.le_of_ble_eq_true rfl | exact Nat.zero_le _ | decide) ?_)); refine And.intro (W.k.s_w) ?_; (repeat (refine And.intro (by first | assumption | rfl | exact Nat.le_of_ble_eq_true rfl | exact Nat.zero_le _ | decide) ?_))
    refine d_hasPart hst W ?_
    have hm0 : nI a < M 0 ↔ a < c0 := by rw [g.wf.1.1]; exact nI_ltI (by have : a ≤ 9 := ha9; omega) (by omega)
    by_cases hv : a < c0
    · rw [if_pos ⟨ap, by rw [← g.wf.1.1]; exact hm0.mpr hv⟩]
      refine And.intro (fun z => absurd z (by decide)) (fun _ => ?_)
      (repeat (refine And.intro (by first | assumption | rfl | exact Nat.le_of_ble_eq_true rfl | exact Nat.zero_le _ | decide) ?_)); refine And.intro (C.s0) ?_; (repeat (refine And.intro (by first | assumption | rfl | exact Nat.le_of_ble_eq_true rfl | exact Nat.zero_le _ | decide) ?_))
      refine d_tryPieces hst C W g hB hl hv b1 hb9 (fun H2 M' em C2 K2 F2 => ?_) (fun H2 em C2 F2 => ?_)
      · refine And.intro (fun z => absurd z (by decide)) (fun _ => ?_)
        repeat (refine And.intro (by first | assumption | rfl | exact Nat.le_of_ble_eq_true rfl | exact Nat.zero_le _ | decide) ?_)
        exact q1 H2 M' em C2 K2 F2
      · refine And.intro (fun _ => ?_) (fun z => absurd rfl z)
        repeat (refine And.intro (by first | assumption | rfl | exact Nat.le_of_ble_eq_true rfl | exact Nat.zero_le _ | decide) ?_)
        exact q0 H2 em C2 F2
    · rw [if_neg (fun z => hv (by
        have := z.2
        rw [← g.wf.1.1] at this
        exact hm0.mp this))]
      refine And.intro (fun _ => ?_) (fun z => absurd rfl z)
      repeat (refine And.intro (by first | assumption | rfl | exact Nat.le_of_ble_eq_true rfl | exact Nat.zero_le _ | decide) ?_)
      refine q0 H ?_ ?_ (XF.rf x H)
      · unfold en
        dsimp only [Ent.k, Ent.a, Ent.b]
        rw [if_neg n1', if_neg n2', if_neg (fun z => hv (hm0.mp z))]
      · unfold enF
        dsimp only [Ent.k, Ent.a, Ent.b]
        rw [if_neg n2', if_neg (fun z => hv (hm0.mp z))]
        exact C
end H6

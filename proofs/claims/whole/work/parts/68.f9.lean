section F9
theorem e_giveBackG {l : Launch} (hst : l.stackTraces = false) {Q : Option Value → Hp → Prop} {X : String → Hp → Prop} {H : Hp} {x : Nat} {N F : Nat → Int32} {hi : Nat → Nat → Int32} {sv : Nat → Int32} {sm : Nat → Nat → Int32} {hd tx : Nat → Int32} {B : Int} (C : CR H x N F hi sv sm hd tx B) {σ : Nat → Nat} {c0 c1 c2 c3 c4 : Nat} (W : Wv [] H H (x + 1) σ σ N c0 c1 c2 c3 c4) (g : GI N c0 c1 c2 c3 c4 B) (hB : B + 999 ≤ 16000000) {P v b : Int32} (hb : ¬ b = 0) (x1 : (¬ (0 ≤ P ∧ P < nI c0)) → ∀ n, hn H ≤ n → X "java/lang/IndexOutOfBoundsException" (hxn H n)) (x2 : ((0 ≤ P ∧ P < nI c0) ∧ ¬ (1 ≤ v ∧ v ≤ 999)) → ∀ n, hn H ≤ n → X "java/lang/IllegalArgumentException" (hxn H n)) (q : ∀ p r H', P = nI p → p < c0 → 1 ≤ v ∧ v ≤ 999 → F 5 = nI r → r ≤ 8 → CR H' x (r_swA (r_bkG N p v)).1 (upd F 5 (nI (pr r))) (ph hi r N) sv sm hd tx (B + 999) → XF x H H' → Q (some (.int (nI (r_swA (r_bkG N p v)).2))) H') : CX8_giveBack l [.ref x, .int P, .int v, .int b] H Q X := by
  have k8 := W.1.1.2
  refine eX8_giveBack hst (Nat.le_of_ble_eq_true rfl) (fun K => ?_)
  (repeat (refine And.intro (by first | assumption | rfl | exact Nat.le_of_ble_eq_true rfl | exact Nat.zero_le _ | decide) ?_)); refine And.intro (C.s0) ?_; (repeat (refine And.intro (by first | assumption | rfl | exact Nat.le_of_ble_eq_true rfl | exact Nat.zero_le _ | decide) ?_))
  refine d_needPart hst C W.1.1.1 W.1.1.2 (fun hP => ?_) (fun hP => x1 hP)
  obtain ⟨p, p1, p2⟩ := in9 (by omega) hP
  subst p2
  repeat (refine And.intro (by first | assumption | rfl | exact Nat.le_of_ble_eq_true rfl | exact Nat.zero_le _ | decide) ?_)
  refine d_needRange hst (fun hv => ?_) (fun hv => x2 ⟨hP, hv⟩)
  have hvi : 1 ≤ v.toInt ∧ v.toInt ≤ 999 := ⟨Int32.le_iff_toInt_le.mp hv.1, Int32.le_iff_toInt_le.mp hv.2⟩
  obtain ⟨n2, cc, e1, g2⟩ := g.bkG p1 (v := v) (by omega) hB
  (repeat (refine And.intro (by first | assumption | rfl | exact Nat.le_of_ble_eq_true rfl | exact Nat.zero_le _ | decide) ?_)); refine And.intro (C.s0) ?_; (repeat (refine And.intro (by first | assumption | rfl | exact Nat.le_of_ble_eq_true rfl | exact Nat.zero_le _ | decide) ?_))
  refine d_remember hst C W g (fun H1 r hr r8 C1 W1 F1 => ?_)
  refine xw C1 ?_
  (repeat (refine And.intro (by first | assumption | rfl | exact Nat.le_of_ble_eq_true rfl | exact Nat.zero_le _ | decide) ?_)); refine And.intro (W1.k.s_w) ?_; (repeat (refine And.intro (by first | assumption | rfl | exact Nat.le_of_ble_eq_true rfl | exact Nat.zero_le _ | decide) ?_))
  refine d_takeBackG hst W1 (fun _ _ => rfl) hb rfl p1 n2.sk g.ni.mq.mp (fun H2 σ2 ρ2 c2' W2 nn2 => ?_)
  repeat (refine And.intro (by first | assumption | rfl | exact Nat.le_of_ble_eq_true rfl | exact Nat.zero_le _ | decide) ?_)
  obtain ⟨-, -, u2, -, -⟩ := W2.1.uniq g2.wf
  subst u2
  exact q p r H2 rfl p1 hv hr r8 (C1.world W2.k.1 (Kp.of W2 nn2 g2) (by omega) hB) (F1.trans (XF.fr W2.k.1 (by omega) (by omega)))
theorem e_giveBackB {l : Launch} (hst : l.stackTraces = false) {Q : Option Value → Hp → Prop} {X : String → Hp → Prop} {H : Hp} {x : Nat} {N F : Nat → Int32} {hi : Nat → Nat → Int32} {sv : Nat → Int32} {sm : Nat → Nat → Int32} {hd tx : Nat → Int32} {B : Int} (C : CR H x N F hi sv sm hd tx B) {σ : Nat → Nat} {c0 c1 c2 c3 c4 : Nat} (W : Wv [] H H (x + 1) σ σ N c0 c1 c2 c3 c4) (g : GI N c0 c1 c2 c3 c4 B) {P v : Int32} (x1 : (¬ (0 ≤ P ∧ P < nI c0)) → ∀ n, hn H ≤ n → X "java/lang/IndexOutOfBoundsException" (hxn H n)) (x2 : ((0 ≤ P ∧ P < nI c0) ∧ ¬ (1 ≤ v ∧ v ≤ 999)) → ∀ n, hn H ≤ n → X "java/lang/IllegalArgumentException" (hxn H n)) (q : ∀ p r H', P = nI p → p < c0 → 1 ≤ v ∧ v ≤ 999 → F 5 = nI r → r ≤ 8 → CR H' x (r_bkB N p v) (upd F 5 (nI (pr r))) (ph hi r N) sv sm hd tx B → XF x H H' → Q (some (.int 0)) H') : CX8_giveBack l [.ref x, .int P, .int v, .int 0] H Q X := by
  have k8 := W.1.1.2
  refine eX8_giveBack hst (Nat.le_of_ble_eq_true rfl) (fun K => ?_)
  (repeat (refine And.intro (by first | assumption | rfl | exact Nat.le_of_ble_eq_true rfl | exact Nat.zero_le _ | decide) ?_)); refine And.intro (C.s0) ?_; (repeat (refine And.intro (by first | assumption | rfl | exact Nat.le_of_ble_eq_true rfl | exact Nat.zero_le _ | decide) ?_))
  refine d_needPart hst C W.1.1.1 W.1.1.2 (fun hP => ?_) (fun hP => x1 hP)
  obtain ⟨p, p1, p2⟩ := in9 (by omega) hP
  subst p2
  repeat (refine And.intro (by first | assumption | rfl | exact Nat.le_of_ble_eq_true rfl | exact Nat.zero_le _ | decide) ?_)
  refine d_needRange hst (fun hv => ?_) (fun hv => x2 ⟨hP, hv⟩)
  (repeat (refine And.intro (by first | assumption | rfl | exact Nat.le_of_ble_eq_true rfl | exact Nat.zero_le _ | decide) ?_)); refine And.intro (C.s0) ?_; (repeat (refine And.intro (by first | assumption | rfl | exact Nat.le_of_ble_eq_true rfl | exact Nat.zero_le _ | decide) ?_))
  refine d_remember hst C W g (fun H1 r hr r8 C1 W1 F1 => ?_)
  refine xw C1 ?_
  (repeat (refine And.intro (by first | assumption | rfl | exact Nat.le_of_ble_eq_true rfl | exact Nat.zero_le _ | decide) ?_)); refine And.intro (W1.k.s_w) ?_; (repeat (refine And.intro (by first | assumption | rfl | exact Nat.le_of_ble_eq_true rfl | exact Nat.zero_le _ | decide) ?_))
  refine d_takeBackB hst W1 rfl p1 (fun H2 W2 => ?_)
  repeat (refine And.intro (by first | assumption | rfl | exact Nat.le_of_ble_eq_true rfl | exact Nat.zero_le _ | decide) ?_)
  exact q p r H2 rfl p1 hv hr r8 (C1.world W2.k.1 (Kp.of W2 (fun _ _ => rfl) (g.bkB p1)) (Int.le_refl _) g.b16) (F1.trans (XF.fr W2.k.1 (by omega) (by omega)))
theorem e_send {l : Launch} (hst : l.stackTraces = false) {Q : Option Value → Hp → Prop} {X : String → Hp → Prop} {H : Hp} {x : Nat} {N F : Nat → Int32} {hi : Nat → Nat → Int32} {sv : Nat → Int32} {sm : Nat → Nat → Int32} {hd tx : Nat → Int32} {B : Int} (C : CR H x N F hi sv sm hd tx B) {σ : Nat → Nat} {c0 c1 c2 c3 c4 : Nat} (W : Wv [] H H (x + 1) σ σ N c0 c1 c2 c3 c4) (g : GI N c0 c1 c2 c3 c4 B) (hB : B + 999 ≤ 16000000) {P v : Int32} (x1 : (¬ (0 ≤ P ∧ P < nI c0)) → ∀ n, hn H ≤ n → X "java/lang/IndexOutOfBoundsException" (hxn H n)) (x2 : ((0 ≤ P ∧ P < nI c0) ∧ ¬ (1 ≤ v ∧ v ≤ 999)) → ∀ n, hn H ≤ n → X "java/lang/IllegalArgumentException" (hxn H n)) (x3 : ∀ p H', P = nI p → p < c0 → 1 ≤ v ∧ v ≤ 999 → N (7 + p * 23 + 1) < v → CR H' x N (upd F 7 2) hi sv sm hd tx B → XF x H H' → ∀ n, hn H' ≤ n → X "java/lang/UnsupportedOperationException" (hxn H' n)) (x4 : ∀ p H', P = nI p → p < c0 → 1 ≤ v ∧ v ≤ 999 → ¬ N (7 + p * 23 + 1) < v → c3 = 12 → CR H' x N (upd F 7 1) hi sv sm hd tx B → XF x H H' → ∀ n, hn H' ≤ n → X "java/lang/IllegalStateException" (hxn H' n)) (q : ∀ p r H', P = nI p → p < c0 → 1 ≤ v ∧ v ≤ 999 → ¬ N (7 + p * 23 + 1) < v → c3 < 12 → F 5 = nI r → r ≤ 8 → CR H' x (r_send N p v c3) (upd F 5 (nI (pr r))) (ph hi r N) sv sm hd tx (B + 999) → XF x H H' → Q (some (.int (N 5 + N (7 + p * 23 + 5)))) H') : CX8_send l [.ref x, .int P, .int v] H Q X := by
  have k8 := W.1.1.2
  have k3 := W.1.2.2.2.1.2
  refine eX8_send hst (Nat.le_of_ble_eq_true rfl) (fun K => ?_)
  (repeat (refine And.intro (by first | assumption | rfl | exact Nat.le_of_ble_eq_true rfl | exact Nat.zero_le _ | decide) ?_)); refine And.intro (C.s0) ?_; (repeat (refine And.intro (by first | assumption | rfl | exact Nat.le_of_ble_eq_true rfl | exact Nat.zero_le _ | decide) ?_))
  refine d_needPart hst C W.1.1.1 W.1.1.2 (fun hP => ?_) (fun hP => x1 hP)
  obtain ⟨p, p1, p2⟩ := in9 (by omega) hP
  subst p2
  repeat (refine And.intro (by first | assumption | rfl | exact Nat.le_of_ble_eq_true rfl | exact Nat.zero_le _ | decide) ?_)
  refine d_needRange hst (fun hv => ?_) (fun hv => x2 ⟨hP, hv⟩)
  have hvi : 1 ≤ v.toInt ∧ v.toInt ≤ 999 := ⟨Int32.le_iff_toInt_le.mp hv.1, Int32.le_iff_toInt_le.mp hv.2⟩
  refine xw C ?_
  (repeat (refine And.intro (by first | assumption | rfl | exact Nat.le_of_ble_eq_true rfl | exact Nat.zero_le _ | decide) ?_)); refine And.intro (W.k.s_w) ?_; (repeat (refine And.intro (by first | assumption | rfl | exact Nat.le_of_ble_eq_true rfl | exact Nat.zero_le _ | decide) ?_))
  refine d_obstacleToSending hst W rfl p1 ?_
  by_cases h1 : N (7 + p * 23 + 1) < v
  · rw [if_pos h1]
    refine And.intro (fun z => absurd z (by decide)) (fun _ => ?_)
    refine pI_of C.s0 ?_
    refine And.intro (fun z => absurd rfl z) (fun _ => ?_)
    exact ⟨Nat.le_of_ble_eq_true rfl, Nat.le_of_ble_eq_true rfl, x3 p _ rfl p1 hv h1 (C.rsn 2) (XF.wI (Nat.le_refl x) (by omega))⟩
  · rw [if_neg h1]
    by_cases h2 : c3 < 12
    · rw [if_pos h2]
      refine And.intro (fun _ => ?_) (fun z => absurd rfl z)
      refine And.intro (fun _ => ?_) (fun z => absurd z (by decide))
      refine And.intro (fun _ => ?_) (fun z => absurd z (by decide))
      (repeat (refine And.intro (by first | assumption | rfl | exact Nat.le_of_ble_eq_true rfl | exact Nat.zero_le _ | decide) ?_)); refine And.intro (C.s0) ?_; (repeat (refine And.intro (by first | assumption | rfl | exact Nat.le_of_ble_eq_true rfl | exact Nat.zero_le _ | decide) ?_))
      refine d_remember hst C W g (fun H1 r hr r8 C1 W1 F1 => ?_)
      refine xw C1 ?_
      (repeat (refine And.intro (by first | assumption | rfl | exact Nat.le_of_ble_eq_true rfl | exact Nat.zero_le _ | decide) ?_)); refine And.intro (W1.k.s_w) ?_; (repeat (refine And.intro (by first | assumption | rfl | exact Nat.le_of_ble_eq_true rfl | exact Nat.zero_le _ | decide) ?_))
      refine d_sendBroken hst W1 (fun _ _ => rfl) rfl p1 h2 (fun H2 W2 => ?_)
      repeat (refine And.intro (by first | assumption | rfl | exact Nat.le_of_ble_eq_true rfl | exact Nat.zero_le _ | decide) ?_)
      exact q p r H2 rfl p1 hv h1 h2 hr r8 (C1.world W2.k.1 (Kp.of W2 (fun _ _ => rfl) (g.send p1 h2 (by omega) hB)) (by omega) hB) (F1.trans (XF.fr W2.k.1 (by omega) (by omega)))
    · rw [if_neg h2]
      refine And.intro (fun z => absurd z (by decide)) (fun _ => ?_)
      refine pI_of C.s0 ?_
      refine And.intro (fun _ => ?_) (fun z => absurd z (by decide))
      refine And.intro (fun z => absurd rfl z) (fun _ => ?_)
      exact ⟨Nat.le_of_ble_eq_true rfl, Nat.le_of_ble_eq_true rfl, x4 p _ rfl p1 hv h1 (by omega) (C.rsn 1) (XF.wI (Nat.le_refl x) (by omega))⟩
theorem e_batchRep {l : Launch} (hst : l.stackTraces = false) {Q : Option Value → Hp → Prop} {X : String → Hp → Prop} {H : Hp} {w : Nat} {σ : Nat → Nat} {N : Nat → Int32} {c0 c1 c2 c3 c4 : Nat} (W : Wv [] H H w σ σ N c0 c1 c2 c3 c4) {i : Nat} (hi : i < c3) {O : Int32} (hO : 0 ≤ O ∧ O ≤ 2) (q : ∀ k, O = nI k → k < 3 → Q (some (.int (N (287 + i * 3 + k)))) H) : CX0_number l [.ref (σ (12 + i)), .int O] H Q X := by
  have kc := W.1.2.2.2.1.2
  refine eX0_number hst (Nat.le_of_ble_eq_true rfl) (fun K => ?_)
  refine ⟨fun z => ?_, fun z => ⟨fun y => ?_, fun y => ?_⟩⟩
  · refine iRep W hi (k := 0) (by decide) ?_
    repeat (refine And.intro (by first | assumption | rfl | exact Nat.le_of_ble_eq_true rfl | exact Nat.zero_le _ | decide) ?_)
    exact q 0 (tz (by omega) (by decide)) (by decide)
  · refine iRep W hi (k := 1) (by decide) ?_
    repeat (refine And.intro (by first | assumption | rfl | exact Nat.le_of_ble_eq_true rfl | exact Nat.zero_le _ | decide) ?_)
    exact q 1 (tz (by omega) (by decide)) (by decide)
  · refine iRep W hi (k := 2) (by decide) ?_
    repeat (refine And.intro (by first | assumption | rfl | exact Nat.le_of_ble_eq_true rfl | exact Nat.zero_le _ | decide) ?_)
    have a' : (0 : Int) ≤ O.toInt := Int32.le_iff_toInt_le.mp hO.1
    have b' : O.toInt ≤ 2 := Int32.le_iff_toInt_le.mp hO.2
    exact q 2 (tz (by omega) (by decide)) (by decide)
theorem e_repair {l : Launch} (hst : l.stackTraces = false) {Q : Option Value → Hp → Prop} {X : String → Hp → Prop} {H : Hp} {x : Nat} {N F : Nat → Int32} {hi : Nat → Nat → Int32} {sv : Nat → Int32} {sm : Nat → Nat → Int32} {hd tx : Nat → Int32} {B : Int} (C : CR H x N F hi sv sm hd tx B) {σ : Nat → Nat} {c0 c1 c2 c3 c4 : Nat} (W : Wv [] H H (x + 1) σ σ N c0 c1 c2 c3 c4) (g : GI N c0 c1 c2 c3 c4 B) {P O : Int32} (x1 : (¬ (0 ≤ P ∧ P < nI c3)) → ∀ n, hn H ≤ n → X "java/lang/IndexOutOfBoundsException" (hxn H n)) (x2 : ((0 ≤ P ∧ P < nI c3) ∧ ¬ (0 ≤ O ∧ O ≤ 2)) → ∀ n, hn H ≤ n → X "java/lang/IllegalArgumentException" (hxn H n)) (q : ∀ i k, P = nI i → i < c3 → O = nI k → k < 3 → Q (some (.int (N (287 + i * 3 + k)))) H) : CX8_repair l [.ref x, .int P, .int O] H Q X := by
  have kc := W.1.2.2.2.1.2
  refine eX8_repair hst (Nat.le_of_ble_eq_true rfl) (fun K => ?_)
  refine xw C ?_
  refine gReps W.k ?_
  refine iRS W ?_
  rw [W.1.2.2.2.1.1]
  repeat (refine And.intro (by first | assumption | rfl | exact Nat.le_of_ble_eq_true rfl | exact Nat.zero_le _ | decide) ?_)
  refine d_needIndex hst (fun hP => ?_) (fun hP => x1 hP)
  obtain ⟨i, ii, p2⟩ := in9 (by omega) hP
  subst p2
  repeat (refine And.intro (by first | assumption | rfl | exact Nat.le_of_ble_eq_true rfl | exact Nat.zero_le _ | decide) ?_)
  refine d_needRange hst (fun hv => ?_) (fun hv => x2 ⟨hP, hv⟩)
  refine xw C ?_
  refine gReps W.k ?_
  refine gBR W.k ?_
  refine aRep W.k rfl (show i < 12 by omega) ?_
  (repeat (refine And.intro (by first | assumption | rfl | exact Nat.le_of_ble_eq_true rfl | exact Nat.zero_le _ | decide) ?_)); refine And.intro (W.k.k_rp (show i < 12 by omega)) ?_; (repeat (refine And.intro (by first | assumption | rfl | exact Nat.le_of_ble_eq_true rfl | exact Nat.zero_le _ | decide) ?_))
  refine e_batchRep hst W ii hv (fun k ek hk => ?_)
  repeat (refine And.intro (by first | assumption | rfl | exact Nat.le_of_ble_eq_true rfl | exact Nat.zero_le _ | decide) ?_)
  exact q i k rfl ii ek hk
theorem e_batchOrd {l : Launch} (hst : l.stackTraces = false) {Q : Option Value → Hp → Prop} {X : String → Hp → Prop} {H : Hp} {w : Nat} {σ : Nat → Nat} {N : Nat → Int32} {c0 c1 c2 c3 c4 : Nat} (W : Wv [] H H w σ σ N c0 c1 c2 c3 c4) {i : Nat} (hi : i < c4) {O : Int32} (hO : 0 ≤ O ∧ O ≤ 2) (q : ∀ k, O = nI k → k < 3 → Q (some (.int (N (323 + i * 3 + k)))) H) : CX0_number l [.ref (σ (24 + i)), .int O] H Q X := by
  have kc := W.1.2.2.2.2.1.2
  refine eX0_number hst (Nat.le_of_ble_eq_true rfl) (fun K => ?_)
  refine ⟨fun z => ?_, fun z => ⟨fun y => ?_, fun y => ?_⟩⟩
  · refine iOrd W hi (k := 0) (by decide) ?_
    repeat (refine And.intro (by first | assumption | rfl | exact Nat.le_of_ble_eq_true rfl | exact Nat.zero_le _ | decide) ?_)
    exact q 0 (tz (by omega) (by decide)) (by decide)
  · refine iOrd W hi (k := 1) (by decide) ?_
    repeat (refine And.intro (by first | assumption | rfl | exact Nat.le_of_ble_eq_true rfl | exact Nat.zero_le _ | decide) ?_)
    exact q 1 (tz (by omega) (by decide)) (by decide)
  · refine iOrd W hi (k := 2) (by decide) ?_
    repeat (refine And.intro (by first | assumption | rfl | exact Nat.le_of_ble_eq_true rfl | exact Nat.zero_le _ | decide) ?_)
    have a' : (0 : Int) ≤ O.toInt := Int32.le_iff_toInt_le.mp hO.1
    have b' : O.toInt ≤ 2 := Int32.le_iff_toInt_le.mp hO.2
    exact q 2 (tz (by omega) (by decide)) (by decide)
theorem e_order {l : Launch} (hst : l.stackTraces = false) {Q : Option Value → Hp → Prop} {X : String → Hp → Prop} {H : Hp} {x : Nat} {N F : Nat → Int32} {hi : Nat → Nat → Int32} {sv : Nat → Int32} {sm : Nat → Nat → Int32} {hd tx : Nat → Int32} {B : Int} (C : CR H x N F hi sv sm hd tx B) {σ : Nat → Nat} {c0 c1 c2 c3 c4 : Nat} (W : Wv [] H H (x + 1) σ σ N c0 c1 c2 c3 c4) (g : GI N c0 c1 c2 c3 c4 B) {P O : Int32} (x1 : (¬ (0 ≤ P ∧ P < nI c4)) → ∀ n, hn H ≤ n → X "java/lang/IndexOutOfBoundsException" (hxn H n)) (x2 : ((0 ≤ P ∧ P < nI c4) ∧ ¬ (0 ≤ O ∧ O ≤ 2)) → ∀ n, hn H ≤ n → X "java/lang/IllegalArgumentException" (hxn H n)) (q : ∀ i k, P = nI i → i < c4 → O = nI k → k < 3 → Q (some (.int (N (323 + i * 3 + k)))) H) : CX8_order l [.ref x, .int P, .int O] H Q X := by
  have kc := W.1.2.2.2.2.1.2
  refine eX8_order hst (Nat.le_of_ble_eq_true rfl) (fun K => ?_)
  refine xw C ?_
  refine gOrds W.k ?_
  refine iOS W ?_
  rw [W.1.2.2.2.2.1.1]
  repeat (refine And.intro (by first | assumption | rfl | exact Nat.le_of_ble_eq_true rfl | exact Nat.zero_le _ | decide) ?_)
  refine d_needIndex hst (fun hP => ?_) (fun hP => x1 hP)
  obtain ⟨i, ii, p2⟩ := in9 (by omega) hP
  subst p2
  repeat (refine And.intro (by first | assumption | rfl | exact Nat.le_of_ble_eq_true rfl | exact Nat.zero_le _ | decide) ?_)
  refine d_needRange hst (fun hv => ?_) (fun hv => x2 ⟨hP, hv⟩)
  refine xw C ?_
  refine gOrds W.k ?_
  refine gBO W.k ?_
  refine aOrd W.k rfl (show i < 12 by omega) ?_
  (repeat (refine And.intro (by first | assumption | rfl | exact Nat.le_of_ble_eq_true rfl | exact Nat.zero_le _ | decide) ?_)); refine And.intro (W.k.k_od (show i < 12 by omega)) ?_; (repeat (refine And.intro (by first | assumption | rfl | exact Nat.le_of_ble_eq_true rfl | exact Nat.zero_le _ | decide) ?_))
  refine e_batchOrd hst W ii hv (fun k ek hk => ?_)
  repeat (refine And.intro (by first | assumption | rfl | exact Nat.le_of_ble_eq_true rfl | exact Nat.zero_le _ | decide) ?_)
  exact q i k rfl ii ek hk
theorem e_advance {l : Launch} (hst : l.stackTraces = false) {Q : Option Value → Hp → Prop} {X : String → Hp → Prop} {H : Hp} {x : Nat} {N F : Nat → Int32} {hi : Nat → Nat → Int32} {sv : Nat → Int32} {sm : Nat → Nat → Int32} {hd tx : Nat → Int32} {B : Int} (C : CR H x N F hi sv sm hd tx B) {σ : Nat → Nat} {c0 c1 c2 c3 c4 : Nat} (W : Wv [] H H (x + 1) σ σ N c0 c1 c2 c3 c4) (g : GI N c0 c1 c2 c3 c4 B) {P : Int32} (x1 : (¬ (1 ≤ P ∧ P ≤ 30)) → ∀ n, hn H ≤ n → X "java/lang/IllegalArgumentException" (hxn H n)) (q : ∀ d r H', P = nI d → 1 ≤ d → d ≤ 30 → F 5 = nI r → r ≤ 8 → CR H' x (r_days d N).1 (upd F 5 (nI (pr r))) (ph hi r N) sv sm hd tx B → XF x H H' → Q (some (.int (r_days d N).2)) H') : CX8_advance l [.ref x, .int P] H Q X := by
  refine eX8_advance hst (Nat.le_of_ble_eq_true rfl) (fun K => ?_)
  repeat (refine And.intro (by first | assumption | rfl | exact Nat.le_of_ble_eq_true rfl | exact Nat.zero_le _ | decide) ?_)
  refine d_needRange hst (fun hv => ?_) (fun hv => x1 hv)
  obtain ⟨d, d1, d2⟩ := nI_of2 (n := 30) rfl (fun z => absurd (Int32.le_trans hv.1 (Int32.le_of_lt z)) (by decide)) hv.2
  subst d2
  have d0 : 1 ≤ d := (nI_leI (by decide) (by omega)).mp (show nI 1 ≤ nI d from hv.1)
  (repeat (refine And.intro (by first | assumption | rfl | exact Nat.le_of_ble_eq_true rfl | exact Nat.zero_le _ | decide) ?_)); refine And.intro (C.s0) ?_; (repeat (refine And.intro (by first | assumption | rfl | exact Nat.le_of_ble_eq_true rfl | exact Nat.zero_le _ | decide) ?_))
  refine d_remember hst C W g (fun H1 r hr r8 C1 W1 F1 => ?_)
  refine xw C1 ?_
  (repeat (refine And.intro (by first | assumption | rfl | exact Nat.le_of_ble_eq_true rfl | exact Nat.zero_le _ | decide) ?_)); refine And.intro (W1.k.s_w) ?_; (repeat (refine And.intro (by first | assumption | rfl | exact Nat.le_of_ble_eq_true rfl | exact Nat.zero_le _ | decide) ?_))
  refine d_passDays hst W1 (fun _ _ => rfl) g.ni rfl (by omega) (fun H2 σ2 ρ2 c2' c3' c4' W2 nn2 => ?_)
  repeat (refine And.intro (by first | assumption | rfl | exact Nat.le_of_ble_eq_true rfl | exact Nat.zero_le _ | decide) ?_)
  exact q d r H2 rfl d0 d1 hr r8 (C1.world W2.k.1 (Kp.of W2 nn2 (g.days d W2.1)) (Int.le_refl _) g.b16) (F1.trans (XF.fr W2.k.1 (by omega) (by omega)))
theorem e_stockAfter {l : Launch} (hst : l.stackTraces = false) {Q : Option Value → Hp → Prop} {X : String → Hp → Prop} {H : Hp} {x : Nat} {N F : Nat → Int32} {hi : Nat → Nat → Int32} {sv : Nat → Int32} {sm : Nat → Nat → Int32} {hd tx : Nat → Int32} {B : Int} (C : CR H x N F hi sv sm hd tx B) {σ : Nat → Nat} {c0 c1 c2 c3 c4 : Nat} (W : Wv [] H H (x + 1) σ σ N c0 c1 c2 c3 c4) (g : GI N c0 c1 c2 c3 c4 B) {P O : Int32} (x1 : (¬ (0 ≤ P ∧ P < nI c0)) → ∀ n, hn H ≤ n → X "java/lang/IndexOutOfBoundsException" (hxn H n)) (x2 : ((0 ≤ P ∧ P < nI c0) ∧ ¬ (0 ≤ O ∧ O ≤ 30)) → ∀ n, hn H ≤ n → X "java/lang/IllegalArgumentException" (hxn H n)) (q : ∀ p d H', P = nI p → p < c0 → O = nI d → d ≤ 30 → CR H' x N F hi sv sm hd tx B → XF x H H' → Q (some (.int ((r_days d N).1 (7 + p * 23 + 0)))) H') : CX8_stockAfter l [.ref x, .int P, .int O] H Q X := by
  have k8 := W.1.1.2
  refine eX8_stockAfter hst (Nat.le_of_ble_eq_true rfl) (fun K => ?_)
  (repeat (refine And.intro (by first | assumption | rfl | exact Nat.le_of_ble_eq_true rfl | exact Nat.zero_le _ | decide) ?_)); refine And.intro (C.s0) ?_; (repeat (refine And.intro (by first | assumption | rfl | exact Nat.le_of_ble_eq_true rfl | exact Nat.zero_le _ | decide) ?_))
  refine d_needPart hst C W.1.1.1 W.1.1.2 (fun hP => ?_) (fun hP => x1 hP)
  obtain ⟨p, p1, p2⟩ := in9 (by omega) hP
  subst p2
  repeat (refine And.intro (by first | assumption | rfl | exact Nat.le_of_ble_eq_true rfl | exact Nat.zero_le _ | decide) ?_)
  refine d_needRange hst (fun hv => ?_) (fun hv => x2 ⟨hP, hv⟩)
  obtain ⟨d, d1, d2⟩ := nI_of2 (n := 30) rfl (Int32.not_lt.mpr hv.1) hv.2
  subst d2
  refine xt C ?_
  refine xw C ?_
  have T := C.2.1.2
  obtain ⟨σt, St⟩ := id T
  (repeat (refine And.intro (by first | assumption | rfl | exact Nat.le_of_ble_eq_true rfl | exact Nat.zero_le _ | decide) ?_)); refine And.intro (St.2.1) ?_; (repeat (refine And.intro (by first | assumption | rfl | exact Nat.le_of_ble_eq_true rfl | exact Nat.zero_le _ | decide) ?_))
  refine d_copyK hst T C.2.1.1 (by omega) (fun H1 F1 K1 K2 => ?_)
  obtain ⟨C1, σ1, W1⟩ := C.cpt W g F1 K1
  refine xt C1 ?_
  (repeat (refine And.intro (by first | assumption | rfl | exact Nat.le_of_ble_eq_true rfl | exact Nat.zero_le _ | decide) ?_)); refine And.intro (W1.k.s_w) ?_; (repeat (refine And.intro (by first | assumption | rfl | exact Nat.le_of_ble_eq_true rfl | exact Nat.zero_le _ | decide) ?_))
  refine d_passDays hst W1 (fun _ _ => rfl) g.ni rfl (by omega) (fun H2 σ2 ρ2 c2' c3' c4' W2 nn2 => ?_)
  have C2 := C1.trial W2.k.1 ⟨_, W2.k.2.1⟩
  refine xt C2 ?_
  refine gParts W2.k ?_
  refine aPart W2.k rfl (W.p8 p1) ?_
  refine iPart W2 p1 (k := 0) (by decide) ?_
  repeat (refine And.intro (by first | assumption | rfl | exact Nat.le_of_ble_eq_true rfl | exact Nat.zero_le _ | decide) ?_)
  exact q p d H2 rfl p1 rfl d1 C2 ((XF.fr F1 (by omega) (by omega)).trans (XF.fr W2.k.1 (by omega) (by omega)))
/-- parts among the first n whose movements don't add up -/
def s_aud (N : Nat → Int32) (c3 : Nat) : Nat → Nat
  | 0 => 0
  | n + 1 => s_aud N c3 n + (if s_up N n (s_pcs N 287 (nI n) c3) = true then 0 else 1)
theorem s_aud_le (N : Nat → Int32) (c3 : Nat) : ∀ n, s_aud N c3 n ≤ n
  | 0 => Nat.le_refl _
  | n + 1 => by
    have := s_aud_le N c3 n
    show _ + (if _ then _ else _) ≤ _
    split <;> omega
theorem e_audit {l : Launch} (hst : l.stackTraces = false) {Q : Option Value → Hp → Prop} {X : String → Hp → Prop} {H : Hp} {x : Nat} {N F : Nat → Int32} {hi : Nat → Nat → Int32} {sv : Nat → Int32} {sm : Nat → Nat → Int32} {hd tx : Nat → Int32} {B : Int} (C : CR H x N F hi sv sm hd tx B) {σ : Nat → Nat} {c0 c1 c2 c3 c4 : Nat} (W : Wv [] H H (x + 1) σ σ N c0 c1 c2 c3 c4) (g : GI N c0 c1 c2 c3 c4 B) (q : Q (some (.int (nI (s_aud N c3 c0)))) H) : CX8_audit l [.ref x] H Q X := by
  have k8 := W.1.1.2
  refine eX8_audit hst (Nat.le_of_ble_eq_true rfl) (fun K hK => ?_)
  have hk : ∀ (n i : Nat), i + n = c0 → K 4 [(2, .int (nI i)), (1, .int (nI (s_aud N c3 i))), (0, .ref x)] [] H (0, 0) ∧ K 4 [(1, .int (nI (s_aud N c3 i))), (2, .int (nI i)), (0, .ref x)] [] H (0, 0) := by
    intro n
    induction n with
    | zero =>
      intro i hi
      have ei : i = c0 := by omega
      subst ei
      constructor
      all_goals
        refine hK _ _ _ _ ?_
        refine xw C ?_
        refine iPC W ?_
        rw [W.1.1.1]
        refine And.intro (fun hcc => ?_) (fun hcc => ?_)
        · repeat (refine And.intro (by first | assumption | rfl | exact Nat.le_of_ble_eq_true rfl | exact Nat.zero_le _ | decide) ?_)
          exact q
        · exact absurd (nI_le (by omega) (by omega)) hcc
    | succ n ih =>
      intro i hi
      have i8 : i < 8 := by omega
      obtain ⟨ih1, ih2⟩ := ih (i + 1) (by omega)
      constructor
      all_goals
        refine hK _ _ _ _ ?_
        refine xw C ?_
        refine iPC W ?_
        rw [W.1.1.1]
        refine And.intro (fun hcc => ?_) (fun hcc => ?_)
        · exact absurd hcc (nI_ge (by omega) (by omega))
        · refine xw C ?_
          refine gParts W.k ?_
          refine aPart W.k rfl i8 ?_
          refine xw C ?_
          refine gReps W.k ?_
          (repeat (refine And.intro (by first | assumption | rfl | exact Nat.le_of_ble_eq_true rfl | exact Nat.zero_le _ | decide) ?_)); refine And.intro (W.k.s_reps.2.1) ?_; (repeat (refine And.intro (by first | assumption | rfl | exact Nat.le_of_ble_eq_true rfl | exact Nat.zero_le _ | decide) ?_))
          refine d_piecesOfRep hst W (fun _ _ => rfl) ?_
          (repeat (refine And.intro (by first | assumption | rfl | exact Nat.le_of_ble_eq_true rfl | exact Nat.zero_le _ | decide) ?_)); refine And.intro ((W.k.s_part i i8).2.1) ?_; (repeat (refine And.intro (by first | assumption | rfl | exact Nat.le_of_ble_eq_true rfl | exact Nat.zero_le _ | decide) ?_))
          refine d_addsUp hst W (show i < c0 by omega) ?_
          have e : s_aud N c3 (i + 1) = s_aud N c3 i + (if s_up N i (s_pcs N 287 (nI i) c3) = true then 0 else 1) := rfl
          cases hb : s_up N i (s_pcs N 287 (nI i) c3)
          · rw [hb, if_neg (by decide)] at e
            refine And.intro (fun z => absurd rfl z) (fun _ => ?_)
            first
              | (rw [e, ← nI_1 i, ← nI_1 (s_aud N c3 i)] at ih1; exact ih1)
              | (rw [e, ← nI_1 i, ← nI_1 (s_aud N c3 i)] at ih2; exact ih2)
          · rw [hb, if_pos rfl, Nat.add_zero] at e
            refine And.intro (fun _ => ?_) (fun z => absurd z (by decide))
            first
              | (rw [e, ← nI_1 i] at ih1; exact ih1)
              | (rw [e, ← nI_1 i] at ih2; exact ih2)
  exact (hk c0 0 (by omega)).1
end F9

section F6
theorem b2_eq1 {b : Bool} (h : b2 b ≠ 0) : b = true := by cases b <;> first | rfl | exact absurd rfl h
theorem b2_eq0 {b : Bool} (h : b2 b = 0) : b = false := by cases b <;> first | rfl | exact absurd h (by decide)
theorem e_addKit {l : Launch} (hst : l.stackTraces = false) {Q : Option Value → Hp → Prop} {X : String → Hp → Prop} {H : Hp} {x : Nat} {N F : Nat → Int32} {hi : Nat → Nat → Int32} {sv : Nat → Int32} {sm : Nat → Nat → Int32} {hd tx : Nat → Int32} {B : Int} (C : CR H x N F hi sv sm hd tx B) {σ : Nat → Nat} {c0 c1 c2 c3 c4 : Nat} (W : Wv [] H H (x + 1) σ σ N c0 c1 c2 c3 c4) (g : GI N c0 c1 c2 c3 c4 B) {K9 P v : Int32} (x1 : (¬ ((0 ≤ P ∧ P < nI c0) ∧ 0 ≤ K9 ∧ K9 ≤ nI c1)) → ∀ n, hn H ≤ n → X "java/lang/IndexOutOfBoundsException" (hxn H n)) (x2 : (((0 ≤ P ∧ P < nI c0) ∧ 0 ≤ K9 ∧ K9 ≤ nI c1) ∧ ¬ (1 ≤ v ∧ v ≤ 9)) → ∀ n, hn H ≤ n → X "java/lang/IllegalArgumentException" (hxn H n)) (x3 : (((0 ≤ P ∧ P < nI c0) ∧ 0 ≤ K9 ∧ K9 ≤ nI c1) ∧ (1 ≤ v ∧ v ≤ 9) ∧ ((K9 = nI c1 ∧ c1 = 4) ∨ ∃ k c, K9 = nI k ∧ k < c1 ∧ N (191 + k * 9) = nI c ∧ c ≤ 4 ∧ (c = 4 ∨ s_has N k P c = true))) → ∀ n, hn H ≤ n → X "java/lang/IllegalStateException" (hxn H n))
    (q1 : ∀ s r H', P = nI s → s < c0 → K9 = nI c1 → c1 < 4 → 1 ≤ v ∧ v ≤ 9 → F 5 = nI r → r ≤ 8 → CR H' x (r_addi (r_newk N c1) c1 0 (nI s) v) (upd F 5 (nI (pr r))) (ph hi r N) sv sm hd tx B → XF x H H' → Q (some (.int (nI 1))) H')
    (q2 : ∀ s k c r H', P = nI s → s < c0 → K9 = nI k → k < c1 → N (191 + k * 9) = nI c → c < 4 → s_has N k P c = false → 1 ≤ v ∧ v ≤ 9 → F 5 = nI r → r ≤ 8 → CR H' x (r_addi N k c (nI s) v) (upd F 5 (nI (pr r))) (ph hi r N) sv sm hd tx B → XF x H H' → Q (some (.int (nI (c + 1)))) H') : CX8_addKit l [.ref x, .int K9, .int P, .int v] H Q X := by
  have k8 := W.1.1.2
  have k1 := W.1.2.1.2
  refine eX8_addKit hst (Nat.le_of_ble_eq_true rfl) (fun K => ?_)
  (repeat (refine And.intro (by first | assumption | rfl | exact Nat.le_of_ble_eq_true rfl | exact Nat.zero_le _ | decide) ?_)); refine And.intro (C.s0) ?_; (repeat (refine And.intro (by first | assumption | rfl | exact Nat.le_of_ble_eq_true rfl | exact Nat.zero_le _ | decide) ?_))
  refine d_needPart hst C W.1.1.1 W.1.1.2 (fun hP => ?_) (fun hP => x1 (fun z => hP z.1))
  refine And.intro (fun h1 => ?_) (fun h1 => ?_)
  · exact ⟨Nat.le_of_ble_eq_true rfl, Nat.le_of_ble_eq_true rfl, x1 (fun z => absurd h1 (Int32.not_lt.mpr z.2.1))⟩
  · refine xw C ?_
    refine iKC W ?_
    rw [W.1.2.1.1]
    refine And.intro (fun h2 => ?_) (fun h2 => ?_)
    · have hK : 0 ≤ K9 ∧ K9 ≤ nI c1 := ⟨Int32.not_lt.mp h1, h2⟩
      repeat (refine And.intro (by first | assumption | rfl | exact Nat.le_of_ble_eq_true rfl | exact Nat.zero_le _ | decide) ?_)
      refine d_needRange hst (fun hv => ?_) (fun hv => x2 ⟨⟨hP, hK⟩, hv⟩)
      obtain ⟨s, s1, s2⟩ := in9 (by omega) hP
      obtain ⟨k, kk, ek⟩ : ∃ k, k ≤ c1 ∧ K9 = nI k := by
        obtain ⟨j, j1, j2⟩ := nI_of (Int32.not_lt.mpr hK.1)
        subst j2
        exact ⟨j, (nI_leI j1 (by omega)).mp hK.2, rfl⟩
      subst s2; subst ek
      have hvi : 1 ≤ v.toInt ∧ v.toInt ≤ 9 := ⟨Int32.le_iff_toInt_le.mp hv.1, Int32.le_iff_toInt_le.mp hv.2⟩
      refine And.intro (fun h4 => ?_) (fun h4 => ?_)
      · have k4 : k < 4 := (nI_ltI (by omega) (by decide)).mp (show nI k < nI 4 from h4)
        refine xw C ?_
        refine iKC W ?_
        rw [W.1.2.1.1]
        refine And.intro (fun hne => ?_) (fun hne => ?_)
        · have kl : k < c1 := by
            have : k ≠ c1 := fun z => hne (by rw [z])
            omega
          obtain ⟨c, c4', hc, hit⟩ := W.1.2.2.2.2.2.2.1 k kl
          refine And.intro (fun z => absurd rfl z) (fun _ => ?_)
          refine xw C ?_
          refine gKits W.k ?_
          refine aKit W.k rfl k4 ?_
          (repeat (refine And.intro (by first | assumption | rfl | exact Nat.le_of_ble_eq_true rfl | exact Nat.zero_le _ | decide) ?_)); refine And.intro ((W.k.s_kit k k4).2.1) ?_; (repeat (refine And.intro (by first | assumption | rfl | exact Nat.le_of_ble_eq_true rfl | exact Nat.zero_le _ | decide) ?_))
          refine d_canHold hst W kl hc c4' ?_
          refine And.intro (fun hh => ?_) (fun hh => ?_)
          · have hb := b2_eq1 hh
            rw [Bool.and_eq_true] at hb
            have c4 : c < 4 := of_decide_eq_true hb.2
            have hno : s_has N k (nI s) c = false := by
              have := hb.1
              cases hz : s_has N k (nI s) c
              · rfl
              · rw [hz] at this; exact absurd this (by decide)
            (repeat (refine And.intro (by first | assumption | rfl | exact Nat.le_of_ble_eq_true rfl | exact Nat.zero_le _ | decide) ?_)); refine And.intro (C.s0) ?_; (repeat (refine And.intro (by first | assumption | rfl | exact Nat.le_of_ble_eq_true rfl | exact Nat.zero_le _ | decide) ?_))
            refine d_remember hst C W g (fun H1 r hr r8 C1 W1 F1 => ?_)
            refine xw C1 ?_
            (repeat (refine And.intro (by first | assumption | rfl | exact Nat.le_of_ble_eq_true rfl | exact Nat.zero_le _ | decide) ?_)); refine And.intro (W1.k.s_w) ?_; (repeat (refine And.intro (by first | assumption | rfl | exact Nat.le_of_ble_eq_true rfl | exact Nat.zero_le _ | decide) ?_))
            refine d_addItemOld hst W1 kl hc c4 s1 rfl rfl (fun H2 W2 => ?_)
            repeat (refine And.intro (by first | assumption | rfl | exact Nat.le_of_ble_eq_true rfl | exact Nat.zero_le _ | decide) ?_)
            exact q2 s k c r H2 rfl s1 rfl kl hc c4 hno hv hr r8 (C1.world W2.k.1 (Kp.of W2 (fun _ _ => rfl) (g.addi kl hc c4 s1 hvi)) (Int.le_refl _) g.b16) (F1.trans (XF.fr W2.k.1 (by omega) (by omega)))
          · have hb := b2_eq0 hh
            refine ⟨Nat.le_of_ble_eq_true rfl, Nat.le_of_ble_eq_true rfl, x3 ⟨⟨hP, hK⟩, hv, Or.inr ⟨k, c, rfl, kl, hc, c4', ?_⟩⟩⟩
            cases hz : s_has N k (nI s) c
            · refine Or.inl ?_
              rw [hz] at hb
              have : ¬ c < 4 := fun y => by rw [decide_eq_true y] at hb; exact absurd hb (by decide)
              omega
            · exact Or.inr rfl
        · have kl : k = c1 := (nI_eq (by omega) (by omega)).mp hne
          subst kl
          refine And.intro (fun _ => ?_) (fun z => absurd z (by decide))
          (repeat (refine And.intro (by first | assumption | rfl | exact Nat.le_of_ble_eq_true rfl | exact Nat.zero_le _ | decide) ?_)); refine And.intro (C.s0) ?_; (repeat (refine And.intro (by first | assumption | rfl | exact Nat.le_of_ble_eq_true rfl | exact Nat.zero_le _ | decide) ?_))
          refine d_remember hst C W g (fun H1 r hr r8 C1 W1 F1 => ?_)
          refine xw C1 ?_
          (repeat (refine And.intro (by first | assumption | rfl | exact Nat.le_of_ble_eq_true rfl | exact Nat.zero_le _ | decide) ?_)); refine And.intro (W1.k.s_w) ?_; (repeat (refine And.intro (by first | assumption | rfl | exact Nat.le_of_ble_eq_true rfl | exact Nat.zero_le _ | decide) ?_))
          refine d_addItemNew hst W1 k4 s1 rfl rfl (fun H2 W2 => ?_)
          repeat (refine And.intro (by first | assumption | rfl | exact Nat.le_of_ble_eq_true rfl | exact Nat.zero_le _ | decide) ?_)
          exact q1 s r H2 rfl s1 rfl k4 hv hr r8 (C1.world W2.k.1 (Kp.of W2 (fun _ _ => rfl) ((g.newk k4).addi (Nat.lt_succ_self k) (by unfold r_newk; rw [pk_un (by omega), pk_us]; rfl) (by decide) s1 hvi)) (Int.le_refl _) g.b16) (F1.trans (XF.fr W2.k.1 (by omega) (by omega)))
      · have k4 : k = 4 := by
          have : ¬ k < 4 := fun z => h4 (show nI k < nI 4 from nI_lt z (by decide))
          omega
        exact ⟨Nat.le_of_ble_eq_true rfl, Nat.le_of_ble_eq_true rfl, x3 ⟨⟨hP, hK⟩, hv, Or.inl ⟨by rw [show k = c1 by omega], by omega⟩⟩⟩
    · exact ⟨Nat.le_of_ble_eq_true rfl, Nat.le_of_ble_eq_true rfl, x1 (fun z => h2 z.2.2)⟩
theorem e_available {l : Launch} (hst : l.stackTraces = false) {Q : Option Value → Hp → Prop} {X : String → Hp → Prop} {H : Hp} {x : Nat} {N F : Nat → Int32} {hi : Nat → Nat → Int32} {sv : Nat → Int32} {sm : Nat → Nat → Int32} {hd tx : Nat → Int32} {B : Int} (C : CR H x N F hi sv sm hd tx B) {σ : Nat → Nat} {c0 c1 c2 c3 c4 : Nat} (W : Wv [] H H (x + 1) σ σ N c0 c1 c2 c3 c4) (g : GI N c0 c1 c2 c3 c4 B) {P : Int32} (x1 : (¬ (0 ≤ P ∧ P < nI c0)) → ∀ n, hn H ≤ n → X "java/lang/IndexOutOfBoundsException" (hxn H n)) (q : ∀ p, P = nI p → p < c0 → Q (some (.int (s_av N p (N (7 + p * 23 + 8)).toNatClampNeg))) H) : CX8_available l [.ref x, .int P] H Q X := by
  have k8 := W.1.1.2
  refine eX8_available hst (Nat.le_of_ble_eq_true rfl) (fun K => ?_)
  (repeat (refine And.intro (by first | assumption | rfl | exact Nat.le_of_ble_eq_true rfl | exact Nat.zero_le _ | decide) ?_)); refine And.intro (C.s0) ?_; (repeat (refine And.intro (by first | assumption | rfl | exact Nat.le_of_ble_eq_true rfl | exact Nat.zero_le _ | decide) ?_))
  refine d_needPart hst C W.1.1.1 W.1.1.2 (fun hP => ?_) (fun hP => x1 hP)
  obtain ⟨p, p1, p2⟩ := in9 (by omega) hP
  subst p2
  refine xw C ?_
  (repeat (refine And.intro (by first | assumption | rfl | exact Nat.le_of_ble_eq_true rfl | exact Nat.zero_le _ | decide) ?_)); refine And.intro (W.k.s_w) ?_; (repeat (refine And.intro (by first | assumption | rfl | exact Nat.le_of_ble_eq_true rfl | exact Nat.zero_le _ | decide) ?_))
  refine d_stockInReach hst W rfl p1 ?_
  repeat (refine And.intro (by first | assumption | rfl | exact Nat.le_of_ble_eq_true rfl | exact Nat.zero_le _ | decide) ?_)
  exact q p rfl p1
theorem e_wanted {l : Launch} (hst : l.stackTraces = false) {Q : Option Value → Hp → Prop} {X : String → Hp → Prop} {H : Hp} {x : Nat} {N F : Nat → Int32} {hi : Nat → Nat → Int32} {sv : Nat → Int32} {sm : Nat → Nat → Int32} {hd tx : Nat → Int32} {B : Int} (C : CR H x N F hi sv sm hd tx B) {σ : Nat → Nat} {c0 c1 c2 c3 c4 : Nat} (W : Wv [] H H (x + 1) σ σ N c0 c1 c2 c3 c4) (g : GI N c0 c1 c2 c3 c4 B) {P : Int32} (x1 : (¬ (0 ≤ P ∧ P < nI c0)) → ∀ n, hn H ≤ n → X "java/lang/IndexOutOfBoundsException" (hxn H n)) (q : ∀ p, P = nI p → p < c0 → Q (some (.int (s_want N p))) H) : CX8_wanted l [.ref x, .int P] H Q X := by
  have k8 := W.1.1.2
  refine eX8_wanted hst (Nat.le_of_ble_eq_true rfl) (fun K => ?_)
  (repeat (refine And.intro (by first | assumption | rfl | exact Nat.le_of_ble_eq_true rfl | exact Nat.zero_le _ | decide) ?_)); refine And.intro (C.s0) ?_; (repeat (refine And.intro (by first | assumption | rfl | exact Nat.le_of_ble_eq_true rfl | exact Nat.zero_le _ | decide) ?_))
  refine d_needPart hst C W.1.1.1 W.1.1.2 (fun hP => ?_) (fun hP => x1 hP)
  obtain ⟨p, p1, p2⟩ := in9 (by omega) hP
  subst p2
  refine xw C ?_
  (repeat (refine And.intro (by first | assumption | rfl | exact Nat.le_of_ble_eq_true rfl | exact Nat.zero_le _ | decide) ?_)); refine And.intro (W.k.s_w) ?_; (repeat (refine And.intro (by first | assumption | rfl | exact Nat.le_of_ble_eq_true rfl | exact Nat.zero_le _ | decide) ?_))
  refine d_quantityToOrder hst W (fun _ _ => rfl) (fun _ _ => rfl) (fun _ _ => rfl) rfl p1 ?_
  repeat (refine And.intro (by first | assumption | rfl | exact Nat.le_of_ble_eq_true rfl | exact Nat.zero_le _ | decide) ?_)
  exact q p rfl p1
theorem e_movement {l : Launch} (hst : l.stackTraces = false) {Q : Option Value → Hp → Prop} {X : String → Hp → Prop} {H : Hp} {x : Nat} {N F : Nat → Int32} {hi : Nat → Nat → Int32} {sv : Nat → Int32} {sm : Nat → Nat → Int32} {hd tx : Nat → Int32} {B : Int} (C : CR H x N F hi sv sm hd tx B) {σ : Nat → Nat} {c0 c1 c2 c3 c4 : Nat} (W : Wv [] H H (x + 1) σ σ N c0 c1 c2 c3 c4) (g : GI N c0 c1 c2 c3 c4 B) {P O : Int32} (x1 : (¬ (0 ≤ P ∧ P < nI c0)) → ∀ n, hn H ≤ n → X "java/lang/IndexOutOfBoundsException" (hxn H n)) (x2 : ((0 ≤ P ∧ P < nI c0) ∧ ¬ (0 ≤ O ∧ O ≤ 7)) → ∀ n, hn H ≤ n → X "java/lang/IllegalArgumentException" (hxn H n)) (q : ∀ p k, P = nI p → p < c0 → O = nI k → k < 8 → Q (some (.int (N (7 + p * 23 + (13 + k))))) H) : CX8_movement l [.ref x, .int P, .int O] H Q X := by
  have k8 := W.1.1.2
  refine eX8_movement hst (Nat.le_of_ble_eq_true rfl) (fun K => ?_)
  (repeat (refine And.intro (by first | assumption | rfl | exact Nat.le_of_ble_eq_true rfl | exact Nat.zero_le _ | decide) ?_)); refine And.intro (C.s0) ?_; (repeat (refine And.intro (by first | assumption | rfl | exact Nat.le_of_ble_eq_true rfl | exact Nat.zero_le _ | decide) ?_))
  refine d_needPart hst C W.1.1.1 W.1.1.2 (fun hP => ?_) (fun hP => x1 hP)
  obtain ⟨p, p1, p2⟩ := in9 (by omega) hP
  subst p2
  repeat (refine And.intro (by first | assumption | rfl | exact Nat.le_of_ble_eq_true rfl | exact Nat.zero_le _ | decide) ?_)
  refine d_needRange hst (fun hv => ?_) (fun hv => x2 ⟨hP, hv⟩)
  obtain ⟨k, kk, ek⟩ := nI_of2 (n := 7) rfl (Int32.not_lt.mpr hv.1) hv.2
  subst ek
  refine xw C ?_
  refine gParts W.k ?_
  refine aPart W.k rfl (W.p8 p1) ?_
  refine gMovs W.k (W.p8 p1) ?_
  refine iMov W p1 (k := k) (by omega) rfl ?_
  repeat (refine And.intro (by first | assumption | rfl | exact Nat.le_of_ble_eq_true rfl | exact Nat.zero_le _ | decide) ?_)
  exact q p k rfl p1 rfl (by omega)
theorem e_substitute {l : Launch} (hst : l.stackTraces = false) {Q : Option Value → Hp → Prop} {X : String → Hp → Prop} {H : Hp} {x : Nat} {N F : Nat → Int32} {hi : Nat → Nat → Int32} {sv : Nat → Int32} {sm : Nat → Nat → Int32} {hd tx : Nat → Int32} {B : Int} (C : CR H x N F hi sv sm hd tx B) {σ : Nat → Nat} {c0 c1 c2 c3 c4 : Nat} (W : Wv [] H H (x + 1) σ σ N c0 c1 c2 c3 c4) (g : GI N c0 c1 c2 c3 c4 B) {P O : Int32} (x1 : (¬ (0 ≤ P ∧ P < nI c0)) → ∀ n, hn H ≤ n → X "java/lang/IndexOutOfBoundsException" (hxn H n)) (x2 : (∃ p c, P = nI p ∧ p < c0 ∧ N (7 + p * 23 + 8) = nI c ∧ c ≤ 4 ∧ ¬ (0 ≤ O ∧ O < nI c)) → ∀ n, hn H ≤ n → X "java/util/NoSuchElementException" (hxn H n)) (q : ∀ p c k, P = nI p → p < c0 → N (7 + p * 23 + 8) = nI c → c ≤ 4 → O = nI k → k < c → Q (some (.int (N (7 + p * 23 + (9 + k))))) H) : CX8_substitute l [.ref x, .int P, .int O] H Q X := by
  have k8 := W.1.1.2
  refine eX8_substitute hst (Nat.le_of_ble_eq_true rfl) (fun K => ?_)
  (repeat (refine And.intro (by first | assumption | rfl | exact Nat.le_of_ble_eq_true rfl | exact Nat.zero_le _ | decide) ?_)); refine And.intro (C.s0) ?_; (repeat (refine And.intro (by first | assumption | rfl | exact Nat.le_of_ble_eq_true rfl | exact Nat.zero_le _ | decide) ?_))
  refine d_needPart hst C W.1.1.1 W.1.1.2 (fun hP => ?_) (fun hP => x1 hP)
  obtain ⟨p, p1, p2⟩ := in9 (by omega) hP
  subst p2
  obtain ⟨c, c4', hc, hsub⟩ := W.1.2.2.2.2.2.1 p p1
  refine xw C ?_
  refine gParts W.k ?_
  refine aPart W.k rfl (W.p8 p1) ?_
  refine And.intro (fun h1 => ?_) (fun h1 => ?_)
  · exact ⟨Nat.le_of_ble_eq_true rfl, Nat.le_of_ble_eq_true rfl, x2 ⟨p, c, rfl, p1, hc, c4', fun z => absurd h1 (Int32.not_lt.mpr z.1)⟩⟩
  · refine iSC W p1 ?_
    rw [hc]
    refine And.intro (fun h2 => ?_) (fun h2 => ?_)
    · obtain ⟨k, kk, ek⟩ := in9 (by omega) ⟨Int32.not_lt.mp h1, h2⟩
      subst ek
      refine gSubs W.k (W.p8 p1) ?_
      refine iSub W p1 hc c4' kk rfl ?_
      repeat (refine And.intro (by first | assumption | rfl | exact Nat.le_of_ble_eq_true rfl | exact Nat.zero_le _ | decide) ?_)
      exact q p c k rfl p1 hc c4' rfl kk
    · exact ⟨Nat.le_of_ble_eq_true rfl, Nat.le_of_ble_eq_true rfl, x2 ⟨p, c, rfl, p1, hc, c4', fun z => h2 z.2⟩⟩
theorem e_relation {l : Launch} (hst : l.stackTraces = false) {Q : Option Value → Hp → Prop} {X : String → Hp → Prop} {H : Hp} {x : Nat} {N F : Nat → Int32} {hi : Nat → Nat → Int32} {sv : Nat → Int32} {sm : Nat → Nat → Int32} {hd tx : Nat → Int32} {B : Int} (C : CR H x N F hi sv sm hd tx B) {σ : Nat → Nat} {c0 c1 c2 c3 c4 : Nat} (W : Wv [] H H (x + 1) σ σ N c0 c1 c2 c3 c4) (g : GI N c0 c1 c2 c3 c4 B) {P O : Int32} (x1 : (¬ ((0 ≤ P ∧ P < nI c0) ∧ (0 ≤ O ∧ O < nI c0))) → ∀ n, hn H ≤ n → X "java/lang/IndexOutOfBoundsException" (hxn H n)) (q : ∀ p s c d, P = nI p → p < c0 → O = nI s → s < c0 → N (7 + p * 23 + 8) = nI c → c ≤ 4 → N (7 + s * 23 + 8) = nI d → d ≤ 4 → Q (some (.int ((if s_place N p (nI s) c = -1 then 0 else 1) + (if s_place N s (nI p) d = -1 then 0 else 2)))) H) : CX8_relation l [.ref x, .int P, .int O] H Q X := by
  have k8 := W.1.1.2
  refine eX8_relation hst (Nat.le_of_ble_eq_true rfl) (fun K => ?_)
  (repeat (refine And.intro (by first | assumption | rfl | exact Nat.le_of_ble_eq_true rfl | exact Nat.zero_le _ | decide) ?_)); refine And.intro (C.s0) ?_; (repeat (refine And.intro (by first | assumption | rfl | exact Nat.le_of_ble_eq_true rfl | exact Nat.zero_le _ | decide) ?_))
  refine d_needPart hst C W.1.1.1 W.1.1.2 (fun hP => ?_) (fun hP => x1 (fun z => hP z.1))
  (repeat (refine And.intro (by first | assumption | rfl | exact Nat.le_of_ble_eq_true rfl | exact Nat.zero_le _ | decide) ?_)); refine And.intro (C.s0) ?_; (repeat (refine And.intro (by first | assumption | rfl | exact Nat.le_of_ble_eq_true rfl | exact Nat.zero_le _ | decide) ?_))
  refine d_needPart hst C W.1.1.1 W.1.1.2 (fun hO => ?_) (fun hO => x1 (fun z => hO z.2))
  obtain ⟨p, p1, p2⟩ := in9 (by omega) hP
  obtain ⟨s, s1, s2⟩ := in9 (by omega) hO
  subst p2; subst s2
  obtain ⟨c, c4', hc, -⟩ := W.1.2.2.2.2.2.1 p p1
  obtain ⟨d, d4', hd', -⟩ := W.1.2.2.2.2.2.1 s s1
  have q := q p s c d rfl p1 rfl s1 hc c4' hd' d4'
  refine xw C ?_
  refine gParts W.k ?_
  refine aPart W.k rfl (W.p8 p1) ?_
  (repeat (refine And.intro (by first | assumption | rfl | exact Nat.le_of_ble_eq_true rfl | exact Nat.zero_le _ | decide) ?_)); refine And.intro ((W.k.s_part p (W.p8 p1)).2.1) ?_; (repeat (refine And.intro (by first | assumption | rfl | exact Nat.le_of_ble_eq_true rfl | exact Nat.zero_le _ | decide) ?_))
  refine d_indexOf hst W p1 hc c4' (g.dst p c p1 hc c4').2 ?_
  have snd : ∀ z : Int32, Q (some (.int (z + (if s_place N s (nI p) d = -1 then 0 else 2)))) H → fX8_relation_32 l Q X K (lv_args 0 [.ref x, .int (nI p), .int (nI s)]) [.int z] H (0 + 1 + 1, 0 + 6 + 6) := by
    intro z qz
    refine xw C ?_
    refine gParts W.k ?_
    refine aPart W.k rfl (W.p8 s1) ?_
    (repeat (refine And.intro (by first | assumption | rfl | exact Nat.le_of_ble_eq_true rfl | exact Nat.zero_le _ | decide) ?_)); refine And.intro ((W.k.s_part s (W.p8 s1)).2.1) ?_; (repeat (refine And.intro (by first | assumption | rfl | exact Nat.le_of_ble_eq_true rfl | exact Nat.zero_le _ | decide) ?_))
    refine d_indexOf hst W s1 hd' d4' (g.dst s d s1 hd' d4').2 ?_
    refine And.intro (fun h => ?_) (fun h => ?_)
    · repeat (refine And.intro (by first | assumption | rfl | exact Nat.le_of_ble_eq_true rfl | exact Nat.zero_le _ | decide) ?_)
      rw [if_neg h] at qz
      exact qz
    · repeat (refine And.intro (by first | assumption | rfl | exact Nat.le_of_ble_eq_true rfl | exact Nat.zero_le _ | decide) ?_)
      rw [if_pos h] at qz
      exact qz
  refine And.intro (fun h => ?_) (fun h => ?_)
  · rw [if_neg h] at q
    exact snd 1 q
  · rw [if_pos h] at q
    exact snd 0 q
theorem e_item {l : Launch} (hst : l.stackTraces = false) {Q : Option Value → Hp → Prop} {X : String → Hp → Prop} {H : Hp} {x : Nat} {N F : Nat → Int32} {hi : Nat → Nat → Int32} {sv : Nat → Int32} {sm : Nat → Nat → Int32} {hd tx : Nat → Int32} {B : Int} (C : CR H x N F hi sv sm hd tx B) {σ : Nat → Nat} {c0 c1 c2 c3 c4 : Nat} (W : Wv [] H H (x + 1) σ σ N c0 c1 c2 c3 c4) (g : GI N c0 c1 c2 c3 c4 B) {P O b : Int32} (x1 : (¬ (0 ≤ P ∧ P < nI c1)) → ∀ n, hn H ≤ n → X "java/lang/IndexOutOfBoundsException" (hxn H n)) (x2 : (∃ k c, P = nI k ∧ k < c1 ∧ N (191 + k * 9) = nI c ∧ c ≤ 4 ∧ ¬ (0 ≤ O ∧ O < nI c)) → ∀ n, hn H ≤ n → X "java/lang/IndexOutOfBoundsException" (hxn H n)) (q : ∀ k c i, P = nI k → k < c1 → N (191 + k * 9) = nI c → c ≤ 4 → O = nI i → i < c → Q (some (.int (N (191 + k * 9 + 1 + 2 * i + (if b = 0 then 1 else 0))))) H) : CX8_item l [.ref x, .int P, .int O, .int b] H Q X := by
  have k1 := W.1.2.1.2
  refine eX8_item hst (Nat.le_of_ble_eq_true rfl) (fun K => ?_)
  (repeat (refine And.intro (by first | assumption | rfl | exact Nat.le_of_ble_eq_true rfl | exact Nat.zero_le _ | decide) ?_)); refine And.intro (C.s0) ?_; (repeat (refine And.intro (by first | assumption | rfl | exact Nat.le_of_ble_eq_true rfl | exact Nat.zero_le _ | decide) ?_))
  refine d_needKit hst C W.1.2.1.1 k1 (fun hP => ?_) (fun hP => x1 hP)
  obtain ⟨k, kk, p2⟩ := in9 (by omega) hP
  subst p2
  have k4 : k < 4 := by omega
  obtain ⟨c, c4', hc, hit⟩ := W.1.2.2.2.2.2.2.1 k kk
  refine xw C ?_
  refine gKits W.k ?_
  refine aKit W.k rfl k4 ?_
  refine And.intro (fun h1 => ?_) (fun h1 => ?_)
  · exact ⟨Nat.le_of_ble_eq_true rfl, Nat.le_of_ble_eq_true rfl, x2 ⟨k, c, rfl, kk, hc, c4', fun z => absurd h1 (Int32.not_lt.mpr z.1)⟩⟩
  · refine iKitC W kk ?_
    rw [hc]
    refine And.intro (fun h2 => ?_) (fun h2 => ?_)
    · obtain ⟨i, ii, ei⟩ := in9 (by omega) ⟨Int32.not_lt.mp h1, h2⟩
      subst ei
      have q := q k c i rfl kk hc c4' rfl ii
      refine And.intro (fun hb => ?_) (fun hb => ?_)
      · rw [if_pos hb] at q
        refine gKQ W.k k4 ?_
        refine iKQ W kk hc c4' ii rfl ?_
        repeat (refine And.intro (by first | assumption | rfl | exact Nat.le_of_ble_eq_true rfl | exact Nat.zero_le _ | decide) ?_)
        exact q
      · rw [if_neg hb] at q
        refine gKP W.k k4 ?_
        refine iKP W kk hc c4' ii rfl ?_
        repeat (refine And.intro (by first | assumption | rfl | exact Nat.le_of_ble_eq_true rfl | exact Nat.zero_le _ | decide) ?_)
        exact q
    · exact ⟨Nat.le_of_ble_eq_true rfl, Nat.le_of_ble_eq_true rfl, x2 ⟨k, c, rfl, kk, hc, c4', fun z => h2 z.2⟩⟩
end F6

section F5
theorem Kp.wv {h : Hp} {w : Nat} {N : Nat → Int32} {B : Int} {c0 c1 c2 c3 c4 : Nat} (K : Kp h w N B) (wf : WFc N c0 c1 c2 c3 c4) : ∃ σ, Wv [] h h w σ σ N c0 c1 c2 c3 c4 ∧ GI N c0 c1 c2 c3 c4 B := by
  obtain ⟨σ, d0, d1, d2, d3, d4, W, g⟩ := K
  obtain ⟨u0, u1, u2, u3, u4⟩ := wf.uniq W.1
  subst u0; subst u1; subst u2; subst u3; subst u4
  exact ⟨σ, W, g⟩
theorem CR.wvs {H : Hp} {x : Nat} {N F : Nat → Int32} {hi : Nat → Nat → Int32} {sv : Nat → Int32} {sm : Nat → Nat → Int32} {hd tx : Nat → Int32} {B : Int} (C : CR H x N F hi sv sm hd tx B) {c0 c1 c2 c3 c4 : Nat} (wf : WFc N c0 c1 c2 c3 c4) : ∃ σ, Wv [] H H (x + 1) σ σ N c0 c1 c2 c3 c4 ∧ GI N c0 c1 c2 c3 c4 B := C.2.1.1.wv wf
theorem GI.zero {B : Int} (hB : 24975 ≤ B) (hB2 : B ≤ 16000000) : GI (fun _ => 0) 0 0 0 0 0 B := by
  refine ⟨⟨⟨⟨rfl, by decide⟩, ⟨rfl, by decide⟩, ⟨rfl, by decide⟩, ⟨rfl, by decide⟩, ⟨rfl, by decide⟩, fun p hp => absurd hp (Nat.not_lt_zero p), fun p hp => absurd hp (Nat.not_lt_zero p), fun p hp => absurd hp (Nat.not_lt_zero p), fun p hp => absurd hp (Nat.not_lt_zero p), fun p hp => absurd hp (Nat.not_lt_zero p)⟩, fun p hp => absurd hp (Nat.not_lt_zero p), fun p hp => absurd hp (Nat.not_lt_zero p), fun p hp => absurd hp (Nat.not_lt_zero p), fun p hp => absurd hp (Nat.not_lt_zero p), fun p hp => absurd hp (Nat.not_lt_zero p), fun p hp => absurd hp (Nat.not_lt_zero p), fun p hp => absurd hp (Nat.not_lt_zero p), hB, by omega⟩, fun p c hp => absurd hp (Nat.not_lt_zero p), fun k c i hk => absurd hk (Nat.not_lt_zero k), fun p hp => absurd hp (Nat.not_lt_zero p), hB2⟩
theorem d_forget {l : Launch} (hst : l.stackTraces = false) {Q : Option Value → Hp → Prop} {X : String → Hp → Prop} {H : Hp} {x : Nat} {N F : Nat → Int32} {hi : Nat → Nat → Int32} {sv : Nat → Int32} {sm : Nat → Nat → Int32} {hd tx : Nat → Int32} {B : Int} (C : CR H x N F hi sv sm hd tx B) (q : ∀ H', CR H' x N (upd F 5 0) hi sv sm hd tx B → XF x H H' → Q none H') : CX8_forgetChanges l [.ref x] H Q X := by
  obtain ⟨S, ⟨K0, T⟩, V, ⟨o, r, o8, r8, a1, a2, a3, a4, a5⟩, I, ⟨n, n1, n2, n3, n4⟩, M⟩ := id C
  refine eX8_forgetChanges hst (Nat.le_of_ble_eq_true rfl) (fun K => ?_)
  refine pI_of C.s0 ?_
  refine pI_of C.s0 ?_
  repeat (refine And.intro (by first | assumption | rfl | exact Nat.le_of_ble_eq_true rfl | exact Nat.zero_le _ | decide) ?_)
  have sm2 : ∀ a n, x < a → Sm H (wI (wI H x 5 0) x 6 0) a n := fun a n ha b h1 h2 => ⟨rfl, rfl, (hI_wI_o (by omega)).trans (hI_wI_o (by omega))⟩
  have k0 : ∀ k, k ≠ 5 → k ≠ 6 → hI (wI (wI H x 5 0) x 6 0) x k = hI H x k := fun k h5 h6 => (hI_wI_k h6).trans (hI_wI_k h5)
  refine q _ ⟨S.same (fun b hb => ⟨rfl, rfl⟩), ⟨K0.same (sm2 _ _ (by omega)), T.same (sm2 _ _ (by omega))⟩, ⟨V.1.same (sm2 _ _ (by omega)), by rw [k0 3 (by decide) (by decide), pk_un (by decide)]; exact V.2.1, by rw [pk_un (by decide)]; exact V.2.2.1, fun z => (V.2.2.2 (by rw [pk_un (by decide)] at z; exact z)).same (sm2 _ _ (by omega))⟩, ⟨0, 0, by decide, by decide, (hI_wI_k (by decide)).trans hI_wI_s, hI_wI_s, pk_us, fun k hk => (a4 k hk).same (sm2 _ _ (by omega)), fun k hk => absurd hk (Nat.not_lt_zero k)⟩, ?_, ⟨n, n1, by rw [pk_un (by decide)]; exact n2, by rw [hI_wI_o (by omega), hI_wI_o (by omega)]; exact n3, fun k hk => by rw [hI_wI_o (by omega), hI_wI_o (by omega)]; exact n4 k hk⟩, M.same (fun i hi => (hI_wI_o (by omega)).trans (hI_wI_o (by omega)))⟩ ((XF.wI (Nat.le_refl x) (by omega)).trans (XF.wI (Nat.le_refl x) (by omega)))
  unfold XI
  rw [k0 8 (by decide) (by decide), k0 9 (by decide) (by decide), k0 10 (by decide) (by decide), k0 11 (by decide) (by decide), k0 12 (by decide) (by decide), pk_un (by decide), pk_un (by decide), pk_un (by decide), pk_un (by decide), pk_un (by decide)]
  exact I
theorem e_clear {l : Launch} (hst : l.stackTraces = false) {Q : Option Value → Hp → Prop} {X : String → Hp → Prop} {H : Hp} {x : Nat} {N F : Nat → Int32} {hi : Nat → Nat → Int32} {sv : Nat → Int32} {sm : Nat → Nat → Int32} {hd tx : Nat → Int32} {B : Int} (C : CR H x N F hi sv sm hd tx B) {σ : Nat → Nat} {c0 c1 c2 c3 c4 : Nat} (W : Wv [] H H (x + 1) σ σ N c0 c1 c2 c3 c4) (g : GI N c0 c1 c2 c3 c4 B) (q : ∀ H', CR H' x (fun _ => 0) (upd F 5 0) hi sv sm hd tx B → XF x H H' → Q (some (.int (N 0))) H') : CX8_clear l [.ref x] H Q X := by
  refine eX8_clear hst (Nat.le_of_ble_eq_true rfl) (fun K => ?_)
  refine xw C ?_
  refine iPC W ?_
  refine xw C ?_
  (repeat (refine And.intro (by first | assumption | rfl | exact Nat.le_of_ble_eq_true rfl | exact Nat.zero_le _ | decide) ?_)); refine And.intro (W.k.s_w) ?_; (repeat (refine And.intro (by first | assumption | rfl | exact Nat.le_of_ble_eq_true rfl | exact Nat.zero_le _ | decide) ?_))
  refine d_makeEmpty hst W.k (fun H1 W1 => ?_)
  have C1 := C.world W1.k.1 (Kp.of W1 (fun _ _ => rfl) (GI.zero g.ni.bb.1 g.b16)) (Int.le_refl _) g.b16
  (repeat (refine And.intro (by first | assumption | rfl | exact Nat.le_of_ble_eq_true rfl | exact Nat.zero_le _ | decide) ?_)); refine And.intro (C1.s0) ?_; (repeat (refine And.intro (by first | assumption | rfl | exact Nat.le_of_ble_eq_true rfl | exact Nat.zero_le _ | decide) ?_))
  refine d_forget hst C1 (fun H2 C2 F2 => ?_)
  repeat (refine And.intro (by first | assumption | rfl | exact Nat.le_of_ble_eq_true rfl | exact Nat.zero_le _ | decide) ?_)
  exact q H2 C2 ((XF.fr W1.k.1 (by omega) (by omega)).trans F2)
theorem e_setYield {l : Launch} (hst : l.stackTraces = false) {Q : Option Value → Hp → Prop} {X : String → Hp → Prop} {H : Hp} {x : Nat} {N F : Nat → Int32} {hi : Nat → Nat → Int32} {sv : Nat → Int32} {sm : Nat → Nat → Int32} {hd tx : Nat → Int32} {B : Int} (C : CR H x N F hi sv sm hd tx B) {σ : Nat → Nat} {c0 c1 c2 c3 c4 : Nat} (W : Wv [] H H (x + 1) σ σ N c0 c1 c2 c3 c4) (g : GI N c0 c1 c2 c3 c4 B) {P y : Int32} (x1 : (¬ (0 ≤ P ∧ P < nI c0)) → ∀ n, hn H ≤ n → X "java/lang/IndexOutOfBoundsException" (hxn H n)) (x2 : ((0 ≤ P ∧ P < nI c0) ∧ ¬ (0 ≤ y ∧ y ≤ 100)) → ∀ n, hn H ≤ n → X "java/lang/IllegalArgumentException" (hxn H n)) (q : ∀ p r H', P = nI p → p < c0 → 0 ≤ y ∧ y ≤ 100 → F 5 = nI r → r ≤ 8 → CR H' x (upd N (7 + p * 23 + 6) y) (upd F 5 (nI (pr r))) (ph hi r N) sv sm hd tx B → XF x H H' → Q (some (.int (N (7 + p * 23 + 6)))) H') : CX8_setYield l [.ref x, .int P, .int y] H Q X := by
  refine eX8_setYield hst (Nat.le_of_ble_eq_true rfl) (fun K => ?_)
  (repeat (refine And.intro (by first | assumption | rfl | exact Nat.le_of_ble_eq_true rfl | exact Nat.zero_le _ | decide) ?_)); refine And.intro (C.s0) ?_; (repeat (refine And.intro (by first | assumption | rfl | exact Nat.le_of_ble_eq_true rfl | exact Nat.zero_le _ | decide) ?_))
  refine d_needPart hst C W.1.1.1 W.1.1.2 (fun hP => ?_) (fun hP => x1 hP)
  repeat (refine And.intro (by first | assumption | rfl | exact Nat.le_of_ble_eq_true rfl | exact Nat.zero_le _ | decide) ?_)
  refine d_needRange hst (fun hy => ?_) (fun hy => x2 ⟨hP, hy⟩)
  (repeat (refine And.intro (by first | assumption | rfl | exact Nat.le_of_ble_eq_true rfl | exact Nat.zero_le _ | decide) ?_)); refine And.intro (C.s0) ?_; (repeat (refine And.intro (by first | assumption | rfl | exact Nat.le_of_ble_eq_true rfl | exact Nat.zero_le _ | decide) ?_))
  refine d_remember hst C W g (fun H1 r hr r8 C1 W1 F1 => ?_)
  obtain ⟨p, p1, p2⟩ := in9 (by have := W.1.1.2; omega) hP
  subst p2
  refine xw C1 ?_
  refine gParts W1.k ?_
  refine aPart W1.k rfl (W.p8 p1) ?_
  refine iPart W1 p1 (k := 6) (by decide) ?_
  refine wPart W1 p1 (k := 6) (by decide) (fun H2 W2 => ?_)
  repeat (refine And.intro (by first | assumption | rfl | exact Nat.le_of_ble_eq_true rfl | exact Nat.zero_le _ | decide) ?_)
  refine q p r H2 rfl p1 hy hr r8 (C1.world W2.k.1 (Kp.of W2 (fun _ _ => rfl) (g.pset p1 (fun j h1 h2 h3 => pk_un h3) ?_)) (Int.le_refl _) g.b16) (F1.trans (XF.fr W2.k.1 (by omega) (by omega)))
  have := (g.ni.pt p p1).2
  unfold Pt
  rw [pk_us, pk_un (by omega), pk_un (by omega)]
  exact ⟨⟨Int32.le_iff_toInt_le.mp hy.1, Int32.le_iff_toInt_le.mp hy.2⟩, this⟩
theorem e_setBounds {l : Launch} (hst : l.stackTraces = false) {Q : Option Value → Hp → Prop} {X : String → Hp → Prop} {H : Hp} {x : Nat} {N F : Nat → Int32} {hi : Nat → Nat → Int32} {sv : Nat → Int32} {sm : Nat → Nat → Int32} {hd tx : Nat → Int32} {B : Int} (C : CR H x N F hi sv sm hd tx B) {σ : Nat → Nat} {c0 c1 c2 c3 c4 : Nat} (W : Wv [] H H (x + 1) σ σ N c0 c1 c2 c3 c4) (g : GI N c0 c1 c2 c3 c4 B) {P a b : Int32} (x1 : (¬ (0 ≤ P ∧ P < nI c0)) → ∀ n, hn H ≤ n → X "java/lang/IndexOutOfBoundsException" (hxn H n)) (x2 : ((0 ≤ P ∧ P < nI c0) ∧ ¬ ((0 ≤ a ∧ a ≤ 999) ∧ a ≤ b ∧ b ≤ 999)) → ∀ n, hn H ≤ n → X "java/lang/IllegalArgumentException" (hxn H n)) (q : ∀ p r H', P = nI p → p < c0 → (0 ≤ a ∧ a ≤ 999) ∧ a ≤ b ∧ b ≤ 999 → F 5 = nI r → r ≤ 8 → CR H' x (upd (upd N (7 + p * 23 + 2) a) (7 + p * 23 + 3) b) (upd F 5 (nI (pr r))) (ph hi r N) sv sm hd tx B → XF x H H' → Q (some (.int (N (7 + p * 23 + 2)))) H') : CX8_setBounds l [.ref x, .int P, .int a, .int b] H Q X := by
  refine eX8_setBounds hst (Nat.le_of_ble_eq_true rfl) (fun K => ?_)
  (repeat (refine And.intro (by first | assumption | rfl | exact Nat.le_of_ble_eq_true rfl | exact Nat.zero_le _ | decide) ?_)); refine And.intro (C.s0) ?_; (repeat (refine And.intro (by first | assumption | rfl | exact Nat.le_of_ble_eq_true rfl | exact Nat.zero_le _ | decide) ?_))
  refine d_needPart hst C W.1.1.1 W.1.1.2 (fun hP => ?_) (fun hP => x1 hP)
  repeat (refine And.intro (by first | assumption | rfl | exact Nat.le_of_ble_eq_true rfl | exact Nat.zero_le _ | decide) ?_)
  refine d_needRange hst (fun hy => ?_) (fun hy => x2 ⟨hP, fun z => hy z.1⟩)
  repeat (refine And.intro (by first | assumption | rfl | exact Nat.le_of_ble_eq_true rfl | exact Nat.zero_le _ | decide) ?_)
  refine d_needRange hst (fun hz => ?_) (fun hz => x2 ⟨hP, fun z => hz z.2⟩)
  (repeat (refine And.intro (by first | assumption | rfl | exact Nat.le_of_ble_eq_true rfl | exact Nat.zero_le _ | decide) ?_)); refine And.intro (C.s0) ?_; (repeat (refine And.intro (by first | assumption | rfl | exact Nat.le_of_ble_eq_true rfl | exact Nat.zero_le _ | decide) ?_))
  refine d_remember hst C W g (fun H1 r hr r8 C1 W1 F1 => ?_)
  obtain ⟨p, p1, p2⟩ := in9 (by have := W.1.1.2; omega) hP
  subst p2
  refine xw C1 ?_
  refine gParts W1.k ?_
  refine aPart W1.k rfl (W.p8 p1) ?_
  refine iPart W1 p1 (k := 2) (by decide) ?_
  refine wPart W1 p1 (k := 2) (by decide) (fun H2 W2 => ?_)
  refine wPart W2 p1 (k := 3) (by decide) (fun H3 W3 => ?_)
  repeat (refine And.intro (by first | assumption | rfl | exact Nat.le_of_ble_eq_true rfl | exact Nat.zero_le _ | decide) ?_)
  refine q p r H3 rfl p1 ⟨hy, hz⟩ hr r8 (C1.world W3.k.1 (Kp.of W3 (fun _ _ => rfl) (g.pset p1 (fun j h1 h2 h3 => (pk_un h2).trans (pk_un h1)) ?_)) (Int.le_refl _) g.b16) (F1.trans (XF.fr W3.k.1 (by omega) (by omega)))
  have := (g.ni.pt p p1).1
  unfold Pt
  rw [pk_us, pk_un (by omega), pk_un (by omega), pk_un (by omega), pk_us]
  exact ⟨this, Int32.le_iff_toInt_le.mp hy.1, Int32.le_iff_toInt_le.mp hz.1, Int32.le_iff_toInt_le.mp hz.2⟩
theorem e_addPart {l : Launch} (hst : l.stackTraces = false) {Q : Option Value → Hp → Prop} {X : String → Hp → Prop} {H : Hp} {x : Nat} {N F : Nat → Int32} {hi : Nat → Nat → Int32} {sv : Nat → Int32} {sm : Nat → Nat → Int32} {hd tx : Nat → Int32} {B : Int} (C : CR H x N F hi sv sm hd tx B) {σ : Nat → Nat} {c0 c1 c2 c3 c4 : Nat} (W : Wv [] H H (x + 1) σ σ N c0 c1 c2 c3 c4) (g : GI N c0 c1 c2 c3 c4 B) {s ol rl y : Int32} (x1 : (¬ ((0 ≤ s ∧ s ≤ 999) ∧ (1 ≤ ol ∧ ol ≤ 9) ∧ (1 ≤ rl ∧ rl ≤ 9) ∧ 0 ≤ y ∧ y ≤ 100)) → ∀ n, hn H ≤ n → X "java/lang/IllegalArgumentException" (hxn H n)) (x2 : (((0 ≤ s ∧ s ≤ 999) ∧ (1 ≤ ol ∧ ol ≤ 9) ∧ (1 ≤ rl ∧ rl ≤ 9) ∧ 0 ≤ y ∧ y ≤ 100) ∧ ¬ c0 < 8) → ∀ n, hn H ≤ n → X "java/lang/IllegalStateException" (hxn H n)) (q : ∀ r H', ((0 ≤ s ∧ s ≤ 999) ∧ (1 ≤ ol ∧ ol ≤ 9) ∧ (1 ≤ rl ∧ rl ≤ 9) ∧ 0 ≤ y ∧ y ≤ 100) → c0 < 8 → F 5 = nI r → r ≤ 8 → CR H' x (r_addp N c0 s ol rl y) (upd F 5 (nI (pr r))) (ph hi r N) sv sm hd tx B → XF x H H' → Q (some (.int (nI c0))) H') : CX8_addPart l [.ref x, .int s, .int ol, .int rl, .int y] H Q X := by
  have k8 := W.1.1.2
  refine eX8_addPart hst (Nat.le_of_ble_eq_true rfl) (fun K => ?_)
  repeat (refine And.intro (by first | assumption | rfl | exact Nat.le_of_ble_eq_true rfl | exact Nat.zero_le _ | decide) ?_)
  refine d_needRange hst (fun h1 => ?_) (fun hy => x1 (fun z => hy z.1))
  repeat (refine And.intro (by first | assumption | rfl | exact Nat.le_of_ble_eq_true rfl | exact Nat.zero_le _ | decide) ?_)
  refine d_needRange hst (fun h2 => ?_) (fun hy => x1 (fun z => hy z.2.1))
  repeat (refine And.intro (by first | assumption | rfl | exact Nat.le_of_ble_eq_true rfl | exact Nat.zero_le _ | decide) ?_)
  refine d_needRange hst (fun h3 => ?_) (fun hy => x1 (fun z => hy z.2.2.1))
  repeat (refine And.intro (by first | assumption | rfl | exact Nat.le_of_ble_eq_true rfl | exact Nat.zero_le _ | decide) ?_)
  refine d_needRange hst (fun h4 => ?_) (fun hy => x1 (fun z => hy z.2.2.2))
  refine xw C ?_
  refine iPC W ?_
  rw [W.1.1.1]
  refine And.intro (fun hc => ?_) (fun hc => ?_)
  · have c8 : c0 < 8 := (nI_ltI (by omega) (by decide)).mp (show nI c0 < nI 8 from hc)
    (repeat (refine And.intro (by first | assumption | rfl | exact Nat.le_of_ble_eq_true rfl | exact Nat.zero_le _ | decide) ?_)); refine And.intro (C.s0) ?_; (repeat (refine And.intro (by first | assumption | rfl | exact Nat.le_of_ble_eq_true rfl | exact Nat.zero_le _ | decide) ?_))
    refine d_remember hst C W g (fun H1 r hr r8 C1 W1 F1 => ?_)
    refine xw C1 ?_
    refine gParts W1.k ?_
    refine aPart W1.k rfl c8 ?_
    (repeat (refine And.intro (by first | assumption | rfl | exact Nat.le_of_ble_eq_true rfl | exact Nat.zero_le _ | decide) ?_)); refine And.intro ((W1.k.s_part c0 c8).2.1) ?_; (repeat (refine And.intro (by first | assumption | rfl | exact Nat.le_of_ble_eq_true rfl | exact Nat.zero_le _ | decide) ?_))
    refine d_beginNew hst W1 c8 (fun H2 W2 => ?_)
    refine gR_of ((congrFun W2.1.2.1 x).trans C1.s0) ((congrFun (W2.1.2.2.2 x (by omega)).2 0).trans C1.1.2.2.1) (by omega) ?_
    refine yPC W2 (by rw [nI_1]; rfl) (fun H3 W3 => ?_)
    have V3 := Wv.addp W3 W1.1 c8
    repeat (refine And.intro (by first | assumption | rfl | exact Nat.le_of_ble_eq_true rfl | exact Nat.zero_le _ | decide) ?_)
    exact q r H3 ⟨h1, h2, h3, h4⟩ c8 hr r8 (C1.world V3.k.1 (Kp.of V3 (fun _ _ => rfl) (g.addp c8 ⟨Int32.le_iff_toInt_le.mp h1.1, Int32.le_iff_toInt_le.mp h1.2⟩ ⟨Int32.le_iff_toInt_le.mp h4.1, Int32.le_iff_toInt_le.mp h4.2⟩)) (Int.le_refl _) g.b16) (F1.trans (XF.fr V3.k.1 (by omega) (by omega)))
  · exact ⟨Nat.le_of_ble_eq_true rfl, Nat.le_of_ble_eq_true rfl, x2 ⟨⟨h1, h2, h3, h4⟩, fun z => hc (show nI c0 < nI 8 from nI_lt z (by decide))⟩⟩
theorem e_addSubstitute {l : Launch} (hst : l.stackTraces = false) {Q : Option Value → Hp → Prop} {X : String → Hp → Prop} {H : Hp} {x : Nat} {N F : Nat → Int32} {hi : Nat → Nat → Int32} {sv : Nat → Int32} {sm : Nat → Nat → Int32} {hd tx : Nat → Int32} {B : Int} (C : CR H x N F hi sv sm hd tx B) {σ : Nat → Nat} {c0 c1 c2 c3 c4 : Nat} (W : Wv [] H H (x + 1) σ σ N c0 c1 c2 c3 c4) (g : GI N c0 c1 c2 c3 c4 B) {P O : Int32} (x1 : (¬ ((0 ≤ P ∧ P < nI c0) ∧ (0 ≤ O ∧ O < nI c0))) → ∀ n, hn H ≤ n → X "java/lang/IndexOutOfBoundsException" (hxn H n)) (x2 : (((0 ≤ P ∧ P < nI c0) ∧ (0 ≤ O ∧ O < nI c0)) ∧ P = O) → ∀ n, hn H ≤ n → X "java/lang/IllegalArgumentException" (hxn H n)) (x3 : (((0 ≤ P ∧ P < nI c0) ∧ (0 ≤ O ∧ O < nI c0)) ∧ P ≠ O ∧ ∃ p c, P = nI p ∧ p < c0 ∧ N (7 + p * 23 + 8) = nI c ∧ c ≤ 4 ∧ ¬ (c < 4 ∧ s_place N p O c = -1)) → ∀ n, hn H ≤ n → X "java/lang/IllegalStateException" (hxn H n)) (q : ∀ p c s r H', P = nI p → p < c0 → O = nI s → s < c0 → p ≠ s → N (7 + p * 23 + 8) = nI c → c < 4 → s_place N p O c = -1 → F 5 = nI r → r ≤ 8 → CR H' x (r_adds N p c (nI s)) (upd F 5 (nI (pr r))) (ph hi r N) sv sm hd tx B → XF x H H' → Q (some (.int (nI (c + 1)))) H') : CX8_addSubstitute l [.ref x, .int P, .int O] H Q X := by
  have k8 := W.1.1.2
  refine eX8_addSubstitute hst (Nat.le_of_ble_eq_true rfl) (fun K => ?_)
  (repeat (refine And.intro (by first | assumption | rfl | exact Nat.le_of_ble_eq_true rfl | exact Nat.zero_le _ | decide) ?_)); refine And.intro (C.s0) ?_; (repeat (refine And.intro (by first | assumption | rfl | exact Nat.le_of_ble_eq_true rfl | exact Nat.zero_le _ | decide) ?_))
  refine d_needPart hst C W.1.1.1 W.1.1.2 (fun hP => ?_) (fun hP => x1 (fun z => hP z.1))
  (repeat (refine And.intro (by first | assumption | rfl | exact Nat.le_of_ble_eq_true rfl | exact Nat.zero_le _ | decide) ?_)); refine And.intro (C.s0) ?_; (repeat (refine And.intro (by first | assumption | rfl | exact Nat.le_of_ble_eq_true rfl | exact Nat.zero_le _ | decide) ?_))
  refine d_needPart hst C W.1.1.1 W.1.1.2 (fun hO => ?_) (fun hO => x1 (fun z => hO z.2))
  refine And.intro (fun hne => ?_) (fun hne => ?_)
  · obtain ⟨p, p1, p2⟩ := in9 (by omega) hP
    obtain ⟨s, s1, s2⟩ := in9 (by omega) hO
    subst p2; subst s2
    have ne : p ≠ s := fun z => hne (by rw [z])
    obtain ⟨c, c4', hc, hsub⟩ := W.1.2.2.2.2.2.1 p p1
    obtain ⟨d1, d2⟩ := g.dst p c p1 hc c4'
    refine xw C ?_
    refine gParts W.k ?_
    refine aPart W.k rfl (W.p8 p1) ?_
    refine iSC W p1 ?_
    rw [hc]
    refine And.intro (fun h4 => ?_) (fun h4 => ?_)
    · exact ⟨Nat.le_of_ble_eq_true rfl, Nat.le_of_ble_eq_true rfl, x3 ⟨⟨hP, hO⟩, hne, p, c, rfl, p1, hc, c4', fun z => absurd (show nI 4 ≤ nI c from h4) (nI_ge z.1 (by decide))⟩⟩
    · have c4 : c < 4 := Classical.byContradiction fun z => h4 (show nI 4 ≤ nI c from nI_le (by omega) (by omega))
      (repeat (refine And.intro (by first | assumption | rfl | exact Nat.le_of_ble_eq_true rfl | exact Nat.zero_le _ | decide) ?_)); refine And.intro ((W.k.s_part p (W.p8 p1)).2.1) ?_; (repeat (refine And.intro (by first | assumption | rfl | exact Nat.le_of_ble_eq_true rfl | exact Nat.zero_le _ | decide) ?_))
      refine d_indexOf hst W p1 hc c4' d2 ?_
      refine And.intro (fun h5 => ?_) (fun h5 => ?_)
      · (repeat (refine And.intro (by first | assumption | rfl | exact Nat.le_of_ble_eq_true rfl | exact Nat.zero_le _ | decide) ?_)); refine And.intro (C.s0) ?_; (repeat (refine And.intro (by first | assumption | rfl | exact Nat.le_of_ble_eq_true rfl | exact Nat.zero_le _ | decide) ?_))
        refine d_remember hst C W g (fun H1 r hr r8 C1 W1 F1 => ?_)
        (repeat (refine And.intro (by first | assumption | rfl | exact Nat.le_of_ble_eq_true rfl | exact Nat.zero_le _ | decide) ?_)); refine And.intro ((W1.k.s_part p (W.p8 p1)).2.1) ?_; (repeat (refine And.intro (by first | assumption | rfl | exact Nat.le_of_ble_eq_true rfl | exact Nat.zero_le _ | decide) ?_))
        refine d_addSub hst W1 p1 hc c4 s1 rfl (fun H2 W2 => ?_)
        refine iSC W2 p1 ?_
        have e8 : r_adds N p c (nI s) (7 + p * 23 + 8) = nI (c + 1) := by
          unfold r_adds
          rw [pk_us]; exact nI_1 c
        rw [e8]
        repeat (refine And.intro (by first | assumption | rfl | exact Nat.le_of_ble_eq_true rfl | exact Nat.zero_le _ | decide) ?_)
        have hno : ∀ i, i < c → N (7 + p * 23 + (9 + i)) ≠ nI s := fun i hi y => by
          have := place_at (N := N) (p := p) (i := i) (o := nI s) y c hi (fun j h1 h2 z => d2 i j h1 h2 (y.trans z.symm))
          rw [this] at h5
          exact absurd h5 (fun z => absurd (show nI i < 0 by rw [z]; decide) (nI_pos (by omega)))
        exact q p c s r H2 rfl p1 rfl s1 ne hc c4 h5 hr r8 (C1.world W2.k.1 (Kp.of W2 (fun _ _ => rfl) (g.adds p1 hc c4 s1 (Ne.symm ne) hno)) (Int.le_refl _) g.b16) (F1.trans (XF.fr W2.k.1 (by omega) (by omega)))
      · exact ⟨Nat.le_of_ble_eq_true rfl, Nat.le_of_ble_eq_true rfl, x3 ⟨⟨hP, hO⟩, hne, p, c, rfl, p1, hc, c4', fun z => h5 z.2⟩⟩
  · exact ⟨Nat.le_of_ble_eq_true rfl, Nat.le_of_ble_eq_true rfl, x2 ⟨⟨hP, hO⟩, hne⟩⟩
theorem e_removeSubstitute {l : Launch} (hst : l.stackTraces = false) {Q : Option Value → Hp → Prop} {X : String → Hp → Prop} {H : Hp} {x : Nat} {N F : Nat → Int32} {hi : Nat → Nat → Int32} {sv : Nat → Int32} {sm : Nat → Nat → Int32} {hd tx : Nat → Int32} {B : Int} (C : CR H x N F hi sv sm hd tx B) {σ : Nat → Nat} {c0 c1 c2 c3 c4 : Nat} (W : Wv [] H H (x + 1) σ σ N c0 c1 c2 c3 c4) (g : GI N c0 c1 c2 c3 c4 B) {P O : Int32} (x1 : (¬ ((0 ≤ P ∧ P < nI c0) ∧ (0 ≤ O ∧ O < nI c0))) → ∀ n, hn H ≤ n → X "java/lang/IndexOutOfBoundsException" (hxn H n)) (x2 : (((0 ≤ P ∧ P < nI c0) ∧ (0 ≤ O ∧ O < nI c0)) ∧ ∃ p c, P = nI p ∧ p < c0 ∧ N (7 + p * 23 + 8) = nI c ∧ c ≤ 4 ∧ s_place N p O c = -1) → ∀ n, hn H ≤ n → X "java/util/NoSuchElementException" (hxn H n)) (q : ∀ p c i r H', P = nI p → p < c0 → (0 ≤ O ∧ O < nI c0) → N (7 + p * 23 + 8) = nI (c + 1) → c + 1 ≤ 4 → i < c + 1 → s_place N p O (c + 1) = nI i → F 5 = nI r → r ≤ 8 → CR H' x (r_rems N p i c) (upd F 5 (nI (pr r))) (ph hi r N) sv sm hd tx B → XF x H H' → Q (some (.int (nI c))) H') : CX8_removeSubstitute l [.ref x, .int P, .int O] H Q X := by
  have k8 := W.1.1.2
  refine eX8_removeSubstitute hst (Nat.le_of_ble_eq_true rfl) (fun K => ?_)
  (repeat (refine And.intro (by first | assumption | rfl | exact Nat.le_of_ble_eq_true rfl | exact Nat.zero_le _ | decide) ?_)); refine And.intro (C.s0) ?_; (repeat (refine And.intro (by first | assumption | rfl | exact Nat.le_of_ble_eq_true rfl | exact Nat.zero_le _ | decide) ?_))
  refine d_needPart hst C W.1.1.1 W.1.1.2 (fun hP => ?_) (fun hP => x1 (fun z => hP z.1))
  (repeat (refine And.intro (by first | assumption | rfl | exact Nat.le_of_ble_eq_true rfl | exact Nat.zero_le _ | decide) ?_)); refine And.intro (C.s0) ?_; (repeat (refine And.intro (by first | assumption | rfl | exact Nat.le_of_ble_eq_true rfl | exact Nat.zero_le _ | decide) ?_))
  refine d_needPart hst C W.1.1.1 W.1.1.2 (fun hO => ?_) (fun hO => x1 (fun z => hO z.2))
  obtain ⟨p, p1, p2⟩ := in9 (by omega) hP
  subst p2
  obtain ⟨c, c4', hc, hsub⟩ := W.1.2.2.2.2.2.1 p p1
  obtain ⟨d1, d2⟩ := g.dst p c p1 hc c4'
  refine xw C ?_
  refine gParts W.k ?_
  refine aPart W.k rfl (W.p8 p1) ?_
  (repeat (refine And.intro (by first | assumption | rfl | exact Nat.le_of_ble_eq_true rfl | exact Nat.zero_le _ | decide) ?_)); refine And.intro ((W.k.s_part p (W.p8 p1)).2.1) ?_; (repeat (refine And.intro (by first | assumption | rfl | exact Nat.le_of_ble_eq_true rfl | exact Nat.zero_le _ | decide) ?_))
  refine d_indexOf hst W p1 hc c4' d2 ?_
  refine And.intro (fun h5 => ?_) (fun h5 => ?_)
  · have hx : ∃ i, i < c ∧ N (7 + p * 23 + (9 + i)) = O := Classical.byContradiction fun z => h5 (place_none c (fun j hj y => z ⟨j, hj, y⟩))
    obtain ⟨i, i1, i2⟩ := hx
    have ep : s_place N p O c = nI i := place_at i2 c i1 (fun j h1 h2 z => d2 i j h1 h2 (i2.trans z.symm))
    obtain ⟨c', rfl⟩ : ∃ c', c = c' + 1 := ⟨c - 1, by omega⟩
    (repeat (refine And.intro (by first | assumption | rfl | exact Nat.le_of_ble_eq_true rfl | exact Nat.zero_le _ | decide) ?_)); refine And.intro (C.s0) ?_; (repeat (refine And.intro (by first | assumption | rfl | exact Nat.le_of_ble_eq_true rfl | exact Nat.zero_le _ | decide) ?_))
    refine d_remember hst C W g (fun H1 r hr r8 C1 W1 F1 => ?_)
    (repeat (refine And.intro (by first | assumption | rfl | exact Nat.le_of_ble_eq_true rfl | exact Nat.zero_le _ | decide) ?_)); refine And.intro ((W1.k.s_part p (W.p8 p1)).2.1) ?_; (repeat (refine And.intro (by first | assumption | rfl | exact Nat.le_of_ble_eq_true rfl | exact Nat.zero_le _ | decide) ?_))
    refine d_removeSub hst W1 p1 hc c4' i1 ep (fun H2 W2 => ?_)
    refine iSC W2 p1 ?_
    have e8 : r_rems N p i c' (7 + p * 23 + 8) = nI c' := by
      unfold r_rems
      rw [if_neg (by omega), if_pos rfl]
    rw [e8]
    repeat (refine And.intro (by first | assumption | rfl | exact Nat.le_of_ble_eq_true rfl | exact Nat.zero_le _ | decide) ?_)
    exact q p c' i r H2 rfl p1 hO hc c4' i1 ep hr r8 (C1.world W2.k.1 (Kp.of W2 (fun _ _ => rfl) (g.rems p1 hc c4' i1)) (Int.le_refl _) g.b16) (F1.trans (XF.fr W2.k.1 (by omega) (by omega)))
  · exact ⟨Nat.le_of_ble_eq_true rfl, Nat.le_of_ble_eq_true rfl, x2 ⟨⟨hP, hO⟩, p, c, rfl, p1, hc, c4', h5⟩⟩
end F5

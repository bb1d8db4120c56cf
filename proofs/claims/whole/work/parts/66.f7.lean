section F7
theorem tz {x : Int32} {n : Nat} (h : x.toInt = (n : Int)) (hn : n < 2 ^ 31) : x = nI n := Int32.toInt_inj.mp (h.trans (nI_toInt hn).symm)
theorem CR.rsn {H : Hp} {x : Nat} {N F : Nat → Int32} {hi : Nat → Nat → Int32} {sv : Nat → Int32} {sm : Nat → Nat → Int32} {hd tx : Nat → Int32} {B : Int} (C : CR H x N F hi sv sm hd tx B) (v : Int32) : CR (wI H x 10 v) x N (upd F 7 v) hi sv sm hd tx B := by
  obtain ⟨i1, i2, i3, i4, i5, i6, i7⟩ := C.2.2.2.2.1
  refine C.fld ⟨pk_un (by decide), pk_un (by decide), pk_un (by decide)⟩ (by decide) ?_
  unfold XI
  rw [hI_wI_s, hI_wI_k (by decide), hI_wI_k (by decide), hI_wI_k (by decide), hI_wI_k (by decide), pk_us, pk_un (by decide), pk_un (by decide), pk_un (by decide), pk_un (by decide)]
  exact ⟨i1, i2, rfl, i4, i5, i6, i7⟩
theorem e_count {l : Launch} (hst : l.stackTraces = false) {Q : Option Value → Hp → Prop} {X : String → Hp → Prop} {H : Hp} {x : Nat} {N F : Nat → Int32} {hi : Nat → Nat → Int32} {sv : Nat → Int32} {sm : Nat → Nat → Int32} {hd tx : Nat → Int32} {B : Int} (C : CR H x N F hi sv sm hd tx B) {σ : Nat → Nat} {c0 c1 c2 c3 c4 : Nat} (W : Wv [] H H (x + 1) σ σ N c0 c1 c2 c3 c4) (g : GI N c0 c1 c2 c3 c4 B) {O : Int32} (x1 : (¬ (0 ≤ O ∧ O ≤ 7)) → ∀ n, hn H ≤ n → X "java/lang/IllegalArgumentException" (hxn H n)) (q : ∀ k, O = nI k → k < 8 → Q (some (.int (if k = 7 then s_miss N (-1) c2 else N k))) H) : CX8_count l [.ref x, .int O] H Q X := by
  refine eX8_count hst (Nat.le_of_ble_eq_true rfl) (fun K => ?_)
  refine ⟨⟨fun z => ?_, fun z => ?_, fun z => ?_, fun z => ?_, fun z => ?_, fun z => ?_, fun z => ?_, fun z => ?_, trivial⟩, fun z => ?_⟩
  · refine xw C ?_
    refine iPC W ?_
    repeat (refine And.intro (by first | assumption | rfl | exact Nat.le_of_ble_eq_true rfl | exact Nat.zero_le _ | decide) ?_)
    exact q 0 (tz (by omega) (by decide)) (by decide)
  · refine xw C ?_
    refine iKC W ?_
    repeat (refine And.intro (by first | assumption | rfl | exact Nat.le_of_ble_eq_true rfl | exact Nat.zero_le _ | decide) ?_)
    exact q 1 (tz (by omega) (by decide)) (by decide)
  · refine xw C ?_
    refine iWC W ?_
    repeat (refine And.intro (by first | assumption | rfl | exact Nat.le_of_ble_eq_true rfl | exact Nat.zero_le _ | decide) ?_)
    exact q 2 (tz (by omega) (by decide)) (by decide)
  · refine xw C ?_
    refine gReps W.k ?_
    refine iRS W ?_
    repeat (refine And.intro (by first | assumption | rfl | exact Nat.le_of_ble_eq_true rfl | exact Nat.zero_le _ | decide) ?_)
    exact q 3 (tz (by omega) (by decide)) (by decide)
  · refine xw C ?_
    refine gOrds W.k ?_
    refine iOS W ?_
    repeat (refine And.intro (by first | assumption | rfl | exact Nat.le_of_ble_eq_true rfl | exact Nat.zero_le _ | decide) ?_)
    exact q 4 (tz (by omega) (by decide)) (by decide)
  · refine xw C ?_
    refine iDay W ?_
    repeat (refine And.intro (by first | assumption | rfl | exact Nat.le_of_ble_eq_true rfl | exact Nat.zero_le _ | decide) ?_)
    exact q 5 (tz (by omega) (by decide)) (by decide)
  · refine xw C ?_
    refine iRQ W ?_
    repeat (refine And.intro (by first | assumption | rfl | exact Nat.le_of_ble_eq_true rfl | exact Nat.zero_le _ | decide) ?_)
    exact q 6 (tz (by omega) (by decide)) (by decide)
  · refine xw C ?_
    (repeat (refine And.intro (by first | assumption | rfl | exact Nat.le_of_ble_eq_true rfl | exact Nat.zero_le _ | decide) ?_)); refine And.intro (W.k.s_w) ?_; (repeat (refine And.intro (by first | assumption | rfl | exact Nat.le_of_ble_eq_true rfl | exact Nat.zero_le _ | decide) ?_))
    refine d_allMissing hst W (fun _ _ => rfl) ?_
    repeat (refine And.intro (by first | assumption | rfl | exact Nat.le_of_ble_eq_true rfl | exact Nat.zero_le _ | decide) ?_)
    exact q 7 (tz (by omega) (by decide)) (by decide)
  · have z' : O.toInt < 0 ∨ 8 ≤ O.toInt := z
    refine ⟨Nat.le_of_ble_eq_true rfl, Nat.le_of_ble_eq_true rfl, x1 (fun y => ?_)⟩
    have a := Int32.le_iff_toInt_le.mp y.1
    have b := Int32.le_iff_toInt_le.mp y.2
    have a' : (0 : Int) ≤ O.toInt := a
    have b' : O.toInt ≤ 7 := b
    omega
theorem e_part {l : Launch} (hst : l.stackTraces = false) {Q : Option Value → Hp → Prop} {X : String → Hp → Prop} {H : Hp} {x : Nat} {N F : Nat → Int32} {hi : Nat → Nat → Int32} {sv : Nat → Int32} {sm : Nat → Nat → Int32} {hd tx : Nat → Int32} {B : Int} (C : CR H x N F hi sv sm hd tx B) {σ : Nat → Nat} {c0 c1 c2 c3 c4 : Nat} (W : Wv [] H H (x + 1) σ σ N c0 c1 c2 c3 c4) (g : GI N c0 c1 c2 c3 c4 B) {P O : Int32} (x1 : (¬ (0 ≤ P ∧ P < nI c0)) → ∀ n, hn H ≤ n → X "java/lang/IndexOutOfBoundsException" (hxn H n)) (x2 : ((0 ≤ P ∧ P < nI c0) ∧ ¬ (0 ≤ O ∧ O ≤ 9)) → ∀ n, hn H ≤ n → X "java/lang/IllegalArgumentException" (hxn H n)) (q : ∀ p k, P = nI p → p < c0 → O = nI k → k < 10 → Q (some (.int (if k = 7 then s_pos N p else if k = 8 then N (7 + p * 23 + 7) else if k = 9 then N (7 + p * 23 + 8) else N (7 + p * 23 + k)))) H) : CX8_part l [.ref x, .int P, .int O] H Q X := by
  have k8 := W.1.1.2
  refine eX8_part hst (Nat.le_of_ble_eq_true rfl) (fun K => ?_)
  (repeat (refine And.intro (by first | assumption | rfl | exact Nat.le_of_ble_eq_true rfl | exact Nat.zero_le _ | decide) ?_)); refine And.intro (C.s0) ?_; (repeat (refine And.intro (by first | assumption | rfl | exact Nat.le_of_ble_eq_true rfl | exact Nat.zero_le _ | decide) ?_))
  refine d_needPart hst C W.1.1.1 W.1.1.2 (fun hP => ?_) (fun hP => x1 hP)
  obtain ⟨p, p1, p2⟩ := in9 (by omega) hP
  subst p2
  refine xw C ?_
  refine gParts W.k ?_
  refine aPart W.k rfl (W.p8 p1) ?_
  refine ⟨⟨fun z => ?_, fun z => ?_, fun z => ?_, fun z => ?_, fun z => ?_, fun z => ?_, fun z => ?_, fun z => ?_, fun z => ?_, fun z => ?_, trivial⟩, fun z => ?_⟩
  · refine iPart W p1 (k := 0) (by decide) ?_
    repeat (refine And.intro (by first | assumption | rfl | exact Nat.le_of_ble_eq_true rfl | exact Nat.zero_le _ | decide) ?_)
    exact q p 0 rfl p1 (tz (by omega) (by decide)) (by decide)
  · refine iPart W p1 (k := 1) (by decide) ?_
    repeat (refine And.intro (by first | assumption | rfl | exact Nat.le_of_ble_eq_true rfl | exact Nat.zero_le _ | decide) ?_)
    exact q p 1 rfl p1 (tz (by omega) (by decide)) (by decide)
  · refine iPart W p1 (k := 2) (by decide) ?_
    repeat (refine And.intro (by first | assumption | rfl | exact Nat.le_of_ble_eq_true rfl | exact Nat.zero_le _ | decide) ?_)
    exact q p 2 rfl p1 (tz (by omega) (by decide)) (by decide)
  · refine iPart W p1 (k := 3) (by decide) ?_
    repeat (refine And.intro (by first | assumption | rfl | exact Nat.le_of_ble_eq_true rfl | exact Nat.zero_le _ | decide) ?_)
    exact q p 3 rfl p1 (tz (by omega) (by decide)) (by decide)
  · refine iPart W p1 (k := 4) (by decide) ?_
    repeat (refine And.intro (by first | assumption | rfl | exact Nat.le_of_ble_eq_true rfl | exact Nat.zero_le _ | decide) ?_)
    exact q p 4 rfl p1 (tz (by omega) (by decide)) (by decide)
  · refine iPart W p1 (k := 5) (by decide) ?_
    repeat (refine And.intro (by first | assumption | rfl | exact Nat.le_of_ble_eq_true rfl | exact Nat.zero_le _ | decide) ?_)
    exact q p 5 rfl p1 (tz (by omega) (by decide)) (by decide)
  · refine iPart W p1 (k := 6) (by decide) ?_
    repeat (refine And.intro (by first | assumption | rfl | exact Nat.le_of_ble_eq_true rfl | exact Nat.zero_le _ | decide) ?_)
    exact q p 6 rfl p1 (tz (by omega) (by decide)) (by decide)
  · refine xw C ?_
    (repeat (refine And.intro (by first | assumption | rfl | exact Nat.le_of_ble_eq_true rfl | exact Nat.zero_le _ | decide) ?_)); refine And.intro (W.k.s_w) ?_; (repeat (refine And.intro (by first | assumption | rfl | exact Nat.le_of_ble_eq_true rfl | exact Nat.zero_le _ | decide) ?_))
    refine d_positionOf hst W (fun _ _ => rfl) (fun _ _ => rfl) (fun _ _ => rfl) rfl p1 ?_
    repeat (refine And.intro (by first | assumption | rfl | exact Nat.le_of_ble_eq_true rfl | exact Nat.zero_le _ | decide) ?_)
    exact q p 7 rfl p1 (tz (by omega) (by decide)) (by decide)
  · refine iPart W p1 (k := 7) (by decide) ?_
    repeat (refine And.intro (by first | assumption | rfl | exact Nat.le_of_ble_eq_true rfl | exact Nat.zero_le _ | decide) ?_)
    exact q p 8 rfl p1 (tz (by omega) (by decide)) (by decide)
  · refine iSC W p1 ?_
    repeat (refine And.intro (by first | assumption | rfl | exact Nat.le_of_ble_eq_true rfl | exact Nat.zero_le _ | decide) ?_)
    exact q p 9 rfl p1 (tz (by omega) (by decide)) (by decide)
  · have z' : O.toInt < 0 ∨ 10 ≤ O.toInt := z
    refine ⟨Nat.le_of_ble_eq_true rfl, Nat.le_of_ble_eq_true rfl, x2 ⟨hP, fun y => ?_⟩⟩
    have a' : (0 : Int) ≤ O.toInt := Int32.le_iff_toInt_le.mp y.1
    have b' : O.toInt ≤ 9 := Int32.le_iff_toInt_le.mp y.2
    omega
theorem e_waiting {l : Launch} (hst : l.stackTraces = false) {Q : Option Value → Hp → Prop} {X : String → Hp → Prop} {H : Hp} {x : Nat} {N F : Nat → Int32} {hi : Nat → Nat → Int32} {sv : Nat → Int32} {sm : Nat → Nat → Int32} {hd tx : Nat → Int32} {B : Int} (C : CR H x N F hi sv sm hd tx B) {σ : Nat → Nat} {c0 c1 c2 c3 c4 : Nat} (W : Wv [] H H (x + 1) σ σ N c0 c1 c2 c3 c4) (g : GI N c0 c1 c2 c3 c4 B) {P O : Int32} (x1 : (¬ (0 ≤ P ∧ P < nI c2)) → ∀ n, hn H ≤ n → X "java/lang/IndexOutOfBoundsException" (hxn H n)) (x2 : ((0 ≤ P ∧ P < nI c2) ∧ ¬ (0 ≤ O ∧ O ≤ 4)) → ∀ n, hn H ≤ n → X "java/lang/IllegalArgumentException" (hxn H n)) (q : ∀ i k, P = nI i → i < c2 → O = nI k → k < 5 → Q (some (.int (N (227 + i * 5 + k)))) H) : CX8_waiting l [.ref x, .int P, .int O] H Q X := by
  have k2 := W.1.2.2.1.2
  refine eX8_waiting hst (Nat.le_of_ble_eq_true rfl) (fun K => ?_)
  refine xw C ?_
  refine iWC W ?_
  rw [W.1.2.2.1.1]
  repeat (refine And.intro (by first | assumption | rfl | exact Nat.le_of_ble_eq_true rfl | exact Nat.zero_le _ | decide) ?_)
  refine d_needIndex hst (fun hP => ?_) (fun hP => x1 hP)
  obtain ⟨i, ii, p2⟩ := in9 (by omega) hP
  subst p2
  refine xw C ?_
  refine gWaits W.k ?_
  refine aWait W.k rfl (show i < 12 by omega) ?_
  refine ⟨⟨fun z => ?_, fun z => ?_, fun z => ?_, fun z => ?_, fun z => ?_, trivial⟩, fun z => ?_⟩
  · refine iWait W ii (k := 0) (by decide) ?_
    repeat (refine And.intro (by first | assumption | rfl | exact Nat.le_of_ble_eq_true rfl | exact Nat.zero_le _ | decide) ?_)
    exact q i 0 rfl ii (tz (by omega) (by decide)) (by decide)
  · refine iWait W ii (k := 1) (by decide) ?_
    repeat (refine And.intro (by first | assumption | rfl | exact Nat.le_of_ble_eq_true rfl | exact Nat.zero_le _ | decide) ?_)
    exact q i 1 rfl ii (tz (by omega) (by decide)) (by decide)
  · refine iWait W ii (k := 2) (by decide) ?_
    repeat (refine And.intro (by first | assumption | rfl | exact Nat.le_of_ble_eq_true rfl | exact Nat.zero_le _ | decide) ?_)
    exact q i 2 rfl ii (tz (by omega) (by decide)) (by decide)
  · refine iWait W ii (k := 3) (by decide) ?_
    repeat (refine And.intro (by first | assumption | rfl | exact Nat.le_of_ble_eq_true rfl | exact Nat.zero_le _ | decide) ?_)
    exact q i 3 rfl ii (tz (by omega) (by decide)) (by decide)
  · refine iWait W ii (k := 4) (by decide) ?_
    repeat (refine And.intro (by first | assumption | rfl | exact Nat.le_of_ble_eq_true rfl | exact Nat.zero_le _ | decide) ?_)
    exact q i 4 rfl ii (tz (by omega) (by decide)) (by decide)
  · have z' : O.toInt < 0 ∨ 5 ≤ O.toInt := z
    refine ⟨Nat.le_of_ble_eq_true rfl, Nat.le_of_ble_eq_true rfl, x2 ⟨hP, fun y => ?_⟩⟩
    have a' : (0 : Int) ≤ O.toInt := Int32.le_iff_toInt_le.mp y.1
    have b' : O.toInt ≤ 4 := Int32.le_iff_toInt_le.mp y.2
    omega
theorem e_cancel {l : Launch} (hst : l.stackTraces = false) {Q : Option Value → Hp → Prop} {X : String → Hp → Prop} {H : Hp} {x : Nat} {N F : Nat → Int32} {hi : Nat → Nat → Int32} {sv : Nat → Int32} {sm : Nat → Nat → Int32} {hd tx : Nat → Int32} {B : Int} (C : CR H x N F hi sv sm hd tx B) {σ : Nat → Nat} {c0 c1 c2 c3 c4 : Nat} (W : Wv [] H H (x + 1) σ σ N c0 c1 c2 c3 c4) (g : GI N c0 c1 c2 c3 c4 B) {P : Int32} (x1 : (¬ (0 ≤ P ∧ P < nI c2)) → ∀ n, hn H ≤ n → X "java/lang/IndexOutOfBoundsException" (hxn H n)) (q : ∀ i c r H', P = nI i → i < c + 1 → c2 = c + 1 → F 5 = nI r → r ≤ 8 → CR H' x (r_fw N i c) (upd F 5 (nI (pr r))) (ph hi r N) sv sm hd tx B → XF x H H' → Q (some (.int (N (227 + i * 5 + 3)))) H') : CX8_cancel l [.ref x, .int P] H Q X := by
  have k2 := W.1.2.2.1.2
  refine eX8_cancel hst (Nat.le_of_ble_eq_true rfl) (fun K => ?_)
  refine xw C ?_
  refine iWC W ?_
  rw [W.1.2.2.1.1]
  repeat (refine And.intro (by first | assumption | rfl | exact Nat.le_of_ble_eq_true rfl | exact Nat.zero_le _ | decide) ?_)
  refine d_needIndex hst (fun hP => ?_) (fun hP => x1 hP)
  obtain ⟨i, ii, p2⟩ := in9 (by omega) hP
  subst p2
  obtain ⟨c, rfl⟩ : ∃ c, c2 = c + 1 := ⟨c2 - 1, by omega⟩
  (repeat (refine And.intro (by first | assumption | rfl | exact Nat.le_of_ble_eq_true rfl | exact Nat.zero_le _ | decide) ?_)); refine And.intro (C.s0) ?_; (repeat (refine And.intro (by first | assumption | rfl | exact Nat.le_of_ble_eq_true rfl | exact Nat.zero_le _ | decide) ?_))
  refine d_remember hst C W g (fun H1 r hr r8 C1 W1 F1 => ?_)
  refine xw C1 ?_
  (repeat (refine And.intro (by first | assumption | rfl | exact Nat.le_of_ble_eq_true rfl | exact Nat.zero_le _ | decide) ?_)); refine And.intro (W1.k.s_w) ?_; (repeat (refine And.intro (by first | assumption | rfl | exact Nat.le_of_ble_eq_true rfl | exact Nat.zero_le _ | decide) ?_))
  refine d_removeWaiting hst W1 (fun _ _ => rfl) rfl ii (fun H2 σ2 ρ2 W2 nn2 => ?_)
  repeat (refine And.intro (by first | assumption | rfl | exact Nat.le_of_ble_eq_true rfl | exact Nat.zero_le _ | decide) ?_)
  exact q i c r H2 rfl ii rfl hr r8 (C1.world W2.k.1 (Kp.of W2 nn2 (g.fw ii)) (Int.le_refl _) g.b16) (F1.trans (XF.fr W2.k.1 (by omega) (by omega)))
theorem e_request {l : Launch} (hst : l.stackTraces = false) {Q : Option Value → Hp → Prop} {X : String → Hp → Prop} {H : Hp} {x : Nat} {N F : Nat → Int32} {hi : Nat → Nat → Int32} {sv : Nat → Int32} {sm : Nat → Nat → Int32} {hd tx : Nat → Int32} {B : Int} (C : CR H x N F hi sv sm hd tx B) {σ : Nat → Nat} {c0 c1 c2 c3 c4 : Nat} (W : Wv [] H H (x + 1) σ σ N c0 c1 c2 c3 c4) (g : GI N c0 c1 c2 c3 c4 B) (hB : B + 999 ≤ 16000000) {P v : Int32} (x1 : (¬ (0 ≤ P ∧ P < nI c0)) → ∀ n, hn H ≤ n → X "java/lang/IndexOutOfBoundsException" (hxn H n)) (x2 : ((0 ≤ P ∧ P < nI c0) ∧ ¬ (1 ≤ v ∧ v ≤ 999)) → ∀ n, hn H ≤ n → X "java/lang/IllegalArgumentException" (hxn H n)) (x3 : ∀ p H', P = nI p → p < c0 → 1 ≤ v ∧ v ≤ 999 → s_reqBad N p v → CR H' x N (upd F 7 1) hi sv sm hd tx B → XF x H H' → ∀ n, hn H' ≤ n → X "java/lang/IllegalStateException" (hxn H' n)) (q : ∀ p r H', P = nI p → p < c0 → 1 ≤ v ∧ v ≤ 999 → ¬ s_reqBad N p v → c2 < 12 ∨ (r_serve N p v).1 ≤ 0 → F 5 = nI r → r ≤ 8 → CR H' x (r_req N p v c2) (upd F 5 (nI (pr r))) (ph hi r N) sv sm hd tx (B + 999) → XF x H H' → Q (some (.int (v - (r_serve N p v).1))) H') : CX8_request l [.ref x, .int P, .int v] H Q X := by
  have k8 := W.1.1.2
  refine eX8_request hst (Nat.le_of_ble_eq_true rfl) (fun K => ?_)
  (repeat (refine And.intro (by first | assumption | rfl | exact Nat.le_of_ble_eq_true rfl | exact Nat.zero_le _ | decide) ?_)); refine And.intro (C.s0) ?_; (repeat (refine And.intro (by first | assumption | rfl | exact Nat.le_of_ble_eq_true rfl | exact Nat.zero_le _ | decide) ?_))
  refine d_needPart hst C W.1.1.1 W.1.1.2 (fun hP => ?_) (fun hP => x1 hP)
  obtain ⟨p, p1, p2⟩ := in9 (by omega) hP
  subst p2
  repeat (refine And.intro (by first | assumption | rfl | exact Nat.le_of_ble_eq_true rfl | exact Nat.zero_le _ | decide) ?_)
  refine d_needRange hst (fun hv => ?_) (fun hv => x2 ⟨hP, hv⟩)
  have hvi : 1 ≤ v.toInt ∧ v.toInt ≤ 999 := ⟨Int32.le_iff_toInt_le.mp hv.1, Int32.le_iff_toInt_le.mp hv.2⟩
  refine xw C ?_
  (repeat (refine And.intro (by first | assumption | rfl | exact Nat.le_of_ble_eq_true rfl | exact Nat.zero_le _ | decide) ?_)); refine And.intro (W.k.s_w) ?_; (repeat (refine And.intro (by first | assumption | rfl | exact Nat.le_of_ble_eq_true rfl | exact Nat.zero_le _ | decide) ?_))
  refine d_obstacleToRequest hst W rfl p1 (fun hb => ?_) (fun hb => ?_)
  · refine And.intro (fun z => absurd z (by decide)) (fun _ => ?_)
    refine pI_of C.s0 ?_
    exact ⟨Nat.le_of_ble_eq_true rfl, Nat.le_of_ble_eq_true rfl, x3 p _ rfl p1 hv hb (C.rsn 1) (XF.wI (Nat.le_refl x) (by omega))⟩
  · refine And.intro (fun _ => ?_) (fun z => absurd rfl z)
    have hfull : c2 < 12 ∨ (r_serve N p v).1 ≤ 0 := by
      obtain ⟨a1, a2⟩ := (g.ki).av W.1 p1 (v := v) (by omega)
      by_cases z : s_av N p (N (7 + p * 23 + 8)).toNatClampNeg < v
      · refine Or.inl (Classical.byContradiction fun y => hb ⟨z, ?_⟩)
        have k2 := W.1.2.2.1
        rw [k2.1, show c2 = 12 by omega]; rfl
      · refine Or.inr ?_
        rw [a2 z]; decide
    (repeat (refine And.intro (by first | assumption | rfl | exact Nat.le_of_ble_eq_true rfl | exact Nat.zero_le _ | decide) ?_)); refine And.intro (C.s0) ?_; (repeat (refine And.intro (by first | assumption | rfl | exact Nat.le_of_ble_eq_true rfl | exact Nat.zero_le _ | decide) ?_))
    refine d_remember hst C W g (fun H1 r hr r8 C1 W1 F1 => ?_)
    refine xw C1 ?_
    (repeat (refine And.intro (by first | assumption | rfl | exact Nat.le_of_ble_eq_true rfl | exact Nat.zero_le _ | decide) ?_)); refine And.intro (W1.k.s_w) ?_; (repeat (refine And.intro (by first | assumption | rfl | exact Nat.le_of_ble_eq_true rfl | exact Nat.zero_le _ | decide) ?_))
    refine d_makeRequest hst W1 (fun _ _ => rfl) rfl p1 g.ni.sk (by omega) hfull (fun H2 c2' W2 => ?_)
    repeat (refine And.intro (by first | assumption | rfl | exact Nat.le_of_ble_eq_true rfl | exact Nat.zero_le _ | decide) ?_)
    exact q p r H2 rfl p1 hv hb hfull hr r8 (C1.world W2.k.1 (Kp.of W2 (fun _ _ => rfl) (g.req p1 hvi hfull hB W2.1)) (by omega) hB) (F1.trans (XF.fr W2.k.1 (by omega) (by omega)))
theorem CR.cpt {H : Hp} {x : Nat} {N F : Nat → Int32} {hi : Nat → Nat → Int32} {sv : Nat → Int32} {sm : Nat → Nat → Int32} {hd tx : Nat → Int32} {B : Int} (C : CR H x N F hi sv sm hd tx B) {σ : Nat → Nat} {c0 c1 c2 c3 c4 : Nat} (W : Wv [] H H (x + 1) σ σ N c0 c1 c2 c3 c4) (g : GI N c0 c1 c2 c3 c4 B) {H1 : Hp} (F1 : Fr (x + 81) H H1) (K1 : Kp H1 (x + 81) N B) : CR H1 x N F hi sv sm hd tx B ∧ ∃ σ', Wv [] H1 H1 (x + 81) σ' σ' N c0 c1 c2 c3 c4 := by
  refine ⟨C.trial F1 K1.sp, ?_⟩
  obtain ⟨σ', W', -⟩ := K1.wv W.1
  exact ⟨σ', W'⟩
theorem e_taken {l : Launch} (hst : l.stackTraces = false) {Q : Option Value → Hp → Prop} {X : String → Hp → Prop} {H : Hp} {x : Nat} {N F : Nat → Int32} {hi : Nat → Nat → Int32} {sv : Nat → Int32} {sm : Nat → Nat → Int32} {hd tx : Nat → Int32} {B : Int} (C : CR H x N F hi sv sm hd tx B) {σ : Nat → Nat} {c0 c1 c2 c3 c4 : Nat} (W : Wv [] H H (x + 1) σ σ N c0 c1 c2 c3 c4) (g : GI N c0 c1 c2 c3 c4 B) {P O v : Int32} (x1 : (¬ ((0 ≤ P ∧ P < nI c0) ∧ (0 ≤ O ∧ O < nI c0))) → ∀ n, hn H ≤ n → X "java/lang/IndexOutOfBoundsException" (hxn H n)) (x2 : (((0 ≤ P ∧ P < nI c0) ∧ (0 ≤ O ∧ O < nI c0)) ∧ ¬ (1 ≤ v ∧ v ≤ 999)) → ∀ n, hn H ≤ n → X "java/lang/IllegalArgumentException" (hxn H n)) (q : ∀ p s H', P = nI p → p < c0 → O = nI s → s < c0 → 1 ≤ v ∧ v ≤ 999 → CR H' x N F hi sv sm hd tx B → XF x H H' → Q (some (.int (N (7 + s * 23 + 0) - (r_serve N p v).2 (7 + s * 23 + 0)))) H') : CX8_taken l [.ref x, .int P, .int O, .int v] H Q X := by
  have k8 := W.1.1.2
  refine eX8_taken hst (Nat.le_of_ble_eq_true rfl) (fun K => ?_)
  (repeat (refine And.intro (by first | assumption | rfl | exact Nat.le_of_ble_eq_true rfl | exact Nat.zero_le _ | decide) ?_)); refine And.intro (C.s0) ?_; (repeat (refine And.intro (by first | assumption | rfl | exact Nat.le_of_ble_eq_true rfl | exact Nat.zero_le _ | decide) ?_))
  refine d_needPart hst C W.1.1.1 W.1.1.2 (fun hP => ?_) (fun hP => x1 (fun z => hP z.1))
  (repeat (refine And.intro (by first | assumption | rfl | exact Nat.le_of_ble_eq_true rfl | exact Nat.zero_le _ | decide) ?_)); refine And.intro (C.s0) ?_; (repeat (refine And.intro (by first | assumption | rfl | exact Nat.le_of_ble_eq_true rfl | exact Nat.zero_le _ | decide) ?_))
  refine d_needPart hst C W.1.1.1 W.1.1.2 (fun hO => ?_) (fun hO => x1 (fun z => hO z.2))
  obtain ⟨p, p1, p2⟩ := in9 (by omega) hP
  obtain ⟨s, s1, s2⟩ := in9 (by omega) hO
  subst p2; subst s2
  repeat (refine And.intro (by first | assumption | rfl | exact Nat.le_of_ble_eq_true rfl | exact Nat.zero_le _ | decide) ?_)
  refine d_needRange hst (fun hv => ?_) (fun hv => x2 ⟨⟨hP, hO⟩, hv⟩)
  refine xt C ?_
  refine xw C ?_
  have T := C.2.1.2
  obtain ⟨σt, St⟩ := id T
  (repeat (refine And.intro (by first | assumption | rfl | exact Nat.le_of_ble_eq_true rfl | exact Nat.zero_le _ | decide) ?_)); refine And.intro (St.2.1) ?_; (repeat (refine And.intro (by first | assumption | rfl | exact Nat.le_of_ble_eq_true rfl | exact Nat.zero_le _ | decide) ?_))
  refine d_copyK hst T C.2.1.1 (by omega) (fun H1 F1 K1 K2 => ?_)
  obtain ⟨C1, σ1, W1⟩ := C.cpt W g F1 K1
  refine xt C1 ?_
  (repeat (refine And.intro (by first | assumption | rfl | exact Nat.le_of_ble_eq_true rfl | exact Nat.zero_le _ | decide) ?_)); refine And.intro (W1.k.s_w) ?_; (repeat (refine And.intro (by first | assumption | rfl | exact Nat.le_of_ble_eq_true rfl | exact Nat.zero_le _ | decide) ?_))
  refine d_serve hst W1 p1 rfl (fun H2 W2 => ?_)
  have C2 := C1.trial W2.k.1 ⟨_, W2.k.2.1⟩
  obtain ⟨σ3, W3, -⟩ := C2.wvs W.1
  refine xw C2 ?_
  refine gParts W3.k ?_
  refine aPart W3.k rfl (W.p8 s1) ?_
  refine iPart W3 s1 (k := 0) (by decide) ?_
  refine xt C2 ?_
  refine gParts W2.k ?_
  refine aPart W2.k rfl (W.p8 s1) ?_
  refine iPart W2 s1 (k := 0) (by decide) ?_
  repeat (refine And.intro (by first | assumption | rfl | exact Nat.le_of_ble_eq_true rfl | exact Nat.zero_le _ | decide) ?_)
  exact q p s H2 rfl p1 rfl s1 hv C2 ((XF.fr F1 (by omega) (by omega)).trans (XF.fr W2.k.1 (by omega) (by omega)))
end F7

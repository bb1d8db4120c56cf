section G1
theorem CR.pop {H : Hp} {x : Nat} {N F : Nat → Int32} {hi : Nat → Nat → Int32} {sv : Nat → Int32} {sm : Nat → Nat → Int32} {hd tx : Nat → Int32} {B : Int} (C : CR H x N F hi sv sm hd tx B) {r : Nat} (hr : F 5 = nI (r + 1)) (r8 : r + 1 ≤ 8) : CR (wI H x 6 (nI r)) x N (upd F 5 (nI r)) hi sv sm hd tx B ∧ ∃ o, o < 8 ∧ hI H x 5 = nI o ∧ hI H x 6 = nI (r + 1) ∧ (∀ k, k < 8 → Sp H (x + 248 + 80 * k)) ∧ Kp H (x + 248 + 80 * ((o + r) % 8)) (hi r) B := by
  obtain ⟨S, ⟨K0, T⟩, V, ⟨o, r', o8, r8', a1, a2, a3, a4, a5⟩, I, ⟨n, n1, n2, n3, n4⟩, M⟩ := C
  have er : r' = r + 1 := (nI_eq (by omega) (by omega)).mp (a3.symm.trans hr)
  subst er
  refine ⟨⟨S.same (fun b hb => ⟨rfl, rfl⟩), ⟨K0.same (Sm.wI (by omega)), T.same (Sm.wI (by omega))⟩, ?_, ⟨o, r, o8, by omega, by rw [hI_wI_k (by omega)]; exact a1, hI_wI_s, pk_us, fun k hk => (a4 k hk).same (Sm.wI (by omega)), fun k hk => (a5 k (by omega)).same (Sm.wI (by omega))⟩, ?_, ⟨n, n1, by rw [pk_un (by decide)]; exact n2, by rw [hI_wI_o (by omega)]; exact n3, fun k hk => by rw [hI_wI_o (by omega)]; exact n4 k hk⟩, M.same (fun i hi => hI_wI_o (by omega))⟩, o, o8, a1, a2, a4, a5 r (by omega)⟩
  · unfold XV
    rw [pk_un (by decide), hI_wI_k (by omega)]
    exact ⟨V.1.same (Sm.wI (by omega)), V.2.1, V.2.2.1, fun z => (V.2.2.2 z).same (Sm.wI (by omega))⟩
  · obtain ⟨i1, i2, i3, i4, i5, i6, i7⟩ := I
    exact ⟨((hI_wI_k (by decide)).trans i1).trans (pk_un (by decide)).symm, ((hI_wI_k (by decide)).trans i2).trans (pk_un (by decide)).symm, ((hI_wI_k (by decide)).trans i3).trans (pk_un (by decide)).symm, ((hI_wI_k (by decide)).trans i4).trans (pk_un (by decide)).symm, ((hI_wI_k (by decide)).trans i5).trans (pk_un (by decide)).symm, by rw [pk_un (by decide)]; exact i6, by rw [pk_un (by decide)]; exact i7⟩
theorem e_undo {l : Launch} (hst : l.stackTraces = false) {Q : Option Value → Hp → Prop} {X : String → Hp → Prop} {H : Hp} {x : Nat} {N F : Nat → Int32} {hi : Nat → Nat → Int32} {sv : Nat → Int32} {sm : Nat → Nat → Int32} {hd tx : Nat → Int32} {B : Int} (C : CR H x N F hi sv sm hd tx B) (x1 : (F 5 = 0) → ∀ n, hn H ≤ n → X "java/util/NoSuchElementException" (hxn H n)) (q : ∀ r H', F 5 = nI (r + 1) → r + 1 ≤ 8 → CR H' x (hi r) (upd F 5 (nI r)) hi sv sm hd tx B → XF x H H' → Q (some (.int (nI r))) H') : CX8_undo l [.ref x] H Q X := by
  obtain ⟨o, r', o8, r8', a1, a2, a3, a4, a5⟩ := id C.2.2.2.1
  obtain ⟨σ, c0, c1, c2, c3, c4, W, g⟩ := C.wv
  refine eX8_undo hst (Nat.le_of_ble_eq_true rfl) (fun K => ?_)
  refine gI_of C.s0 a2 ?_
  refine And.intro (fun hz => ?_) (fun hz => ?_)
  · obtain ⟨r, rfl⟩ : ∃ r, r' = r + 1 := ⟨r' - 1, by
      have : r' ≠ 0 := fun z => hz (by rw [z]; rfl)
      omega⟩
    obtain ⟨C1, o', o8', b1, b2, b3, b4⟩ := C.pop a3 r8'
    have eo : o' = o := (nI_eq (by omega) (by omega)).mp (b1.symm.trans a1)
    subst eo
    refine gI_of C.s0 a2 ?_
    refine pI_of C.s0 ?_
    rw [show nI (r + 1) - 1 = nI r from nI_pred r]
    refine xw C1 ?_
    refine xhi C1 ?_
    refine gI_of (x := nI o') C1.s0 (by rw [hI_wI_k (by decide)]; exact b1) ?_
    refine gI_of (x := nI r) C1.s0 hI_wI_s ?_
    refine And.intro (by decide) ?_
    refine aa_of (j := (o' + r) % 8) C1.1.2.2.2.2.2.1.2.1 (show nI o' + nI r - (nI o' + nI r) / 8 * 8 = nI ((o' + r) % 8) by rw [nI_add, rem8 (by omega)]) (by omega) (by decide) (C1.1.2.2.2.2.2.1.2.2 _ (by omega)) (by omega) ?_
    have S1 := C1.2.1.1.sp
    obtain ⟨σs, Ss⟩ := id S1
    (repeat (refine And.intro (by first | assumption | rfl | exact Nat.le_of_ble_eq_true rfl | exact Nat.zero_le _ | decide) ?_)); refine And.intro (Ss.2.1) ?_; (repeat (refine And.intro (by first | assumption | rfl | exact Nat.le_of_ble_eq_true rfl | exact Nat.zero_le _ | decide) ?_))
    refine d_copyK hst S1 (b4.same (Sm.wI (by omega))) (by omega) (fun H2 F2 K1 K2 => ?_)
    have C2 := C1.world F2 K1 (Int.le_refl _) g.b16
    have e6 : hI H2 x 6 = nI r := by
      rw [(F2.2.2.2 x (by omega)).1]; exact hI_wI_s
    refine gI_of C2.s0 e6 ?_
    repeat (refine And.intro (by first | assumption | rfl | exact Nat.le_of_ble_eq_true rfl | exact Nat.zero_le _ | decide) ?_)
    exact q r H2 a3 r8' C2 ((XF.wI (Nat.le_refl x) (by omega)).trans (XF.fr F2 (by omega) (by omega)))
  · have e0 : F 5 = 0 := a3.trans hz
    exact ⟨Nat.le_of_ble_eq_true rfl, Nat.le_of_ble_eq_true rfl, x1 e0⟩
theorem e_save {l : Launch} (hst : l.stackTraces = false) {Q : Option Value → Hp → Prop} {X : String → Hp → Prop} {H : Hp} {x : Nat} {N F : Nat → Int32} {hi : Nat → Nat → Int32} {sv : Nat → Int32} {sm : Nat → Nat → Int32} {hd tx : Nat → Int32} {B : Int} (C : CR H x N F hi sv sm hd tx B) (q : ∀ H', CR H' x N (upd F 6 1) hi N sm hd tx B → XF x H H' → Q (some (.int (N 0))) H') : CX8_save l [.ref x] H Q X := by
  obtain ⟨S, ⟨K0, T⟩, V, Hh, I, Tx, M⟩ := id C
  refine eX8_save hst (Nat.le_of_ble_eq_true rfl) (fun K => ?_)
  refine xsv C ?_
  refine xw C ?_
  obtain ⟨σs, Ss⟩ := id V.1
  (repeat (refine And.intro (by first | assumption | rfl | exact Nat.le_of_ble_eq_true rfl | exact Nat.zero_le _ | decide) ?_)); refine And.intro (Ss.2.1) ?_; (repeat (refine And.intro (by first | assumption | rfl | exact Nat.le_of_ble_eq_true rfl | exact Nat.zero_le _ | decide) ?_))
  refine d_copyK hst V.1 K0 (by omega) (fun H1 F1 K1 K2 => ?_)
  have e : ∀ a, (a < x + 161 ∨ x + 241 ≤ a) → hs H1 a = hs H a ∧ hR H1 a = hR H a ∧ hI H1 a = hI H a := fun a ha => ⟨by rw [F1.2.1], (F1.2.2.2 a (by omega)).2, (F1.2.2.2 a (by omega)).1⟩
  have s1 : hs H1 x = (9, 14) := (e x (by omega)).1.trans C.s0
  refine And.intro s1 (And.intro (Or.inr rfl) ?_)
  have K3 : Kp (wI H1 x 3 1) (x + 161) N B := K1.same (Sm.wI (by omega))
  obtain ⟨σ3, d0, d1, d2, d3, d4, W3, g3⟩ := id K3
  have hx0 : ∀ k, k ≠ 3 → hI (wI H1 x 3 1) x k = hI H x k := fun k hk => by rw [hI_wI_k hk, (e x (by omega)).2.2]
  refine gR_of (r := x + 161) s1 (by rw [show hR (wI H1 x 3 1) x = hR H1 x from rfl, (e x (by omega)).2.1]; exact S.2.2.2.2.1) (by omega) ?_
  refine iPC W3 ?_
  repeat (refine And.intro (by first | assumption | rfl | exact Nat.le_of_ble_eq_true rfl | exact Nat.zero_le _ | decide) ?_)
  refine q _ ⟨S.same (fun b hb => ⟨(e b (by omega)).1, (e b (by omega)).2.1⟩), ⟨K2.same (Sm.wI (by omega)), (T.same (F1.sm (by omega))).same (Sm.wI (by omega))⟩, ⟨K3.sp, by rw [pk_us]; exact hI_wI_s, by rw [pk_us]; exact Or.inr rfl, fun _ => K3⟩, ?_, ?_, ?_, ?_⟩ ((XF.fr F1 (by omega) (by omega)).trans (XF.wI (Nat.le_refl x) (by omega)))
  · obtain ⟨o, r, o8, r8, a1, a2, a3, a4, a5⟩ := Hh
    exact ⟨o, r, o8, r8, by rw [hx0 5 (by decide)]; exact a1, by rw [hx0 6 (by decide)]; exact a2, by rw [pk_un (by decide)]; exact a3, fun k hk => ((a4 k hk).same (F1.sm (by omega))).same (Sm.wI (by omega)), fun k hk => ((a5 k hk).same (F1.sm (by omega))).same (Sm.wI (by omega))⟩
  · obtain ⟨i1, i2, i3, i4, i5, i6, i7⟩ := I
    exact ⟨((hx0 8 (by decide)).trans i1).trans (pk_un (by decide)).symm, ((hx0 9 (by decide)).trans i2).trans (pk_un (by decide)).symm, ((hx0 10 (by decide)).trans i3).trans (pk_un (by decide)).symm, ((hx0 11 (by decide)).trans i4).trans (pk_un (by decide)).symm, ((hx0 12 (by decide)).trans i5).trans (pk_un (by decide)).symm, by rw [pk_un (by decide)]; exact i6, by rw [pk_un (by decide)]; exact i7⟩
  · obtain ⟨n, n1, n2, n3, n4⟩ := Tx
    exact ⟨n, n1, by rw [pk_un (by decide)]; exact n2, by rw [hI_wI_o (by omega), (e _ (by omega)).2.2]; exact n3, fun k hk => by rw [hI_wI_o (by omega), (e _ (by omega)).2.2]; exact n4 k hk⟩
  · exact M.same (fun i hi => (hI_wI_o (by omega)).trans (e _ (by omega)).2.2)
theorem e_restore {l : Launch} (hst : l.stackTraces = false) {Q : Option Value → Hp → Prop} {X : String → Hp → Prop} {H : Hp} {x : Nat} {N F : Nat → Int32} {hi : Nat → Nat → Int32} {sv : Nat → Int32} {sm : Nat → Nat → Int32} {hd tx : Nat → Int32} {B : Int} (C : CR H x N F hi sv sm hd tx B) (x1 : (F 6 = 0) → ∀ n, hn H ≤ n → X "java/lang/IllegalStateException" (hxn H n)) (q : ∀ H', F 6 = 1 → CR H' x sv (upd F 5 0) hi sv sm hd tx B → XF x H H' → Q (some (.int (sv 0))) H') : CX8_restore l [.ref x] H Q X := by
  obtain ⟨S, ⟨K0, T⟩, V, Hh, I, Tx, M⟩ := id C
  obtain ⟨σ, c0, c1, c2, c3, c4, W, g⟩ := C.wv
  refine eX8_restore hst (Nat.le_of_ble_eq_true rfl) (fun K => ?_)
  refine gI_of C.s0 V.2.1 ?_
  refine And.intro (fun hz => ?_) (fun hz => ?_)
  · have h1 : F 6 = 1 := V.2.2.1.resolve_left hz
    refine xw C ?_
    refine xsv C ?_
    obtain ⟨σs, Ss⟩ := id K0.sp
    (repeat (refine And.intro (by first | assumption | rfl | exact Nat.le_of_ble_eq_true rfl | exact Nat.zero_le _ | decide) ?_)); refine And.intro (Ss.2.1) ?_; (repeat (refine And.intro (by first | assumption | rfl | exact Nat.le_of_ble_eq_true rfl | exact Nat.zero_le _ | decide) ?_))
    refine d_copyK hst K0.sp (V.2.2.2 h1) (by omega) (fun H1 F1 K1 K2 => ?_)
    have C1 := C.world F1 K1 (Int.le_refl _) g.b16
    (repeat (refine And.intro (by first | assumption | rfl | exact Nat.le_of_ble_eq_true rfl | exact Nat.zero_le _ | decide) ?_)); refine And.intro (C1.s0) ?_; (repeat (refine And.intro (by first | assumption | rfl | exact Nat.le_of_ble_eq_true rfl | exact Nat.zero_le _ | decide) ?_))
    refine d_forget hst C1 (fun H2 C2 F2 => ?_)
    refine xw C2 ?_
    obtain ⟨σ2, d0, d1, d2, d3, d4, W2, g2⟩ := C2.wv
    refine iPC W2 ?_
    repeat (refine And.intro (by first | assumption | rfl | exact Nat.le_of_ble_eq_true rfl | exact Nat.zero_le _ | decide) ?_)
    exact q H2 h1 C2 ((XF.fr F1 (by omega) (by omega)).trans F2)
  · exact ⟨Nat.le_of_ble_eq_true rfl, Nat.le_of_ble_eq_true rfl, x1 hz⟩
theorem e_reason {l : Launch} (hst : l.stackTraces = false) {Q : Option Value → Hp → Prop} {X : String → Hp → Prop} {H : Hp} {x : Nat} {N F : Nat → Int32} {hi : Nat → Nat → Int32} {sv : Nat → Int32} {sm : Nat → Nat → Int32} {hd tx : Nat → Int32} {B : Int} (C : CR H x N F hi sv sm hd tx B) {O : Int32} (x1 : (¬ (0 ≤ O ∧ O ≤ 2)) → ∀ n, hn H ≤ n → X "java/lang/IllegalArgumentException" (hxn H n)) (x2 : ((0 ≤ O ∧ O ≤ 2) ∧ (F 7 = 0 ∨ (O ≠ 0 ∧ F 7 ≠ 3))) → ∀ n, hn H ≤ n → X "java/util/NoSuchElementException" (hxn H n)) (q : ∀ k, O = nI k → k < 3 → F 7 ≠ 0 → (k = 0 ∨ F 7 = 3) → Q (some (.int (if k = 0 then F 7 else if k = 1 then F 8 else F 9))) H) : CX8_reason l [.ref x, .int O] H Q X := by
  obtain ⟨i1, i2, i3, i4, i5, i6, i7⟩ := C.2.2.2.2.1
  refine eX8_reason hst (Nat.le_of_ble_eq_true rfl) (fun K => ?_)
  repeat (refine And.intro (by first | assumption | rfl | exact Nat.le_of_ble_eq_true rfl | exact Nat.zero_le _ | decide) ?_)
  refine d_needRange hst (fun hv => ?_) (fun hv => x1 hv)
  have go : F 7 ≠ 0 → (O = 0 ∨ F 7 = 3) → ∀ u : Nat × Nat, u.1 ≤ rmX8_reason.cells → u.2 ≤ rmX8_reason.slots → fX8_reason_36 l Q X K (lv_args 0 [.ref x, .int O]) [] H u := by
    intro h0 h1 u u1 u2
    refine ⟨fun z => ?_, fun z => ⟨fun y => ?_, fun y => ?_⟩⟩
    · refine gI_of C.s0 i3 ?_
      repeat (refine And.intro (by first | assumption | rfl | exact Nat.le_of_ble_eq_true rfl | exact Nat.zero_le _ | decide) ?_)
      exact q 0 (tz (by omega) (by decide)) (by decide) h0 (Or.inl rfl)
    · refine gI_of C.s0 i4 ?_
      repeat (refine And.intro (by first | assumption | rfl | exact Nat.le_of_ble_eq_true rfl | exact Nat.zero_le _ | decide) ?_)
      have e1 : O = nI 1 := tz (by omega) (by decide)
      refine q 1 e1 (by decide) h0 (Or.inr (h1.resolve_left (fun z => ?_)))
      rw [e1] at z; exact absurd z (by decide)
    · refine gI_of C.s0 i5 ?_
      repeat (refine And.intro (by first | assumption | rfl | exact Nat.le_of_ble_eq_true rfl | exact Nat.zero_le _ | decide) ?_)
      have a' : (0 : Int) ≤ O.toInt := Int32.le_iff_toInt_le.mp hv.1
      have b' : O.toInt ≤ 2 := Int32.le_iff_toInt_le.mp hv.2
      have e1 : O = nI 2 := tz (by omega) (by decide)
      refine q 2 e1 (by decide) h0 (Or.inr (h1.resolve_left (fun z => ?_)))
      rw [e1] at z; exact absurd z (by decide)
  refine gI_of C.s0 i3 ?_
  refine And.intro (fun h7 => ?_) (fun h7 => ?_)
  · exact ⟨Nat.le_of_ble_eq_true rfl, Nat.le_of_ble_eq_true rfl, x2 ⟨hv, Or.inl h7⟩⟩
  · refine And.intro (fun hO => ?_) (fun hO => ?_)
    · exact go h7 (Or.inl hO) _ (Nat.le_of_ble_eq_true rfl) (Nat.le_of_ble_eq_true rfl)
    · refine gI_of C.s0 i3 ?_
      refine And.intro (fun h3 => ?_) (fun h3 => ?_)
      · exact go h7 (Or.inr h3) _ (Nat.le_of_ble_eq_true rfl) (Nat.le_of_ble_eq_true rfl)
      · exact ⟨Nat.le_of_ble_eq_true rfl, Nat.le_of_ble_eq_true rfl, x2 ⟨hv, Or.inr ⟨hO, h3⟩⟩⟩
theorem e_errorPosition {l : Launch} (hst : l.stackTraces = false) {Q : Option Value → Hp → Prop} {X : String → Hp → Prop} {H : Hp} {x : Nat} {N F : Nat → Int32} {hi : Nat → Nat → Int32} {sv : Nat → Int32} {sm : Nat → Nat → Int32} {hd tx : Nat → Int32} {B : Int} (C : CR H x N F hi sv sm hd tx B) (x1 : (F 18 = -1) → ∀ n, hn H ≤ n → X "java/util/NoSuchElementException" (hxn H n)) (q : F 18 ≠ -1 → Q (some (.int (F 18))) H) : CX8_errorPosition l [.ref x] H Q X := by
  obtain ⟨i1, i2, i3, i4, i5, i6, i7⟩ := C.2.2.2.2.1
  refine eX8_errorPosition hst (Nat.le_of_ble_eq_true rfl) (fun K => ?_)
  refine gI_of C.s0 i1 ?_
  refine And.intro (fun hz => ?_) (fun hz => ?_)
  · refine gI_of C.s0 i1 ?_
    repeat (refine And.intro (by first | assumption | rfl | exact Nat.le_of_ble_eq_true rfl | exact Nat.zero_le _ | decide) ?_)
    exact q hz
  · exact ⟨Nat.le_of_ble_eq_true rfl, Nat.le_of_ble_eq_true rfl, x1 hz⟩
theorem e_refused {l : Launch} (hst : l.stackTraces = false) {Q : Option Value → Hp → Prop} {X : String → Hp → Prop} {H : Hp} {x : Nat} {N F : Nat → Int32} {hi : Nat → Nat → Int32} {sv : Nat → Int32} {sm : Nat → Nat → Int32} {hd tx : Nat → Int32} {B : Int} (C : CR H x N F hi sv sm hd tx B) (x1 : (F 19 = -1) → ∀ n, hn H ≤ n → X "java/util/NoSuchElementException" (hxn H n)) (q : F 19 ≠ -1 → Q (some (.int (F 19))) H) : CX8_refused l [.ref x] H Q X := by
  obtain ⟨i1, i2, i3, i4, i5, i6, i7⟩ := C.2.2.2.2.1
  refine eX8_refused hst (Nat.le_of_ble_eq_true rfl) (fun K => ?_)
  refine gI_of C.s0 i2 ?_
  refine And.intro (fun hz => ?_) (fun hz => ?_)
  · refine gI_of C.s0 i2 ?_
    repeat (refine And.intro (by first | assumption | rfl | exact Nat.le_of_ble_eq_true rfl | exact Nat.zero_le _ | decide) ?_)
    exact q hz
  · exact ⟨Nat.le_of_ble_eq_true rfl, Nat.le_of_ble_eq_true rfl, x1 hz⟩
end G1

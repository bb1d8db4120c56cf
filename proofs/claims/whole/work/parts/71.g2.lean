section G2
/-- filled places of the shelf a among the first n -/
def s_fill (hd : Nat → Int32) (a : Nat) : Nat → Nat
  | 0 => 0
  | n + 1 => s_fill hd a n + (if hd (a * 3 + n) = 0 then 0 else 1)
theorem s_fill_le (hd : Nat → Int32) (a : Nat) : ∀ n, s_fill hd a n ≤ n
  | 0 => Nat.le_refl _
  | n + 1 => by
    have := s_fill_le hd a n
    have e : s_fill hd a (n + 1) = s_fill hd a n + (if hd (a * 3 + n) = 0 then 0 else 1) := rfl
    rw [e]
    split <;> omega
/-- a sample put -/
def p_sm (sm : Nat → Nat → Int32) (i : Nat) (a b c d : Int32) : Nat → Nat → Int32 := fun k j => if k = i then (if j = 0 then a else if j = 1 then b else if j = 2 then c else d) else sm k j
theorem gZ_of {H : Hp} {a k ci n : Nat} {v : Int32} {f : FT} {L : LV} {St : List Value} {u : Nat × Nat} (e1 : hs H a = (ci + 1, n)) (hv : v = 0 ∨ v = 1) (q : f L St (wI H a k v) u) : o_pZ ci n k f L (.int v :: .ref a :: St) H u := ⟨e1, hv, q⟩
theorem asm {H : Hp} {x : Nat} {N F : Nat → Int32} {hi : Nat → Nat → Int32} {sv : Nat → Int32} {sm : Nat → Nat → Int32} {hd tx : Nat → Int32} {B : Int} (C : CR H x N F hi sv sm hd tx B) {i : Nat} {v : Int32} (hv : v = nI i) (hi6 : i < 6) {f : FT} {L : LV} {St : List Value} {u : Nat × Nat} (q : f L (.ref (x + 888 + i) :: St) H u) : o_aaload 34 f L (.int v :: .ref (x + 247) :: St) H u := aa_of C.1.2.2.2.2.2.2.2.2.2.2.2.1.2 hv hi6 (by decide) (C.1.2.2.2.2.2.2.2.2.2.2.2.2 i hi6).1 (by omega) q
theorem CR.sk {H : Hp} {x : Nat} {N F : Nat → Int32} {hi : Nat → Nat → Int32} {sv : Nat → Int32} {sm : Nat → Nat → Int32} {hd tx : Nat → Int32} {B : Int} (C : CR H x N F hi sv sm hd tx B) {i : Nat} (hi6 : i < 6) : hs H (x + 888 + i) = (5, 5) := (C.1.2.2.2.2.2.2.2.2.2.2.2.2 i hi6).2
theorem ix3s (a k : Nat) : nI a * 3 + nI k = nI (a * 3 + k) := by rw [show (3 : Int32) = nI 3 from rfl, pk_mul, nI_add]
theorem d_filled {l : Launch} (hst : l.stackTraces = false) {Q : Option Value → Hp → Prop} {X : String → Hp → Prop} {H : Hp} {x : Nat} {N F : Nat → Int32} {hi : Nat → Nat → Int32} {sv : Nat → Int32} {sm : Nat → Nat → Int32} {hd tx : Nat → Int32} {B : Int} (C : CR H x N F hi sv sm hd tx B) {a : Nat} (ha : a < 2) {A : Int32} (hA : A = nI a) (q : Q (some (.int (nI (s_fill hd a 3)))) H) : CX8_filledPlaces l [.ref x, .int A] H Q X := by
  subst hA
  have M := C.2.2.2.2.2.2
  refine eX8_filledPlaces hst (Nat.le_of_ble_eq_true rfl) (fun K hK => ?_)
  have hk : ∀ (n i : Nat), i + n = 3 → K 4 [(3, .int (nI i)), (2, .int (nI (s_fill hd a i))), (0, .ref x), (1, .int (nI a))] [] H (0, 0) ∧ K 4 [(2, .int (nI (s_fill hd a i))), (3, .int (nI i)), (0, .ref x), (1, .int (nI a))] [] H (0, 0) := by
    intro n
    induction n with
    | zero =>
      intro i hi
      have ei : i = 3 := by omega
      subst ei
      constructor
      all_goals
        refine hK _ _ _ _ ?_
        refine And.intro (fun hcc => ?_) (fun hcc => ?_)
        · repeat (refine And.intro (by first | assumption | rfl | exact Nat.le_of_ble_eq_true rfl | exact Nat.zero_le _ | decide) ?_)
          exact q
        · exact absurd (show nI 3 ≤ nI 3 from Int32.le_refl _) hcc
    | succ n ih =>
      intro i hi
      obtain ⟨ih1, ih2⟩ := ih (i + 1) (by omega)
      have i6 : a * 3 + i < 6 := by omega
      obtain ⟨m1, m2, m3⟩ := M (a * 3 + i) i6
      constructor
      all_goals
        refine hK _ _ _ _ ?_
        refine And.intro (fun hcc => ?_) (fun hcc => ?_)
        · exact absurd (show nI 3 ≤ nI i from hcc) (nI_ge (by omega) (by decide))
        · refine xsm C ?_
          refine asm C (ix3s a i) i6 ?_
          refine gI_of (C.sk i6) m2 ?_
          have e : s_fill hd a (i + 1) = s_fill hd a i + (if hd (a * 3 + i) = 0 then 0 else 1) := rfl
          refine And.intro (fun hz => ?_) (fun hz => ?_)
          · rw [if_pos hz, Nat.add_zero] at e
            first
              | (rw [e, ← nI_1 i] at ih1; exact ih1)
              | (rw [e, ← nI_1 i] at ih2; exact ih2)
          · rw [if_neg hz] at e
            first
              | (rw [e, ← nI_1 i, ← nI_1 (s_fill hd a i)] at ih1; exact ih1)
              | (rw [e, ← nI_1 i, ← nI_1 (s_fill hd a i)] at ih2; exact ih2)
  exact (hk 3 0 rfl).1
/-- the cell of a sample changes -/
theorem CR.smp {H H' : Hp} {x : Nat} {N F : Nat → Int32} {hi : Nat → Nat → Int32} {sv : Nat → Int32} {sm : Nat → Nat → Int32} {hd tx : Nat → Int32} {B : Int} (C : CR H x N F hi sv sm hd tx B) {i : Nat} (hi6 : i < 6) (e1 : hs H' = hs H) (e2 : hR H' = hR H) (e3 : ∀ a, a ≠ x + 888 + i → hI H' a = hI H a) {a b c d : Int32} (f0 : hI H' (x + 888 + i) 0 = 1) (f1 : hI H' (x + 888 + i) 1 = a) (f2 : hI H' (x + 888 + i) 2 = b) (f3 : hI H' (x + 888 + i) 3 = c) (f4 : hI H' (x + 888 + i) 4 = d) : CR H' x N F hi sv (p_sm sm i a b c d) (upd hd i 1) tx B := by
  obtain ⟨S, ⟨K0, T⟩, V, Hh, I, Tx, M⟩ := C
  have smm : ∀ a n, (a + n ≤ x + 888) → Sm H H' a n := fun a n ha b h1 h2 => ⟨by rw [e1], by rw [e2], e3 b (by omega)⟩
  refine ⟨S.same (fun b hb => ⟨by rw [e1], by rw [e2]⟩), ⟨K0.same (smm _ _ (by omega)), T.same (smm _ _ (by omega))⟩, V.same (e3 x (by omega)) (smm _ _ (by omega)), Hh.same (e3 x (by omega)) (smm _ _ (by omega)), I.same (e3 x (by omega)), Tx.same (e3 _ (by omega)) (e3 _ (by omega)), fun k hk => ?_⟩
  by_cases z : k = i
  · subst z
    rw [pk_us, f0, f1, f2, f3, f4]
    unfold p_sm
    refine ⟨Or.inr rfl, rfl, fun _ => ⟨?_, ?_, ?_, ?_⟩⟩
    · rw [if_pos rfl, if_pos rfl]
    · rw [if_pos rfl, if_neg (by decide), if_pos rfl]
    · rw [if_pos rfl, if_neg (by decide), if_neg (by decide), if_pos rfl]
    · rw [if_pos rfl, if_neg (by decide), if_neg (by decide), if_neg (by decide)]
  · rw [pk_un z, e3 _ (by omega)]
    unfold p_sm
    rw [if_neg z, if_neg z, if_neg z, if_neg z]
    exact M k hk
theorem e_sample {l : Launch} (hst : l.stackTraces = false) {Q : Option Value → Hp → Prop} {X : String → Hp → Prop} {H : Hp} {x : Nat} {N F : Nat → Int32} {hi : Nat → Nat → Int32} {sv : Nat → Int32} {sm : Nat → Nat → Int32} {hd tx : Nat → Int32} {B : Int} (C : CR H x N F hi sv sm hd tx B) {σ : Nat → Nat} {c0 c1 c2 c3 c4 : Nat} (W : Wv [] H H (x + 1) σ σ N c0 c1 c2 c3 c4) (g : GI N c0 c1 c2 c3 c4 B) {S O P : Int32} (x1 : (¬ (((0 ≤ S ∧ S < 2) ∧ 0 ≤ O ∧ O < 3) ∧ (0 ≤ P ∧ P < nI c0))) → ∀ n, hn H ≤ n → X "java/lang/IndexOutOfBoundsException" (hxn H n)) (x2 : ((((0 ≤ S ∧ S < 2) ∧ 0 ≤ O ∧ O < 3) ∧ (0 ≤ P ∧ P < nI c0)) ∧ S = 0 ∧ ∃ p, P = nI p ∧ p < c0 ∧ ¬ s_pos N p < N (7 + p * 23 + 2)) → ∀ n, hn H ≤ n → X "java/lang/UnsupportedOperationException" (hxn H n)) (q : ∀ a b p H', S = nI a → a < 2 → O = nI b → b < 3 → P = nI p → p < c0 → (a = 0 → s_pos N p < N (7 + p * 23 + 2)) → CR H' x N F hi sv (p_sm sm (a * 3 + b) (nI p) (N (7 + p * 23 + 0)) (s_pos N p) (N 5)) (upd hd (a * 3 + b) 1) tx B → XF x H H' → Q (some (.int (nI (s_fill (upd hd (a * 3 + b) 1) a 3)))) H') : CX8_sample l [.ref x, .int S, .int O, .int P] H Q X := by
  have k8 := W.1.1.2
  refine eX8_sample hst (Nat.le_of_ble_eq_true rfl) (fun K => ?_)
  repeat (refine And.intro (by first | assumption | rfl | exact Nat.le_of_ble_eq_true rfl | exact Nat.zero_le _ | decide) ?_)
  refine d_needPlace hst (fun hv => ?_) (fun hv => x1 (fun z => hv z.1))
  obtain ⟨a, a2, ea⟩ := in9 (c := 2) (by decide) hv.1
  obtain ⟨b, b3, eb⟩ := in9 (c := 3) (by decide) hv.2
  (repeat (refine And.intro (by first | assumption | rfl | exact Nat.le_of_ble_eq_true rfl | exact Nat.zero_le _ | decide) ?_)); refine And.intro (C.s0) ?_; (repeat (refine And.intro (by first | assumption | rfl | exact Nat.le_of_ble_eq_true rfl | exact Nat.zero_le _ | decide) ?_))
  refine d_needPart hst C W.1.1.1 W.1.1.2 (fun hP => ?_) (fun hP => x1 (fun z => hP z.2))
  obtain ⟨p, p1, p2⟩ := in9 (by omega) hP
  subst p2
  refine xw C ?_
  (repeat (refine And.intro (by first | assumption | rfl | exact Nat.le_of_ble_eq_true rfl | exact Nat.zero_le _ | decide) ?_)); refine And.intro (W.k.s_w) ?_; (repeat (refine And.intro (by first | assumption | rfl | exact Nat.le_of_ble_eq_true rfl | exact Nat.zero_le _ | decide) ?_))
  refine d_positionOf hst W (fun _ _ => rfl) (fun _ _ => rfl) (fun _ _ => rfl) rfl p1 ?_
  have i6 : a * 3 + b < 6 := by omega
  have go : (a = 0 → s_pos N p < N (7 + p * 23 + 2)) → ∀ u : Nat × Nat, u.1 ≤ rmX8_sample.cells → u.2 ≤ rmX8_sample.slots → fX8_sample_52 l Q X K [(4, .int (s_pos N p)), (0, .ref x), (1, .int S), (2, .int O), (3, .int (nI p))] [] H u := by
    intro h0 u u1 u2
    refine xsm C ?_
    refine asm C (show S * 3 + O = nI (a * 3 + b) by rw [ea, eb]; exact ix3s a b) i6 ?_
    refine gZ_of (C.sk i6) (Or.inr rfl) ?_
    generalize hz : x + 888 + (a * 3 + b) = z
    have sz : hs H z = (5, 5) := by rw [← hz]; exact C.sk i6
    have oth : ∀ (H' : Hp), hs H' = hs H → hR H' = hR H → (∀ c, c ≠ z → hI H' c = hI H c) → Sm H H' x 888 := fun H' e1 e2 e3 c h1 h2 => ⟨by rw [e1], by rw [e2], e3 c (by omega)⟩
    refine pI_of sz ?_
    have W1 : ∀ (H' : Hp), hs H' = hs H → hR H' = hR H → (∀ c, c ≠ z → hI H' c = hI H c) → Wk H' H' (x + 1) σ σ N (vld N c0 c1 c2 c3 c4) ∧ hs H' x = (9, 14) ∧ hR H' x 0 = x + 1 := fun H' e1 e2 e3 => ⟨⟨Fr.rfl' _ _, W.k.2.same (fun c h1 h2 => ⟨by rw [e1], by rw [e2]⟩) (fun c h1 h2 => e3 c (by omega))⟩, by rw [e1]; exact C.s0, by rw [e2]; exact C.1.2.2.1⟩
    have w1 := W1 (wI (wI H z 0 1) z 1 (nI p)) rfl rfl (fun c hc => (hI_wI_o hc).trans (hI_wI_o hc))
    refine gR_of w1.2.1 w1.2.2 (by omega) ?_
    refine gParts w1.1 ?_
    refine aPart w1.1 rfl (W.p8 p1) ?_
    refine iPartk w1.1 (W.p8 p1) (k := 0) (by decide) (v_part p1 (by omega) (by omega)) ?_
    refine pI_of sz ?_
    refine pI_of sz ?_
    generalize hH4 : wI (wI (wI (wI H z 0 1) z 1 (nI p)) z 2 (N (7 + p * 23 + 0))) z 3 (s_pos N p) = H4
    have h4o : ∀ c, c ≠ z → hI H4 c = hI H c := fun c hc => by
      rw [← hH4]
      exact (hI_wI_o hc).trans ((hI_wI_o hc).trans ((hI_wI_o hc).trans (hI_wI_o hc)))
    have h4s : hs H4 = hs H := by rw [← hH4]; rfl
    have h4r : hR H4 = hR H := by rw [← hH4]; rfl
    have w4 := W1 H4 h4s h4r h4o
    refine gR_of w4.2.1 w4.2.2 (by omega) ?_
    refine iDayk w4.1 (Or.inl (by decide)) ?_
    refine pI_of (by rw [h4s]; exact sz) ?_
    have g4 : hI H4 z 0 = 1 ∧ hI H4 z 1 = nI p ∧ hI H4 z 2 = N (7 + p * 23 + 0) ∧ hI H4 z 3 = s_pos N p := by
      rw [← hH4]
      exact ⟨(hI_wI_k (by decide)).trans ((hI_wI_k (by decide)).trans ((hI_wI_k (by decide)).trans hI_wI_s)), (hI_wI_k (by decide)).trans ((hI_wI_k (by decide)).trans hI_wI_s), (hI_wI_k (by decide)).trans hI_wI_s, hI_wI_s⟩
    have C5 : CR (wI H4 z 4 (N 5)) x N F hi sv (p_sm sm (a * 3 + b) (nI p) (N (7 + p * 23 + 0)) (s_pos N p) (N 5)) (upd hd (a * 3 + b) 1) tx B := C.smp (H' := wI H4 z 4 (N 5)) i6 h4s h4r (fun c hc => (hI_wI_o (by rw [← hz]; exact hc)).trans (h4o c (by rw [← hz]; exact hc))) (by rw [hz]; exact (hI_wI_k (by decide)).trans g4.1) (by rw [hz]; exact (hI_wI_k (by decide)).trans g4.2.1) (by rw [hz]; exact (hI_wI_k (by decide)).trans g4.2.2.1) (by rw [hz]; exact (hI_wI_k (by decide)).trans g4.2.2.2) (by rw [hz]; exact hI_wI_s)
    refine And.intro rfl (And.intro (Nat.le_of_ble_eq_true rfl) (And.intro C5.s0 (And.intro u1 (And.intro u2 ?_))))
    refine d_filled hst C5 a2 ea ?_
    refine ⟨u1, u2, ?_⟩
    refine q a b p _ ea a2 eb b3 rfl p1 h0 C5 ⟨h4s, ?_, fun c hc => ⟨(hI_wI_o (by omega)).trans (h4o c (by omega)), congrFun h4r c⟩⟩
    show H4.2.2.2.2 = H.2.2.2.2
    rw [← hH4]; rfl
  refine And.intro (fun hS => ?_) (fun hS => ?_)
  · refine go (fun z => ?_) _ (Nat.le_of_ble_eq_true rfl) (Nat.le_of_ble_eq_true rfl)
    rw [z] at ea
    exact absurd ea hS
  · refine xw C ?_
    refine gParts W.k ?_
    refine aPart W.k rfl (W.p8 p1) ?_
    refine iPart W p1 (k := 2) (by decide) ?_
    refine And.intro (fun hl => ?_) (fun hl => ?_)
    · exact go (fun _ => hl) _ (Nat.le_of_ble_eq_true rfl) (Nat.le_of_ble_eq_true rfl)
    · exact ⟨Nat.le_of_ble_eq_true rfl, Nat.le_of_ble_eq_true rfl, x2 ⟨⟨hv, hP⟩, hS, p, rfl, p1, hl⟩⟩
theorem e_sampled {l : Launch} (hst : l.stackTraces = false) {Q : Option Value → Hp → Prop} {X : String → Hp → Prop} {H : Hp} {x : Nat} {N F : Nat → Int32} {hi : Nat → Nat → Int32} {sv : Nat → Int32} {sm : Nat → Nat → Int32} {hd tx : Nat → Int32} {B : Int} (C : CR H x N F hi sv sm hd tx B) {S O P : Int32} (x1 : (¬ ((0 ≤ S ∧ S < 2) ∧ 0 ≤ O ∧ O < 3)) → ∀ n, hn H ≤ n → X "java/lang/IndexOutOfBoundsException" (hxn H n)) (x2 : (((0 ≤ S ∧ S < 2) ∧ 0 ≤ O ∧ O < 3) ∧ ¬ (0 ≤ P ∧ P ≤ 3)) → ∀ n, hn H ≤ n → X "java/lang/IllegalArgumentException" (hxn H n)) (x3 : (∃ a b, S = nI a ∧ a < 2 ∧ O = nI b ∧ b < 3 ∧ (0 ≤ P ∧ P ≤ 3) ∧ hd (a * 3 + b) = 0) → ∀ n, hn H ≤ n → X "java/util/NoSuchElementException" (hxn H n)) (q : ∀ a b k, S = nI a → a < 2 → O = nI b → b < 3 → P = nI k → k < 4 → hd (a * 3 + b) ≠ 0 → Q (some (.int (sm (a * 3 + b) k))) H) : CX8_sampled l [.ref x, .int S, .int O, .int P] H Q X := by
  refine eX8_sampled hst (Nat.le_of_ble_eq_true rfl) (fun K => ?_)
  repeat (refine And.intro (by first | assumption | rfl | exact Nat.le_of_ble_eq_true rfl | exact Nat.zero_le _ | decide) ?_)
  refine d_needPlace hst (fun hv => ?_) (fun hv => x1 hv)
  obtain ⟨a, a2, ea⟩ := in9 (c := 2) (by decide) hv.1
  obtain ⟨b, b3, eb⟩ := in9 (c := 3) (by decide) hv.2
  repeat (refine And.intro (by first | assumption | rfl | exact Nat.le_of_ble_eq_true rfl | exact Nat.zero_le _ | decide) ?_)
  refine d_needRange hst (fun hp => ?_) (fun hp => x2 ⟨hv, hp⟩)
  have i6 : a * 3 + b < 6 := by omega
  obtain ⟨m1, m2, m3⟩ := C.2.2.2.2.2.2 (a * 3 + b) i6
  refine xsm C ?_
  refine asm C (show S * 3 + O = nI (a * 3 + b) by rw [ea, eb]; exact ix3s a b) i6 ?_
  refine gI_of (C.sk i6) m2 ?_
  refine And.intro (fun hz => ?_) (fun hz => ?_)
  · have h1 : hd (a * 3 + b) = 1 := m1.resolve_left hz
    obtain ⟨n1, n2, n3, n4⟩ := m3 h1
    refine ⟨⟨fun z => ?_, fun z => ?_, fun z => ?_, trivial⟩, fun z => ?_⟩
    · refine gI_of (C.sk i6) n1 ?_
      repeat (refine And.intro (by first | assumption | rfl | exact Nat.le_of_ble_eq_true rfl | exact Nat.zero_le _ | decide) ?_)
      exact q a b 0 ea a2 eb b3 (tz (by omega) (by decide)) (by decide) hz
    · refine gI_of (C.sk i6) n2 ?_
      repeat (refine And.intro (by first | assumption | rfl | exact Nat.le_of_ble_eq_true rfl | exact Nat.zero_le _ | decide) ?_)
      exact q a b 1 ea a2 eb b3 (tz (by omega) (by decide)) (by decide) hz
    · refine gI_of (C.sk i6) n3 ?_
      repeat (refine And.intro (by first | assumption | rfl | exact Nat.le_of_ble_eq_true rfl | exact Nat.zero_le _ | decide) ?_)
      exact q a b 2 ea a2 eb b3 (tz (by omega) (by decide)) (by decide) hz
    · refine gI_of (C.sk i6) n4 ?_
      repeat (refine And.intro (by first | assumption | rfl | exact Nat.le_of_ble_eq_true rfl | exact Nat.zero_le _ | decide) ?_)
      have z' : P.toInt < 0 ∨ 3 ≤ P.toInt := z
      have a' : (0 : Int) ≤ P.toInt := Int32.le_iff_toInt_le.mp hp.1
      have b' : P.toInt ≤ 3 := Int32.le_iff_toInt_le.mp hp.2
      exact q a b 3 ea a2 eb b3 (tz (by omega) (by decide)) (by decide) hz
  · exact ⟨Nat.le_of_ble_eq_true rfl, Nat.le_of_ble_eq_true rfl, x3 ⟨a, b, ea, a2, eb, b3, hp, hz⟩⟩
/-- the text's cells change -/
theorem CR.txt {H H' : Hp} {x : Nat} {N F : Nat → Int32} {hi : Nat → Nat → Int32} {sv : Nat → Int32} {sm : Nat → Nat → Int32} {hd tx : Nat → Int32} {B : Int} (C : CR H x N F hi sv sm hd tx B) (e1 : hs H' = hs H) (e2 : hR H' = hR H) (e3 : ∀ a, (a < x + 242 ∨ x + 247 ≤ a) → hI H' a = hI H a) {n : Nat} {tx' : Nat → Int32} (n1 : n ≤ 60) (n3 : hI H' (x + 242) 1 = nI n) (n4 : ∀ k, k < n → hI H' (x + 243) k = tx' k ∧ 32 ≤ tx' k ∧ tx' k ≤ 126) : CR H' x N (upd F 16 (nI n)) hi sv sm hd tx' B := by
  obtain ⟨S, ⟨K0, T⟩, V, ⟨o, r, o8, r8, a1, a2, a3, a4, a5⟩, I, Tx, M⟩ := C
  have smm : ∀ a n, (a + n ≤ x + 242 ∨ x + 247 ≤ a) → Sm H H' a n := fun a n ha b h1 h2 => ⟨by rw [e1], by rw [e2], e3 b (by omega)⟩
  have ex := e3 x (by omega)
  refine ⟨S.same (fun b hb => ⟨by rw [e1], by rw [e2]⟩), ⟨K0.same (smm _ _ (by omega)), T.same (smm _ _ (by omega))⟩, ?_, ⟨o, r, o8, r8, by rw [ex]; exact a1, by rw [ex]; exact a2, by rw [pk_un (by decide)]; exact a3, fun k hk => (a4 k hk).same (smm _ _ (by omega)), fun k hk => (a5 k hk).same (smm _ _ (by omega))⟩, ?_, ⟨n, n1, pk_us, n3, n4⟩, M.same (fun i hi => e3 _ (by omega))⟩
  · unfold XV
    rw [pk_un (by decide)]
    exact V.same ex (smm _ _ (by omega))
  · have := I.same ex
    unfold XI at *
    rw [pk_un (by decide), pk_un (by decide), pk_un (by decide), pk_un (by decide), pk_un (by decide)]
    exact this
theorem cs_of {H : Hp} {a n j : Nat} {i v : Int32} {f : FT} {L : LV} {St : List Value} {u : Nat × Nat} (e1 : hs H a = (22, n)) (hi : i = nI j) (hj : j < n) (hn : n < 2 ^ 31) (hv : narrow .char (.int v) = .int v) (q : f L St (wI H a j v) u) : o_castore f L (.int v :: .int i :: .ref a :: St) H u := by
  subst hi
  have c : (nI j).toNatClampNeg = j := nI_clamp (by omega)
  refine ⟨by rw [e1], by rw [e1]; exact vp_in_nI hj hn, hv, ?_⟩
  rw [c]; exact q
theorem ca_of {H : Hp} {a n j : Nat} {i v : Int32} {f : FT} {L : LV} {St : List Value} {u : Nat × Nat} (e1 : hs H a = (22, n)) (hi : i = nI j) (hj : j < n) (hn : n < 2 ^ 31) (hv : hI H a j = v) (q : f L (.int v :: St) H u) : o_caload f L (.int i :: .ref a :: St) H u := by
  subst hi; subst hv
  have c : (nI j).toNatClampNeg = j := nI_clamp (by omega)
  refine ⟨by rw [e1], by rw [e1]; exact vp_in_nI hj hn, ?_⟩
  rw [c]; exact q
theorem e_append {l : Launch} (hst : l.stackTraces = false) {Q : Option Value → Hp → Prop} {X : String → Hp → Prop} {H : Hp} {x : Nat} {N F : Nat → Int32} {hi : Nat → Nat → Int32} {sv : Nat → Int32} {sm : Nat → Nat → Int32} {hd tx : Nat → Int32} {B : Int} (C : CR H x N F hi sv sm hd tx B) {O : Int32} (x1 : (¬ (32 ≤ O ∧ O ≤ 126)) → ∀ n, hn H ≤ n → X "java/lang/IllegalArgumentException" (hxn H n)) (x2 : ((32 ≤ O ∧ O ≤ 126) ∧ F 16 = 60) → ∀ n, hn H ≤ n → X "java/lang/IllegalStateException" (hxn H n)) (q : ∀ n H', 32 ≤ O ∧ O ≤ 126 → n < 60 → F 16 = nI n → CR H' x N (upd F 16 (nI (n + 1))) hi sv sm hd (upd tx n O) B → XF x H H' → Q (some (.int (nI (n + 1)))) H') : CX8_append l [.ref x, .int O] H Q X := by
  obtain ⟨n, n1, n2, n3, n4⟩ := id C.2.2.2.2.2.1
  have t0 := C.1.2.2.2.2.2.2.1.2
  have t1 := C.1.2.2.2.2.2.2.2.1
  refine eX8_append hst (Nat.le_of_ble_eq_true rfl) (fun K => ?_)
  repeat (refine And.intro (by first | assumption | rfl | exact Nat.le_of_ble_eq_true rfl | exact Nat.zero_le _ | decide) ?_)
  refine d_needRange hst (fun hv => ?_) (fun hv => x1 hv)
  refine xtx C ?_
  refine gI_of t0 n3 ?_
  refine And.intro (fun hc => ?_) (fun hc => ?_)
  · have n6 : n < 60 := (nI_ltI (by omega) (by decide)).mp (show nI n < nI 60 from hc)
    have hch : narrow .char (.int O) = .int O := by
      obtain ⟨j, j1, j2⟩ := nI_of2 (n := 126) rfl (fun z => absurd (Int32.le_trans hv.1 (Int32.le_of_lt z)) (by decide)) hv.2
      subst j2
      exact (pk_charN (by omega)).1
    refine xtx C ?_
    refine gR_of t0 t1.1 (by omega) ?_
    refine xtx C ?_
    refine gI_of t0 n3 ?_
    refine cs_of t1.2 rfl n6 (by decide) hch ?_
    have y3 : hI (wI H (x + 243) n O) (x + 242) 1 = nI n := by rw [hI_wI_o (by omega)]; exact n3
    refine gR_of (r := x + 242) C.s0 C.1.2.2.2.2.2.2.1.1 (by omega) ?_
    refine gI_of t0 y3 ?_
    refine pI_of t0 ?_
    rw [nI_1]
    refine gR_of (r := x + 242) C.s0 C.1.2.2.2.2.2.2.1.1 (by omega) ?_
    refine gI_of t0 hI_wI_s ?_
    repeat (refine And.intro (by first | assumption | rfl | exact Nat.le_of_ble_eq_true rfl | exact Nat.zero_le _ | decide) ?_)
    refine q n _ hv n6 n2 (C.txt (H' := wI (wI H (x + 243) n O) (x + 242) 1 (nI (n + 1))) (tx' := upd tx n O) rfl rfl (fun a ha => (hI_wI_o (by omega)).trans (hI_wI_o (by omega))) (by omega) hI_wI_s (fun k hk => ?_)) ((XF.wI (by omega) (by omega)).trans (XF.wI (by omega) (by omega)))
    rw [hI_wI_o (by omega)]
    by_cases z : k = n
    · subst z
      rw [hI_wI_s, pk_us]
      exact ⟨rfl, hv⟩
    · rw [hI_wI_k z, pk_un z]
      exact n4 k (by omega)
  · have n6 : n = 60 := by
      have : ¬ n < 60 := fun z => hc (show nI n < nI 60 from nI_lt z (by decide))
      omega
    exact ⟨Nat.le_of_ble_eq_true rfl, Nat.le_of_ble_eq_true rfl, x2 ⟨hv, by rw [n2, n6]; rfl⟩⟩
end G2

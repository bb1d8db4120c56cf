section F2
theorem in9 {v : Int32} {c : Nat} (hc : c < 2 ^ 31) (h : 0 ≤ v ∧ v < nI c) : ∃ p, p < c ∧ v = nI p := by
  obtain ⟨j, j1, j2⟩ := nI_of (Int32.not_lt.mpr h.1)
  subst j2
  exact ⟨j, (nI_ltI j1 hc).mp h.2, rfl⟩
theorem xw {H : Hp} {x : Nat} {N F : Nat → Int32} {hi : Nat → Nat → Int32} {sv : Nat → Int32} {sm : Nat → Nat → Int32} {hd tx : Nat → Int32} {B : Int} (C : CR H x N F hi sv sm hd tx B) {f : FT} {L : LV} {St : List Value} {u : Nat × Nat} (q : f L (.ref (x + 1) :: St) H u) : o_gR 8 14 0 f L (.ref x :: St) H u := gR_of C.1.2.1 C.1.2.2.1 (by omega) q
theorem xt {H : Hp} {x : Nat} {N F : Nat → Int32} {hi : Nat → Nat → Int32} {sv : Nat → Int32} {sm : Nat → Nat → Int32} {hd tx : Nat → Int32} {B : Int} (C : CR H x N F hi sv sm hd tx B) {f : FT} {L : LV} {St : List Value} {u : Nat × Nat} (q : f L (.ref (x + 81) :: St) H u) : o_gR 8 14 1 f L (.ref x :: St) H u := gR_of C.1.2.1 C.1.2.2.2.1 (by omega) q
theorem xsv {H : Hp} {x : Nat} {N F : Nat → Int32} {hi : Nat → Nat → Int32} {sv : Nat → Int32} {sm : Nat → Nat → Int32} {hd tx : Nat → Int32} {B : Int} (C : CR H x N F hi sv sm hd tx B) {f : FT} {L : LV} {St : List Value} {u : Nat × Nat} (q : f L (.ref (x + 161) :: St) H u) : o_gR 8 14 2 f L (.ref x :: St) H u := gR_of C.1.2.1 C.1.2.2.2.2.1 (by omega) q
theorem xhi {H : Hp} {x : Nat} {N F : Nat → Int32} {hi : Nat → Nat → Int32} {sv : Nat → Int32} {sm : Nat → Nat → Int32} {hd tx : Nat → Int32} {B : Int} (C : CR H x N F hi sv sm hd tx B) {f : FT} {L : LV} {St : List Value} {u : Nat × Nat} (q : f L (.ref (x + 241) :: St) H u) : o_gR 8 14 4 f L (.ref x :: St) H u := gR_of C.1.2.1 C.1.2.2.2.2.2.1.1 (by omega) q
theorem xtx {H : Hp} {x : Nat} {N F : Nat → Int32} {hi : Nat → Nat → Int32} {sv : Nat → Int32} {sm : Nat → Nat → Int32} {hd tx : Nat → Int32} {B : Int} (C : CR H x N F hi sv sm hd tx B) {f : FT} {L : LV} {St : List Value} {u : Nat × Nat} (q : f L (.ref (x + 242) :: St) H u) : o_gR 8 14 7 f L (.ref x :: St) H u := gR_of C.1.2.1 C.1.2.2.2.2.2.2.1.1 (by omega) q
theorem xsm {H : Hp} {x : Nat} {N F : Nat → Int32} {hi : Nat → Nat → Int32} {sv : Nat → Int32} {sm : Nat → Nat → Int32} {hd tx : Nat → Int32} {B : Int} (C : CR H x N F hi sv sm hd tx B) {f : FT} {L : LV} {St : List Value} {u : Nat × Nat} (q : f L (.ref (x + 247) :: St) H u) : o_gR 8 14 13 f L (.ref x :: St) H u := gR_of C.1.2.1 C.1.2.2.2.2.2.2.2.2.2.2.2.1.1 (by omega) q
theorem CR.s0 {H : Hp} {x : Nat} {N F : Nat → Int32} {hi : Nat → Nat → Int32} {sv : Nat → Int32} {sm : Nat → Nat → Int32} {hd tx : Nat → Int32} {B : Int} (C : CR H x N F hi sv sm hd tx B) : hs H x = (9, 14) := C.1.2.1
theorem CR.wv {H : Hp} {x : Nat} {N F : Nat → Int32} {hi : Nat → Nat → Int32} {sv : Nat → Int32} {sm : Nat → Nat → Int32} {hd tx : Nat → Int32} {B : Int} (C : CR H x N F hi sv sm hd tx B) : ∃ (σ : Nat → Nat) (c0 c1 c2 c3 c4 : Nat), Wv [] H H (x + 1) σ σ N c0 c1 c2 c3 c4 ∧ GI N c0 c1 c2 c3 c4 B := C.2.1.1
theorem d_needRange {l : Launch} (hst : l.stackTraces = false) {Q : Option Value → Hp → Prop} {X : String → Hp → Prop} {H : Hp} {v a b : Int32} (q : a ≤ v ∧ v ≤ b → Q none H) (qx : ¬ (a ≤ v ∧ v ≤ b) → ∀ n, hn H ≤ n → X "java/lang/IllegalArgumentException" (hxn H n)) : CX8_needRange l [.int v, .int a, .int b] H Q X := by
  refine eX8_needRange hst (Nat.le_of_ble_eq_true rfl) (fun K => ?_)
  refine And.intro (fun h1 => ?_) (fun h1 => ?_)
  · exact ⟨Nat.le_of_ble_eq_true rfl, Nat.le_of_ble_eq_true rfl, qx (fun z => absurd h1 (Int32.not_lt.mpr z.1))⟩
  · refine And.intro (fun h2 => ?_) (fun h2 => ?_)
    · repeat (refine And.intro (by first | assumption | rfl | exact Nat.le_of_ble_eq_true rfl | exact Nat.zero_le _ | decide) ?_)
      exact q ⟨Int32.not_lt.mp h1, h2⟩
    · exact ⟨Nat.le_of_ble_eq_true rfl, Nat.le_of_ble_eq_true rfl, qx (fun z => h2 z.2)⟩
theorem d_needIndex {l : Launch} (hst : l.stackTraces = false) {Q : Option Value → Hp → Prop} {X : String → Hp → Prop} {H : Hp} {v c : Int32} (q : 0 ≤ v ∧ v < c → Q none H) (qx : ¬ (0 ≤ v ∧ v < c) → ∀ n, hn H ≤ n → X "java/lang/IndexOutOfBoundsException" (hxn H n)) : CX8_needIndex l [.int v, .int c] H Q X := by
  refine eX8_needIndex hst (Nat.le_of_ble_eq_true rfl) (fun K => ?_)
  refine And.intro (fun h1 => ?_) (fun h1 => ?_)
  · exact ⟨Nat.le_of_ble_eq_true rfl, Nat.le_of_ble_eq_true rfl, qx (fun z => absurd h1 (Int32.not_lt.mpr z.1))⟩
  · refine And.intro (fun h2 => ?_) (fun h2 => ?_)
    · repeat (refine And.intro (by first | assumption | rfl | exact Nat.le_of_ble_eq_true rfl | exact Nat.zero_le _ | decide) ?_)
      exact q ⟨Int32.not_lt.mp h1, h2⟩
    · exact ⟨Nat.le_of_ble_eq_true rfl, Nat.le_of_ble_eq_true rfl, qx (fun z => h2 z.2)⟩
theorem d_needPlace {l : Launch} (hst : l.stackTraces = false) {Q : Option Value → Hp → Prop} {X : String → Hp → Prop} {H : Hp} {v w : Int32} (q : (0 ≤ v ∧ v < 2) ∧ 0 ≤ w ∧ w < 3 → Q none H) (qx : ¬ ((0 ≤ v ∧ v < 2) ∧ 0 ≤ w ∧ w < 3) → ∀ n, hn H ≤ n → X "java/lang/IndexOutOfBoundsException" (hxn H n)) : CX8_needPlace l [.int v, .int w] H Q X := by
  refine eX8_needPlace hst (Nat.le_of_ble_eq_true rfl) (fun K => ?_)
  repeat (refine And.intro (by first | assumption | rfl | exact Nat.le_of_ble_eq_true rfl | exact Nat.zero_le _ | decide) ?_)
  refine d_needIndex hst (fun h1 => ?_) (fun h1 n hn => qx (fun z => h1 z.1) n hn)
  repeat (refine And.intro (by first | assumption | rfl | exact Nat.le_of_ble_eq_true rfl | exact Nat.zero_le _ | decide) ?_)
  refine d_needIndex hst (fun h2 => ?_) (fun h2 n hn => qx (fun z => h2 z.2) n hn)
  repeat (refine And.intro (by first | assumption | rfl | exact Nat.le_of_ble_eq_true rfl | exact Nat.zero_le _ | decide) ?_)
  exact q ⟨h1, h2⟩
theorem d_needPart {l : Launch} (hst : l.stackTraces = false) {Q : Option Value → Hp → Prop} {X : String → Hp → Prop} {H : Hp} {x : Nat} {N F : Nat → Int32} {hi : Nat → Nat → Int32} {sv : Nat → Int32} {sm : Nat → Nat → Int32} {hd tx : Nat → Int32} {B : Int} (C : CR H x N F hi sv sm hd tx B) {c0 : Nat} (h0 : N 0 = nI c0) (c8 : c0 ≤ 8) {v : Int32} (q : 0 ≤ v ∧ v < nI c0 → Q none H) (qx : ¬ (0 ≤ v ∧ v < nI c0) → ∀ n, hn H ≤ n → X "java/lang/IndexOutOfBoundsException" (hxn H n)) : CX8_needPart l [.ref x, .int v] H Q X := by
  obtain ⟨σ, d0, c1, c2, c3, c4, W, g⟩ := C.wv
  have e : d0 = c0 := (nI_eq (by have := W.1.1.2; omega) (by omega)).mp (W.1.1.1.symm.trans h0)
  subst e
  refine eX8_needPart hst (Nat.le_of_ble_eq_true rfl) (fun K => ?_)
  refine xw C ?_
  (repeat (refine And.intro (by first | assumption | rfl | exact Nat.le_of_ble_eq_true rfl | exact Nat.zero_le _ | decide) ?_)); refine And.intro (W.k.s_w) ?_; (repeat (refine And.intro (by first | assumption | rfl | exact Nat.le_of_ble_eq_true rfl | exact Nat.zero_le _ | decide) ?_))
  refine d_hasPart hst W ?_
  by_cases hp : 0 ≤ v ∧ v < nI d0
  · rw [if_pos hp]
    refine And.intro (fun _ => ?_) (fun z => absurd z (by decide))
    repeat (refine And.intro (by first | assumption | rfl | exact Nat.le_of_ble_eq_true rfl | exact Nat.zero_le _ | decide) ?_)
    exact q hp
  · rw [if_neg hp]
    refine And.intro (fun z => absurd rfl z) (fun _ => ?_)
    exact ⟨Nat.le_of_ble_eq_true rfl, Nat.le_of_ble_eq_true rfl, qx hp⟩
theorem d_needKit {l : Launch} (hst : l.stackTraces = false) {Q : Option Value → Hp → Prop} {X : String → Hp → Prop} {H : Hp} {x : Nat} {N F : Nat → Int32} {hi : Nat → Nat → Int32} {sv : Nat → Int32} {sm : Nat → Nat → Int32} {hd tx : Nat → Int32} {B : Int} (C : CR H x N F hi sv sm hd tx B) {c1 : Nat} (h0 : N 1 = nI c1) (c8 : c1 ≤ 4) {v : Int32} (q : 0 ≤ v ∧ v < nI c1 → Q none H) (qx : ¬ (0 ≤ v ∧ v < nI c1) → ∀ n, hn H ≤ n → X "java/lang/IndexOutOfBoundsException" (hxn H n)) : CX8_needKit l [.ref x, .int v] H Q X := by
  obtain ⟨σ, c0, d1, c2, c3, c4, W, g⟩ := C.wv
  have e : d1 = c1 := (nI_eq (by have := W.1.2.1.2; omega) (by omega)).mp (W.1.2.1.1.symm.trans h0)
  subst e
  refine eX8_needKit hst (Nat.le_of_ble_eq_true rfl) (fun K => ?_)
  refine xw C ?_
  (repeat (refine And.intro (by first | assumption | rfl | exact Nat.le_of_ble_eq_true rfl | exact Nat.zero_le _ | decide) ?_)); refine And.intro (W.k.s_w) ?_; (repeat (refine And.intro (by first | assumption | rfl | exact Nat.le_of_ble_eq_true rfl | exact Nat.zero_le _ | decide) ?_))
  refine d_hasKit hst W ?_
  by_cases hp : 0 ≤ v ∧ v < nI d1
  · rw [if_pos hp]
    refine And.intro (fun _ => ?_) (fun z => absurd z (by decide))
    repeat (refine And.intro (by first | assumption | rfl | exact Nat.le_of_ble_eq_true rfl | exact Nat.zero_le _ | decide) ?_)
    exact q hp
  · rw [if_neg hp]
    refine And.intro (fun z => absurd rfl z) (fun _ => ?_)
    exact ⟨Nat.le_of_ble_eq_true rfl, Nat.le_of_ble_eq_true rfl, qx hp⟩
theorem rem8 {n : Nat} (h : n < 2 ^ 31) : nI n - nI n / 8 * 8 = nI (n % 8) := pk_rem (d := 8) h (by decide) (by decide)
theorem d_remember {l : Launch} (hst : l.stackTraces = false) {Q : Option Value → Hp → Prop} {X : String → Hp → Prop} {H : Hp} {x : Nat} {N F : Nat → Int32} {hi : Nat → Nat → Int32} {sv : Nat → Int32} {sm : Nat → Nat → Int32} {hd tx : Nat → Int32} {B : Int} (C : CR H x N F hi sv sm hd tx B) {σ : Nat → Nat} {c0 c1 c2 c3 c4 : Nat} (W : Wv [] H H (x + 1) σ σ N c0 c1 c2 c3 c4) (g : GI N c0 c1 c2 c3 c4 B) (q : ∀ H' r, F 5 = nI r → r ≤ 8 → CR H' x N (upd F 5 (nI (pr r))) (ph hi r N) sv sm hd tx B → Wv [] H' H' (x + 1) σ σ N c0 c1 c2 c3 c4 → XF x H H' → Q none H') : CX8_remember l [.ref x] H Q X := by
  obtain ⟨S, ⟨K0, T⟩, V, ⟨o, r, o8, r8, a1, a2, a3, a4, a5⟩, I, ⟨n, n1, n2, n3, n4⟩, M⟩ := id C
  refine eX8_remember hst (Nat.le_of_ble_eq_true rfl) (fun K => ?_)
  refine xhi C ?_
  refine gI_of C.s0 a1 ?_
  refine gI_of C.s0 a2 ?_
  repeat (refine And.intro (by first | assumption | rfl | exact Nat.le_of_ble_eq_true rfl | exact Nat.zero_le _ | decide) ?_)
  refine aa_of (j := (o + r) % 8) C.1.2.2.2.2.2.1.2.1 (show nI o + nI r - (nI o + nI r) / 8 * 8 = nI ((o + r) % 8) by rw [nI_add, rem8 (by omega)]) (by omega) (by decide) (C.1.2.2.2.2.2.1.2.2 _ (by omega)) (by omega) ?_
  refine xw C ?_
  obtain ⟨σs, Ss⟩ := id (a4 ((o + r) % 8) (by omega))
  (repeat (refine And.intro (by first | assumption | rfl | exact Nat.le_of_ble_eq_true rfl | exact Nat.zero_le _ | decide) ?_)); refine And.intro (Ss.2.1) ?_; (repeat (refine And.intro (by first | assumption | rfl | exact Nat.le_of_ble_eq_true rfl | exact Nat.zero_le _ | decide) ?_))
  refine d_copyK hst (a4 ((o + r) % 8) (by omega)) (show Kp H (x + 1) N B from ⟨σ, c0, c1, c2, c3, c4, W, g⟩) (by omega) (fun H1 F1 K1 K2 => ?_)
  generalize hw : x + 248 + 80 * ((o + r) % 8) = w at F1 K1
  have e : ∀ a, (a < w ∨ w + 80 ≤ a) → hs H1 a = hs H a ∧ hR H1 a = hR H a ∧ hI H1 a = hI H a := fun a ha => ⟨by rw [F1.2.1], (F1.2.2.2 a ha).2, (F1.2.2.2 a ha).1⟩
  have e0 := e x (by omega)
  have s1 : hs H1 x = (9, 14) := e0.1.trans C.s0
  have wk1 : Wv [] H1 H1 (x + 1) σ σ N c0 c1 c2 c3 c4 := ⟨W.1, ⟨Fr.rfl' _ _, W.k.2.same (fun a h1 h2 => ⟨(e a (by omega)).1, (e a (by omega)).2.1⟩) (fun a h1 h2 => (e a (by omega)).2.2)⟩, W.2.2⟩
  have sp1 : ∀ k, k < 8 → Sp H1 (x + 248 + 80 * k) := fun k hk => by
    by_cases z : k = (o + r) % 8
    · subst z; rw [hw]; exact K1.sp
    · exact (a4 k hk).same (F1.sm (by omega))
  have fin : ∀ (o' r' : Nat) (H2 : Hp), (∀ a, hs H2 a = hs H1 a ∧ hR H2 a = hR H1 a ∧ (a ≠ x → hI H2 a = hI H1 a)) → H2.2.2.2.2 = H1.2.2.2.2 → (∀ k, k ≠ 5 → k ≠ 6 → hI H2 x k = hI H x k) → hI H2 x 5 = nI o' → hI H2 x 6 = nI r' → o' < 8 → r' = pr r → (∀ k, k < r' → Kp H1 (x + 248 + 80 * ((o' + k) % 8)) (ph hi r N k) B) → Q none H2 := by
    intro o' r' H2 y1 y2 y3 y4 y5 y6 y7 y8
    have sm2 : ∀ a n, x < a → Sm H1 H2 a n := fun a n ha b h1 h2 => ⟨(y1 b).1, (y1 b).2.1, (y1 b).2.2 (by omega)⟩
    refine q H2 r a3 r8 ?_ ?_ ?_
    · refine ⟨S.same (fun b hb => ⟨(y1 b).1.trans (e b (by omega)).1, (y1 b).2.1.trans (e b (by omega)).2.1⟩), ⟨(K2.same (sm2 _ _ (by omega))), (T.same (F1.sm (by omega))).same (sm2 _ _ (by omega))⟩, ⟨(V.1.same (F1.sm (by omega))).same (sm2 _ _ (by omega)), by rw [y3 3 (by decide) (by decide), pk_un (by decide)]; exact V.2.1, by rw [pk_un (by decide)]; exact V.2.2.1, fun z => ((V.2.2.2 (by rw [pk_un (by decide)] at z; exact z)).same (F1.sm (by omega))).same (sm2 _ _ (by omega))⟩, ⟨o', r', y6, by rw [y7]; unfold pr; split <;> omega, y4, y5, by rw [pk_us, y7], fun k hk => (sp1 k hk).same (sm2 _ _ (by omega)), fun k hk => (y8 k hk).same (sm2 _ _ (by omega))⟩, ?_, ⟨n, n1, by rw [pk_un (by decide)]; exact n2, by rw [(y1 _).2.2 (by omega), (e _ (by omega)).2.2]; exact n3, fun k hk => by rw [(y1 _).2.2 (by omega), (e _ (by omega)).2.2]; exact n4 k hk⟩, fun i hi => ?_⟩
      · unfold XI
        rw [y3 8 (by decide) (by decide), y3 9 (by decide) (by decide), y3 10 (by decide) (by decide), y3 11 (by decide) (by decide), y3 12 (by decide) (by decide), pk_un (by decide), pk_un (by decide), pk_un (by decide), pk_un (by decide), pk_un (by decide)]
        exact I
      · rw [(y1 _).2.2 (by omega), (e _ (by omega)).2.2]; exact M i hi
    · exact ⟨W.1, ⟨Fr.rfl' _ _, wk1.k.2.same (fun a h1 h2 => ⟨(y1 a).1, (y1 a).2.1⟩) (fun a h1 h2 => (y1 a).2.2 (by omega))⟩, W.2.2⟩
    · exact ⟨(funext fun a => (y1 a).1).trans F1.2.1, y2.trans F1.2.2.1, fun a ha => ⟨((y1 a).2.2 (by omega)).trans (F1.2.2.2 a (by omega)).1, (y1 a).2.1.trans (F1.2.2.2 a (by omega)).2⟩⟩
  have b1 : hI H1 x 5 = nI o := by rw [e0.2.2]; exact a1
  have b2 : hI H1 x 6 = nI r := by rw [e0.2.2]; exact a2
  have old : ∀ k, k < r → (o + k) % 8 ≠ (o + r) % 8 → Kp H1 (x + 248 + 80 * ((o + k) % 8)) (hi k) B := fun k hk ne => (a5 k hk).same (F1.sm (by omega))
  refine gI_of s1 b2 ?_
  refine And.intro (fun hcc => ?_) (fun hcc => ?_)
  · have e8 : r = 8 := by
      have : ¬ r < 8 := fun z => absurd (show nI 8 ≤ nI r from hcc) (nI_ge z (by decide))
      omega
    subst e8
    refine gI_of s1 b1 ?_
    repeat (refine And.intro (by first | assumption | rfl | exact Nat.le_of_ble_eq_true rfl | exact Nat.zero_le _ | decide) ?_)
    refine fin ((o + 1) % 8) 8 _ (fun a => ⟨rfl, rfl, fun z => hI_wI_o z⟩) rfl (fun k h5 h6 => by rw [hI_wI_k h5, e0.2.2]) (hI_wI_s.trans (by rw [show nI o + 1 = nI (o + 1) from nI_1 o, rem8 (by omega)])) (by rw [hI_wI_k (by decide)]; exact b2) (by omega) (by unfold pr; rw [if_neg (by decide)]) (fun k hk => ?_)
    unfold ph
    rw [if_neg (by decide)]
    by_cases z : k = 7
    · rw [if_pos z, show x + 248 + 80 * (((o + 1) % 8 + k) % 8) = w by rw [← hw]; omega]
      exact K1
    · rw [if_neg z, show ((o + 1) % 8 + k) % 8 = (o + (k + 1)) % 8 by omega]
      exact old (k + 1) (by omega) (by omega)
  · have h8 : r < 8 := Classical.byContradiction fun z => hcc (show nI 8 ≤ nI r from nI_le (by omega) (by omega))
    refine gI_of s1 b2 ?_
    refine pI_of s1 ?_
    repeat (refine And.intro (by first | assumption | rfl | exact Nat.le_of_ble_eq_true rfl | exact Nat.zero_le _ | decide) ?_)
    refine fin o (r + 1) _ (fun a => ⟨rfl, rfl, fun z => hI_wI_o z⟩) rfl (fun k h5 h6 => by rw [hI_wI_k h6, e0.2.2]) (by rw [hI_wI_k (by decide)]; exact b1) (by rw [hI_wI_s]; exact nI_1 r) o8 (by unfold pr; rw [if_pos h8]) (fun k hk => ?_)
    unfold ph
    rw [if_pos h8]
    by_cases z : k = r
    · subst z
      rw [if_pos rfl, hw]
      exact K1
    · rw [if_neg z]
      exact old k (by omega) (by omega)
end F2

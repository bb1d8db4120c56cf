section F8
/-- what taking kit k as far as it goes gives -/
def kt (N : Nat → Int32) (k : Nat) : (Nat → Int32) × Bool × Int32 × Int32 × Int32 := g_take k (N (191 + k * 9)).toNatClampNeg 0 N 0
theorem kt_eq {N : Nat → Int32} {k c : Nat} (hc : N (191 + k * 9) = nI c) (c4' : c ≤ 4) : kt N k = g_take k c 0 N 0 := by
  unfold kt
  rw [hc, nI_clamp (by omega)]
theorem d_serveK {l : Launch} (hst : l.stackTraces = false) {Q : Option Value → Hp → Prop} {X : String → Hp → Prop} {h0 H : Hp} {w : Nat} {σ ρ : Nat → Nat} {N : Nat → Int32} {c0 c1 c2 c3 c4 : Nat} (W : Wv [] h0 H w σ ρ N c0 c1 c2 c3 c4) {k : Nat} {P : Int32} {B : Int} (hP : P = nI k) (hk : k < c1) (g : GI N c0 c1 c2 c3 c4 B) (q : ∀ H' M, Wv [] h0 H' w σ ρ M c0 c1 c2 c3 c4 → ((kt N k).2.1 = true → M = (kt N k).1) → Q (some (.int (if (kt N k).2.1 = true then -1 else 100 * (kt N k).2.2.2.1 + (kt N k).2.2.2.2))) H') : CX7_serveItems l [.ref w, .int P] H Q X := by
  obtain ⟨c, c4', hc, hit⟩ := W.1.2.2.2.2.2.2.1 k hk
  have e := kt_eq hc c4'
  refine d_serveItems hst W hP hk hc c4' hit g.ki (fun H' M W' hM => ?_)
  rw [← e]
  exact q H' M W' (by rw [e]; exact hM)
/-- the part and the pieces that lack -/
theorem take_lack {c0 c1 c2 c3 c4 k c : Nat} {B : Int} (hk : k < c1) (c4' : c ≤ 4) : ∀ (n i : Nat) (N : Nat → Int32) (o : Int32), i + n = c → N (191 + k * 9) = nI c → GI N c0 c1 c2 c3 c4 B → (g_take k n i N o).2.1 = false → ∃ p m : Nat, p < c0 ∧ (g_take k n i N o).2.2.2.1 = nI p ∧ (g_take k n i N o).2.2.2.2 = nI m ∧ 1 ≤ m ∧ m ≤ 9
  | 0, i, N, o, _, _, h, ht => Bool.noConfusion (show true = false from ht)
  | n + 1, i, N, o, hi, hc, h, ht => by
    have k0 := h.wf.1.2
    obtain ⟨c', y1, y2, y3⟩ := h.wf.2.2.2.2.2.2.1 k hk
    have ec : c' = c := (nI_eq (by omega) (by omega)).mp (y2.symm.trans hc)
    subst ec
    obtain ⟨p, p1, p2⟩ := y3 i (by omega)
    have hq := h.kq k c' i hk hc c4' (by omega)
    rw [g_take_s k n i N o p2 (by omega)] at ht ⊢
    obtain ⟨a1, a2⟩ := (h.ki).av h.wf p1 (v := N (191 + k * 9 + 1 + 2 * i + 1)) (by omega)
    obtain ⟨n1, n2, n3, n4⟩ := serve_num h.wf h.ni.sk p1 (v := N (191 + k * 9 + 1 + 2 * i + 1)) (by omega)
    by_cases z : s_av N p (N (7 + p * 23 + 8)).toNatClampNeg < N (191 + k * 9 + 1 + 2 * i + 1)
    · rw [if_pos z] at ht ⊢
      obtain ⟨b1, b2⟩ := a1 z
      have b2' := i_lt0.mp b2
      refine ⟨p, ((r_serve N p (N (191 + k * 9 + 1 + 2 * i + 1))).1.toInt).toNat, p1, rfl, ?_, by omega, by omega⟩
      show N (191 + k * 9 + 1 + 2 * i + 1) - s_av N p (N (7 + p * 23 + 8)).toNatClampNeg = _
      rw [← b1]
      exact tz (by omega) (by omega)
    · rw [if_neg z] at ht ⊢
      exact take_lack hk c4' n (i + 1) _ _ (by omega) (by rw [r_serve_o h.wf p1 (by omega)]; exact hc) (h.serve p1 (by omega)) ht
theorem kt_ok {N : Nat → Int32} {c0 c1 c2 c3 c4 k : Nat} {B : Int} (hk : k < c1) (h : GI N c0 c1 c2 c3 c4 B) : ((kt N k).2.1 = true → GI (kt N k).1 c0 c1 c2 c3 c4 B) ∧ ((kt N k).2.1 = false → ∃ p m : Nat, p < c0 ∧ (kt N k).2.2.2.1 = nI p ∧ (kt N k).2.2.2.2 = nI m ∧ 1 ≤ m ∧ m ≤ 9) := by
  obtain ⟨c, c4', hc, -⟩ := h.wf.2.2.2.2.2.2.1 k hk
  rw [kt_eq hc c4']
  exact ⟨fun z => GI.take hk c4' c 0 N 0 (by omega) hc h z, fun z => take_lack hk c4' c 0 N 0 (by omega) hc h z⟩
theorem lack_div {p m : Nat} (hp : p < 8) (hm : m ≤ 9) : (100 * nI p + nI m) / 100 = nI p ∧ 100 * nI p + nI m - (100 * nI p + nI m) / 100 * 100 = nI m := by
  have e : (100 : Int32) * nI p + nI m = nI (100 * p + m) := by
    rw [show (100 : Int32) = nI 100 from rfl, pk_mul, nI_add]
  have ed : nI (100 * p + m) / 100 = nI p := by
    have := pk_div (a := 100 * p + m) (d := 100) (by omega) (by decide) (by decide)
    rw [show (100 * p + m) / 100 = p by omega] at this
    exact this
  rw [e, ed]
  refine ⟨rfl, ?_⟩
  rw [show (100 : Int32) = nI 100 from rfl, pk_mul, pk_sub (by omega), show 100 * p + m - p * 100 = m by omega]
theorem d_keepLack {l : Launch} (hst : l.stackTraces = false) {Q : Option Value → Hp → Prop} {X : String → Hp → Prop} {H : Hp} {x : Nat} {N F : Nat → Int32} {hi : Nat → Nat → Int32} {sv : Nat → Int32} {sm : Nat → Nat → Int32} {hd tx : Nat → Int32} {B : Int} (C : CR H x N F hi sv sm hd tx B) {p m : Nat} (hp : p < 8) (hm : m ≤ 9) {v : Int32} (hv : v = 100 * nI p + nI m) (q : ∀ H', CR H' x N (upd (upd (upd F 7 3) 8 (nI p)) 9 (nI m)) hi sv sm hd tx B → XF x H H' → (∀ a, a ≠ x → hI H' a = hI H a ∧ hR H' a = hR H a) → H'.2.2.2.2 = H.2.2.2.2 → hs H' = hs H → hn H' = hn H → Q none H') : CX8_keepLack l [.ref x, .int v] H Q X := by
  obtain ⟨e1, e2⟩ := lack_div hp hm
  obtain ⟨i1, i2, i3, i4, i5, i6, i7⟩ := C.2.2.2.2.1
  refine eX8_keepLack hst (Nat.le_of_ble_eq_true rfl) (fun K => ?_)
  refine pI_of C.s0 ?_
  repeat (refine And.intro (by first | assumption | rfl | exact Nat.le_of_ble_eq_true rfl | exact Nat.zero_le _ | decide) ?_)
  refine pI_of C.s0 ?_
  repeat (refine And.intro (by first | assumption | rfl | exact Nat.le_of_ble_eq_true rfl | exact Nat.zero_le _ | decide) ?_)
  refine pI_of C.s0 ?_
  repeat (refine And.intro (by first | assumption | rfl | exact Nat.le_of_ble_eq_true rfl | exact Nat.zero_le _ | decide) ?_)
  rw [e1] at e2
  rw [hv, e1, e2]
  have C1 := C.rsn 3
  have C2 : CR (wI (wI H x 10 3) x 11 (nI p)) x N (upd (upd F 7 3) 8 (nI p)) hi sv sm hd tx B := by
    obtain ⟨i1, i2, i3, i4, i5, i6, i7⟩ := C1.2.2.2.2.1
    refine C1.fld ⟨pk_un (by decide), pk_un (by decide), pk_un (by decide)⟩ (by decide) ⟨((hI_wI_k (by decide)).trans i1).trans (pk_un (by decide)).symm, ((hI_wI_k (by decide)).trans i2).trans (pk_un (by decide)).symm, ((hI_wI_k (by decide)).trans i3).trans (pk_un (by decide)).symm, hI_wI_s.trans pk_us.symm, ((hI_wI_k (by decide)).trans i5).trans (pk_un (by decide)).symm, by rw [pk_un (by decide)]; exact i6, by rw [pk_un (by decide)]; exact i7⟩
  have C3 : CR (wI (wI (wI H x 10 3) x 11 (nI p)) x 12 (nI m)) x N (upd (upd (upd F 7 3) 8 (nI p)) 9 (nI m)) hi sv sm hd tx B := by
    obtain ⟨i1, i2, i3, i4, i5, i6, i7⟩ := C2.2.2.2.2.1
    refine C2.fld ⟨pk_un (by decide), pk_un (by decide), pk_un (by decide)⟩ (by decide) ⟨((hI_wI_k (by decide)).trans i1).trans (pk_un (by decide)).symm, ((hI_wI_k (by decide)).trans i2).trans (pk_un (by decide)).symm, ((hI_wI_k (by decide)).trans i3).trans (pk_un (by decide)).symm, ((hI_wI_k (by decide)).trans i4).trans (pk_un (by decide)).symm, hI_wI_s.trans pk_us.symm, by rw [pk_un (by decide)]; exact i6, by rw [pk_un (by decide)]; exact i7⟩
  exact q _ C3 (((XF.wI (Nat.le_refl x) (by omega)).trans (XF.wI (Nat.le_refl x) (by omega))).trans (XF.wI (Nat.le_refl x) (by omega))) (fun a ha => ⟨(hI_wI_o ha).trans ((hI_wI_o ha).trans (hI_wI_o ha)), rfl⟩) rfl rfl rfl
theorem e_take {l : Launch} (hst : l.stackTraces = false) {Q : Option Value → Hp → Prop} {X : String → Hp → Prop} {H : Hp} {x : Nat} {N F : Nat → Int32} {hi : Nat → Nat → Int32} {sv : Nat → Int32} {sm : Nat → Nat → Int32} {hd tx : Nat → Int32} {B : Int} (C : CR H x N F hi sv sm hd tx B) {σ : Nat → Nat} {c0 c1 c2 c3 c4 : Nat} (W : Wv [] H H (x + 1) σ σ N c0 c1 c2 c3 c4) (g : GI N c0 c1 c2 c3 c4 B) {P : Int32} (x1 : (¬ (0 ≤ P ∧ P < nI c1)) → ∀ n, hn H ≤ n → X "java/lang/IndexOutOfBoundsException" (hxn H n)) (x2 : ∀ k p m H', P = nI k → k < c1 → (kt N k).2.1 = false → (kt N k).2.2.2.1 = nI p → (kt N k).2.2.2.2 = nI m → p < c0 → 1 ≤ m → m ≤ 9 → CR H' x N (upd (upd (upd F 7 3) 8 (nI p)) 9 (nI m)) hi sv sm hd tx B → XF x H H' → ∀ n, hn H' ≤ n → X "java/lang/UnsupportedOperationException" (hxn H' n)) (q : ∀ k r H', P = nI k → k < c1 → (kt N k).2.1 = true → F 5 = nI r → r ≤ 8 → CR H' x (kt N k).1 (upd F 5 (nI (pr r))) (ph hi r N) sv sm hd tx B → XF x H H' → Q (some (.int (kt N k).2.2.1)) H') : CX8_take l [.ref x, .int P] H Q X := by
  have k8 := W.1.1.2
  have k1 := W.1.2.1.2
  refine eX8_take hst (Nat.le_of_ble_eq_true rfl) (fun K => ?_)
  (repeat (refine And.intro (by first | assumption | rfl | exact Nat.le_of_ble_eq_true rfl | exact Nat.zero_le _ | decide) ?_)); refine And.intro (C.s0) ?_; (repeat (refine And.intro (by first | assumption | rfl | exact Nat.le_of_ble_eq_true rfl | exact Nat.zero_le _ | decide) ?_))
  refine d_needKit hst C W.1.2.1.1 k1 (fun hP => ?_) (fun hP => x1 hP)
  obtain ⟨k, kk, p2⟩ := in9 (by omega) hP
  subst p2
  obtain ⟨ok1, ok2⟩ := kt_ok kk g
  refine xt C ?_
  refine xw C ?_
  have T := C.2.1.2
  obtain ⟨σt, St⟩ := id T
  (repeat (refine And.intro (by first | assumption | rfl | exact Nat.le_of_ble_eq_true rfl | exact Nat.zero_le _ | decide) ?_)); refine And.intro (St.2.1) ?_; (repeat (refine And.intro (by first | assumption | rfl | exact Nat.le_of_ble_eq_true rfl | exact Nat.zero_le _ | decide) ?_))
  refine d_copyK hst T C.2.1.1 (by omega) (fun H1 F1 K1 K2 => ?_)
  obtain ⟨C1, σ1, W1⟩ := C.cpt W g F1 K1
  refine xt C1 ?_
  (repeat (refine And.intro (by first | assumption | rfl | exact Nat.le_of_ble_eq_true rfl | exact Nat.zero_le _ | decide) ?_)); refine And.intro (W1.k.s_w) ?_; (repeat (refine And.intro (by first | assumption | rfl | exact Nat.le_of_ble_eq_true rfl | exact Nat.zero_le _ | decide) ?_))
  refine d_serveK hst W1 rfl kk g (fun H2 M W2 hM => ?_)
  have C2 := C1.trial W2.k.1 ⟨_, W2.k.2.1⟩
  have F2 : XF x H H2 := (XF.fr F1 (by omega) (by omega)).trans (XF.fr W2.k.1 (by omega) (by omega))
  cases hb : (kt N k).2.1
  · obtain ⟨p, m, p1, e1, e2, m1, m9⟩ := ok2 hb
    rw [if_neg (show ¬ (false = true) by decide), e1, e2]
    have ne : ¬ (100 * nI p + nI m = -1) := fun z => by
      have : nI (100 * p + m) = -1 := by
        rw [← z, show (100 : Int32) = nI 100 from rfl, pk_mul, nI_add]
      exact absurd (show nI (100 * p + m) < 0 by rw [this]; decide) (nI_pos (by omega))
    refine And.intro (fun z => absurd z ne) (fun _ => ?_)
    (repeat (refine And.intro (by first | assumption | rfl | exact Nat.le_of_ble_eq_true rfl | exact Nat.zero_le _ | decide) ?_)); refine And.intro (C2.s0) ?_; (repeat (refine And.intro (by first | assumption | rfl | exact Nat.le_of_ble_eq_true rfl | exact Nat.zero_le _ | decide) ?_))
    refine d_keepLack hst C2 (show p < 8 by omega) m9 rfl (fun H3 C3 F3 _ _ _ _ => ?_)
    exact ⟨Nat.le_of_ble_eq_true rfl, Nat.le_of_ble_eq_true rfl, x2 k p m H3 rfl kk hb e1 e2 p1 m1 m9 C3 (F2.trans F3)⟩
  · rw [if_pos (show true = true from rfl)]
    refine And.intro (fun _ => ?_) (fun z => absurd rfl z)
    obtain ⟨σ3, W3, -⟩ := C2.wvs W.1
    (repeat (refine And.intro (by first | assumption | rfl | exact Nat.le_of_ble_eq_true rfl | exact Nat.zero_le _ | decide) ?_)); refine And.intro (C2.s0) ?_; (repeat (refine And.intro (by first | assumption | rfl | exact Nat.le_of_ble_eq_true rfl | exact Nat.zero_le _ | decide) ?_))
    refine d_remember hst C2 W3 g (fun H4 r hr r8 C4 W4 F4 => ?_)
    refine xw C4 ?_
    (repeat (refine And.intro (by first | assumption | rfl | exact Nat.le_of_ble_eq_true rfl | exact Nat.zero_le _ | decide) ?_)); refine And.intro (W4.k.s_w) ?_; (repeat (refine And.intro (by first | assumption | rfl | exact Nat.le_of_ble_eq_true rfl | exact Nat.zero_le _ | decide) ?_))
    obtain ⟨c, c4', hc, hit⟩ := W.1.2.2.2.2.2.2.1 k kk
    have ek := kt_eq hc c4'
    refine d_takeItems hst W4 rfl kk hc c4' hit g.ki (by rw [← ek]; exact hb) (fun H5 W5 => ?_)
    rw [← ek] at W5 ⊢
    repeat (refine And.intro (by first | assumption | rfl | exact Nat.le_of_ble_eq_true rfl | exact Nat.zero_le _ | decide) ?_)
    exact q k r H5 rfl kk hb hr r8 (C4.world W5.k.1 (Kp.of W5 (fun _ _ => rfl) (ok1 hb)) (Int.le_refl _) g.b16) (F2.trans (F4.trans (XF.fr W5.k.1 (by omega) (by omega))))
theorem e_lacking {l : Launch} (hst : l.stackTraces = false) {Q : Option Value → Hp → Prop} {X : String → Hp → Prop} {H : Hp} {x : Nat} {N F : Nat → Int32} {hi : Nat → Nat → Int32} {sv : Nat → Int32} {sm : Nat → Nat → Int32} {hd tx : Nat → Int32} {B : Int} (C : CR H x N F hi sv sm hd tx B) {σ : Nat → Nat} {c0 c1 c2 c3 c4 : Nat} (W : Wv [] H H (x + 1) σ σ N c0 c1 c2 c3 c4) (g : GI N c0 c1 c2 c3 c4 B) {P : Int32} (x1 : (¬ (0 ≤ P ∧ P < nI c1)) → ∀ n, hn H ≤ n → X "java/lang/IndexOutOfBoundsException" (hxn H n)) (q : ∀ k H', P = nI k → k < c1 → CR H' x N F hi sv sm hd tx B → XF x H H' → Q (some (.int (if (kt N k).2.1 = true then -1 else 100 * (kt N k).2.2.2.1 + (kt N k).2.2.2.2))) H') : CX8_lacking l [.ref x, .int P] H Q X := by
  have k8 := W.1.1.2
  have k1 := W.1.2.1.2
  refine eX8_lacking hst (Nat.le_of_ble_eq_true rfl) (fun K => ?_)
  (repeat (refine And.intro (by first | assumption | rfl | exact Nat.le_of_ble_eq_true rfl | exact Nat.zero_le _ | decide) ?_)); refine And.intro (C.s0) ?_; (repeat (refine And.intro (by first | assumption | rfl | exact Nat.le_of_ble_eq_true rfl | exact Nat.zero_le _ | decide) ?_))
  refine d_needKit hst C W.1.2.1.1 k1 (fun hP => ?_) (fun hP => x1 hP)
  obtain ⟨k, kk, p2⟩ := in9 (by omega) hP
  subst p2
  refine xt C ?_
  refine xw C ?_
  have T := C.2.1.2
  obtain ⟨σt, St⟩ := id T
  (repeat (refine And.intro (by first | assumption | rfl | exact Nat.le_of_ble_eq_true rfl | exact Nat.zero_le _ | decide) ?_)); refine And.intro (St.2.1) ?_; (repeat (refine And.intro (by first | assumption | rfl | exact Nat.le_of_ble_eq_true rfl | exact Nat.zero_le _ | decide) ?_))
  refine d_copyK hst T C.2.1.1 (by omega) (fun H1 F1 K1 K2 => ?_)
  obtain ⟨C1, σ1, W1⟩ := C.cpt W g F1 K1
  refine xt C1 ?_
  (repeat (refine And.intro (by first | assumption | rfl | exact Nat.le_of_ble_eq_true rfl | exact Nat.zero_le _ | decide) ?_)); refine And.intro (W1.k.s_w) ?_; (repeat (refine And.intro (by first | assumption | rfl | exact Nat.le_of_ble_eq_true rfl | exact Nat.zero_le _ | decide) ?_))
  refine d_serveK hst W1 rfl kk g (fun H2 M W2 hM => ?_)
  repeat (refine And.intro (by first | assumption | rfl | exact Nat.le_of_ble_eq_true rfl | exact Nat.zero_le _ | decide) ?_)
  exact q k H2 rfl kk (C1.trial W2.k.1 ⟨_, W2.k.2.1⟩) ((XF.fr F1 (by omega) (by omega)).trans (XF.fr W2.k.1 (by omega) (by omega)))
/-- how many times kit k can be taken, n times at most -/
def s_poss (k : Nat) : Nat → (Nat → Int32) → Nat
  | 0, _ => 0
  | n + 1, N => if (kt N k).2.1 = true then s_poss k n (kt N k).1 + 1 else 0
theorem s_poss_le (k : Nat) : ∀ (n : Nat) (N : Nat → Int32), s_poss k n N ≤ n
  | 0, _ => Nat.le_refl _
  | n + 1, N => by
    show (if _ then _ else _) ≤ _
    split
    · exact Nat.succ_le_succ (s_poss_le k n _)
    · exact Nat.zero_le _
theorem e_possible {l : Launch} (hst : l.stackTraces = false) {Q : Option Value → Hp → Prop} {X : String → Hp → Prop} {H : Hp} {x : Nat} {N F : Nat → Int32} {hi : Nat → Nat → Int32} {sv : Nat → Int32} {sm : Nat → Nat → Int32} {hd tx : Nat → Int32} {B : Int} (C : CR H x N F hi sv sm hd tx B) {σ : Nat → Nat} {c0 c1 c2 c3 c4 : Nat} (W : Wv [] H H (x + 1) σ σ N c0 c1 c2 c3 c4) (g : GI N c0 c1 c2 c3 c4 B) {P : Int32} (x1 : (¬ (0 ≤ P ∧ P < nI c1)) → ∀ n, hn H ≤ n → X "java/lang/IndexOutOfBoundsException" (hxn H n)) (q : ∀ k H', P = nI k → k < c1 → CR H' x N F hi sv sm hd tx B → XF x H H' → Q (some (.int (nI (s_poss k 99 N)))) H') : CX8_possible l [.ref x, .int P] H Q X := by
  have k8 := W.1.1.2
  have k1 := W.1.2.1.2
  refine eX8_possible hst (Nat.le_of_ble_eq_true rfl) (fun K hK => ?_)
  (repeat (refine And.intro (by first | assumption | rfl | exact Nat.le_of_ble_eq_true rfl | exact Nat.zero_le _ | decide) ?_)); refine And.intro (C.s0) ?_; (repeat (refine And.intro (by first | assumption | rfl | exact Nat.le_of_ble_eq_true rfl | exact Nat.zero_le _ | decide) ?_))
  refine d_needKit hst C W.1.2.1.1 k1 (fun hP => ?_) (fun hP => x1 hP)
  obtain ⟨k, kk, p2⟩ := in9 (by omega) hP
  subst p2
  refine xt C ?_
  refine xw C ?_
  have T := C.2.1.2
  obtain ⟨σt, St⟩ := id T
  (repeat (refine And.intro (by first | assumption | rfl | exact Nat.le_of_ble_eq_true rfl | exact Nat.zero_le _ | decide) ?_)); refine And.intro (St.2.1) ?_; (repeat (refine And.intro (by first | assumption | rfl | exact Nat.le_of_ble_eq_true rfl | exact Nat.zero_le _ | decide) ?_))
  refine d_copyK hst T C.2.1.1 (by omega) (fun H1 F1 K1 K2 => ?_)
  obtain ⟨C1, σ1, W1⟩ := C.cpt W g F1 K1
  have loop : ∀ (n i : Nat) (M : Nat → Int32) (H2 : Hp) (σ2 : Nat → Nat) (u : Nat × Nat), i + n = 99 → CR H2 x N F hi sv sm hd tx B → XF x H H2 → Wv [] H2 H2 (x + 81) σ2 σ2 M c0 c1 c2 c3 c4 → GI M c0 c1 c2 c3 c4 B → i + s_poss k n M = s_poss k 99 N → u.1 ≤ 1 → u.2 ≤ 6 → K 18 [(2, .int (nI i)), (0, .ref x), (1, .int (nI k))] [] H2 u := by
    intro n
    induction n with
    | zero =>
      intro i M H2 σ2 u hi9 C2 F2 W2 g2 hs u1 u2
      refine hK _ _ _ _ ?_
      refine And.intro (fun hcc => ?_) (fun hcc => ?_)
      · refine ⟨u1, u2, ?_⟩
        have e : i = s_poss k 99 N := hs
        rw [e]
        exact q k H2 rfl kk C2 F2
      · exact absurd (show nI 99 ≤ nI i from nI_le (by omega) (by omega)) hcc
    | succ n ih =>
      intro i M H2 σ2 u hi9 C2 F2 W2 g2 hs u1 u2
      obtain ⟨ok1, ok2⟩ := kt_ok kk g2
      refine hK _ _ _ _ ?_
      refine And.intro (fun hcc => ?_) (fun hcc => ?_)
      · exact absurd (show nI 99 ≤ nI i from hcc) (nI_ge (by omega) (by decide))
      · refine xt C2 ?_
        refine And.intro rfl (And.intro (Nat.le_of_ble_eq_true rfl) (And.intro W2.k.s_w (And.intro u1 (And.intro u2 ?_))))
        refine d_serveK hst W2 rfl kk g2 (fun H3 M3 W3 hM => ?_)
        have C3 := C2.trial W3.k.1 ⟨_, W3.k.2.1⟩
        have F3 := F2.trans (XF.fr (x := x) W3.k.1 (by omega) (by omega))
        have hs' : i + (if (kt M k).2.1 = true then s_poss k n (kt M k).1 + 1 else 0) = s_poss k 99 N := hs
        cases hb : (kt M k).2.1
        · rw [hb, if_neg (by decide)] at hs'
          obtain ⟨p, m, p1, e1, e2, m1, m9⟩ := ok2 hb
          rw [if_neg (show ¬ (false = true) by decide), e1, e2]
          have ne : ¬ (100 * nI p + nI m = -1) := fun z => by
            have : nI (100 * p + m) = -1 := by
              rw [← z, show (100 : Int32) = nI 100 from rfl, pk_mul, nI_add]
            exact absurd (show nI (100 * p + m) < 0 by rw [this]; decide) (nI_pos (by omega))
          refine And.intro (fun _ => ?_) (fun z => absurd z ne)
          refine ⟨u1, u2, ?_⟩
          rw [show i = s_poss k 99 N from hs']
          exact q k H3 rfl kk C3 F3
        · rw [hb, if_pos rfl] at hs'
          rw [if_pos (show true = true from rfl)]
          refine And.intro (fun z => absurd rfl z) (fun _ => ?_)
          have eM := hM hb
          subst eM
          have W3' : Wv [] H3 H3 (x + 81) σ2 σ2 (kt M k).1 c0 c1 c2 c3 c4 := ⟨W3.1, ⟨Fr.rfl' _ _, W3.k.2⟩, W3.2.2⟩
          have := ih (i + 1) (kt M k).1 H3 σ2 u (by omega) C3 F3 W3' (ok1 hb) (by omega) u1 u2
          rw [← nI_1 i] at this
          exact this
  exact loop 99 0 N H1 σ1 _ rfl C1 (XF.fr F1 (by omega) (by omega)) W1 g (Nat.zero_add _) (Nat.le_of_ble_eq_true rfl) (Nat.le_of_ble_eq_true rfl)
end F8

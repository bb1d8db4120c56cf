section H7
theorem adds_n : ∀ (es : List Ent) (E : Note), (E.adds es).n = E.n + es.length
  | [], E => rfl
  | e :: es, E => by
    show ((E.add e).adds es).n = _
    rw [adds_n es, List.length_cons]
    show E.n + 1 + es.length = _
    omega
theorem adds_lo : ∀ (es : List Ent) (E : Note) (i : Nat), i < E.n → (E.adds es).k i = E.k i ∧ (E.adds es).a i = E.a i ∧ (E.adds es).b i = E.b i
  | [], E, i, hi => ⟨rfl, rfl, rfl⟩
  | e :: es, E, i, hi => by
    have h := adds_lo es (E.add e) i (Nat.lt_succ_of_lt hi)
    have ne : i ≠ E.n := by omega
    exact ⟨h.1.trans (pk_un ne), h.2.1.trans (pk_un ne), h.2.2.trans (pk_un ne)⟩
theorem adds_at : ∀ (es : List Ent) (E : Note) (j : Nat) (hj : j < es.length), (E.adds es).k (E.n + j) = es[j].k ∧ (E.adds es).a (E.n + j) = nI es[j].a ∧ (E.adds es).b (E.n + j) = nI es[j].b
  | [], E, j, hj => absurd hj (Nat.not_lt_zero j)
  | e :: es, E, 0, hj => by
    have h := adds_lo es (E.add e) E.n (Nat.lt_succ_self _)
    exact ⟨h.1.trans pk_us, h.2.1.trans pk_us, h.2.2.trans pk_us⟩
  | e :: es, E, j + 1, hj => by
    have h := adds_at es (E.add e) j (Nat.lt_of_succ_lt_succ hj)
    have e1 : (E.add e).n + j = E.n + (j + 1) := by show E.n + 1 + j = _; omega
    rw [e1] at h
    exact h
theorem NtR.fr {H H' : Hp} {x : Nat} {E : Note} (R : NtR H x E) (f : Fr (x + 81) H H') : NtR H' x E := by
  obtain ⟨r0, ⟨r1, r2⟩, ⟨r3, r4⟩, ⟨r5, r6⟩, x0, e0, e1, ek, ea, eb⟩ := R
  have g := fun a h => f.2.2.2 a h
  rw [← f.2.1] at r0 r2 r4 r6
  refine ⟨r0, ⟨by rw [(g _ (by omega)).2]; exact r1, r2⟩, ⟨by rw [(g _ (by omega)).2]; exact r3, r4⟩, ⟨by rw [(g _ (by omega)).2]; exact r5, r6⟩, x0, e0, by rw [(g _ (by omega)).1]; exact e1, fun i => by rw [(g _ (by omega)).1]; exact ek i, fun i => by rw [(g _ (by omega)).1]; exact ea i, fun i => by rw [(g _ (by omega)).1]; exact eb i⟩
theorem CR.txt0 {H : Hp} {x : Nat} {N F : Nat → Int32} {hi : Nat → Nat → Int32} {sv : Nat → Int32} {sm : Nat → Nat → Int32} {hd tx : Nat → Int32} {B : Int} (C : CR H x N F hi sv sm hd tx B) : CR (wI H (x + 242) 1 0) x N (upd F 16 0) hi sv sm hd tx B := C.txt (H' := wI H (x + 242) 1 (nI 0)) (n := 0) (tx' := tx) rfl rfl (fun a ha => hI_wI_o (by omega)) (by decide) hI_wI_s (fun k hk => absurd hk (Nat.not_lt_zero k))
theorem d_rememberS {l : Launch} (hst : l.stackTraces = false) {Q : Option Value → Hp → Prop} {X : String → Hp → Prop} {H : Hp} {x : Nat} {N F : Nat → Int32} {hi : Nat → Nat → Int32} {sv : Nat → Int32} {sm : Nat → Nat → Int32} {hd tx : Nat → Int32} {B : Int} (C : CR H x N F hi sv sm hd tx B) {σ : Nat → Nat} {c0 c1 c2 c3 c4 : Nat} (W : Wv [] H H (x + 1) σ σ N c0 c1 c2 c3 c4) (g : GI N c0 c1 c2 c3 c4 B) (q : ∀ H' r, F 5 = nI r → r ≤ 8 → CR H' x N (upd F 5 (nI (pr r))) (ph hi r N) sv sm hd tx B → Wv [] H' H' (x + 1) σ σ N c0 c1 c2 c3 c4 → XF x H H' → Sm H H' (x + 1) 247 → Q none H') : CX8_remember l [.ref x] H Q X := by
  obtain ⟨S, ⟨K0, T⟩, V, ⟨o, r, o8, r8, a1, a2, a3, a4, a5⟩, I, ⟨n, n1, n2, n3, n4⟩, M⟩ := id C
  refine eX8_remember hst (Nat.le_of_ble_eq_true rfl) (fun K => ?_)
  refine xhi C ?_
  refine gI_of C.s0 a1 ?_
  refine gI_of C.s0 a2 ?_
  repeat (refine And.intro (by first | assumption | rfl | exact Nat.le_of_ble_eq_true rfl | exact Nat.zero_le _ | decide) ?_)
  refine aa_of (j := (o + r) % 8) C.1.2.2.2.2.2.1.2.1 (show nI o + nI r - (nI o + nI r) / 8 * 8 = nI ((o + r) % 8) by rw [nI_add, rem8 (by omega)]) (by omega) (by decide) (C.1.2.2.2.2.2.1.2.2 _ (by omega)) (by omega) ?_
  refine xw C ?_
  obtain ⟨σs, Ss⟩ := id (a4 ((o + r) % 8) (by omega))
  (repeat (refine And.intro (by first | assumption | rfl | exact Nat.le_of_ble_eq_true rfl | exact Nat.zero_le _ | decide) ?_)); refine And.intro (Ss.2.1) ?_; (repeat (refine And.intro (by first | assumption | rfl | exact Nat.le_of_ble_eq_true rfl | exact Nat.zero_le _ | decide) ?_))
  refine d_copyK hst (a4 ((o + r) % 8) (by omega)) (show Kp H (x + 1) N B from ⟨σ, c0, c1, c2, c3, c4, W, g⟩) (by omega) (fun H1 F1 K1 K2 => ?_)
  generalize hw : x + 248 + 80 * ((o + r) % 8) = w at F1 K1
  have e : ∀ a, (a < w ∨ w + 80 ≤ a) → hs H1 a = hs H a ∧ hR H1 a = hR H a ∧ hI H1 a = hI H a := fun a ha => ⟨by rw [F1.2.1], (F1.2.2.2 a ha).2, (F1.2.2.2 a ha).1⟩
  have e0 := e x (by omega)
  have s1 : hs H1 x = (9, 14) := e0.1.trans C.s0
  have wk1 : Wv [] H1 H1 (x + 1) σ σ N c0 c1 c2 c3 c4 := ⟨W.1, ⟨Fr.rfl' _ _, W.k.2.same (fun a h1 h2 => ⟨(e a (by omega)).1, (e a (by omega)).2.1⟩) (fun a h1 h2 => (e a (by omega)).2.2)⟩, W.2.2⟩
  have sp1 : ∀ k, k < 8 → Sp H1 (x + 248 + 80 * k) := fun k hk => by
    by_cases z : k = (o + r) % 8
    · subst z; rw [hw]; exact K1.sp
    · exact (a4 k hk).same (F1.sm (by omega))
  have fin : ∀ (o' r' : Nat) (H2 : Hp), (∀ a, hs H2 a = hs H1 a ∧ hR H2 a = hR H1 a ∧ (a ≠ x → hI H2 a = hI H1 a)) → H2.2.2.2.2 = H1.2.2.2.2 → (∀ k, k ≠ 5 → k ≠ 6 → hI H2 x k = hI H x k) → hI H2 x 5 = nI o' → hI H2 x 6 = nI r' → o' < 8 → r' = pr r → (∀ k, k < r' → Kp H1 (x + 248 + 80 * ((o' + k) % 8)) (ph hi r N k) B) → Q none H2 := by
    intro o' r' H2 y1 y2 y3 y4 y5 y6 y7 y8
    have sm2 : ∀ a n, x < a → Sm H1 H2 a n := fun a n ha b h1 h2 => ⟨(y1 b).1, (y1 b).2.1, (y1 b).2.2 (by omega)⟩
    refine q H2 r a3 r8 ?_ ?_ ?_ ?_
    · refine ⟨S.same (fun b hb => ⟨(y1 b).1.trans (e b (by omega)).1, (y1 b).2.1.trans (e b (by omega)).2.1⟩), ⟨(K2.same (sm2 _ _ (by omega))), (T.same (F1.sm (by omega))).same (sm2 _ _ (by omega))⟩, ⟨(V.1.same (F1.sm (by omega))).same (sm2 _ _ (by omega)), by rw [y3 3 (by decide) (by decide), pk_un (by decide)]; exact V.2.1, by rw [pk_un (by decide)]; exact V.2.2.1, fun z => ((V.2.2.2 (by rw [pk_un (by decide)] at z; exact z)).same (F1.sm (by omega))).same (sm2 _ _ (by omega))⟩, ⟨o', r', y6, by rw [y7]; unfold pr; split <;> omega, y4, y5, by rw [pk_us, y7], fun k hk => (sp1 k hk).same (sm2 _ _ (by omega)), fun k hk => (y8 k hk).same (sm2 _ _ (by omega))⟩, ?_, ⟨n, n1, by rw [pk_un (by decide)]; exact n2, by rw [(y1 _).2.2 (by omega), (e _ (by omega)).2.2]; exact n3, fun k hk => by rw [(y1 _).2.2 (by omega), (e _ (by omega)).2.2]; exact n4 k hk⟩, fun i hi => ?_⟩
      · unfold XI
        rw [y3 8 (by decide) (by decide), y3 9 (by decide) (by decide), y3 10 (by decide) (by decide), y3 11 (by decide) (by decide), y3 12 (by decide) (by decide), pk_un (by decide), pk_un (by decide), pk_un (by decide), pk_un (by decide), pk_un (by decide)]
        exact I
      · rw [(y1 _).2.2 (by omega), (e _ (by omega)).2.2]; exact M i hi
    · exact ⟨W.1, ⟨Fr.rfl' _ _, wk1.k.2.same (fun a h1 h2 => ⟨(y1 a).1, (y1 a).2.1⟩) (fun a h1 h2 => (y1 a).2.2 (by omega))⟩, W.2.2⟩
    · exact ⟨(funext fun a => (y1 a).1).trans F1.2.1, y2.trans F1.2.2.1, fun a ha => ⟨((y1 a).2.2 (by omega)).trans (F1.2.2.2 a (by omega)).1, (y1 a).2.1.trans (F1.2.2.2 a (by omega)).2⟩⟩
    · exact fun b h1 h2 => ⟨((y1 b).1).trans (e b (by omega)).1, ((y1 b).2.1).trans (e b (by omega)).2.1, ((y1 b).2.2 (by omega)).trans (e b (by omega)).2.2⟩
  have b1 : hI H1 x 5 = nI o := by rw [e0.2.2]; exact a1
  have b2 : hI H1 x 6 = nI r := by rw [e0.2.2]; exact a2
  have old : ∀ k, k < r → (o + k) % 8 ≠ (o + r) % 8 → Kp H1 (x + 248 + 80 * ((o + k) % 8)) (hi k) B := fun k hk ne => (a5 k hk).same (F1.sm (by omega))
  refine gI_of s1 b2 ?_
  refine And.intro (fun hcc => ?_) (fun hcc => ?_)
  · have e8 : r = 8 := by
      have : ¬ r < 8 := fun z => absurd (show nI 8 ≤ nI r from hcc) (nI_ge z (by decide))
      omega
    subst e8
    refine gI_of s1 b1 ?_
    repeat (refine And.intro (by first | assumption | rfl | exact Nat.le_of_ble_eq_true rfl | exact Nat.zero_le _ | decide) ?_)
    refine fin ((o + 1) % 8) 8 _ (fun a => ⟨rfl, rfl, fun z => hI_wI_o z⟩) rfl (fun k h5 h6 => by rw [hI_wI_k h5, e0.2.2]) (hI_wI_s.trans (by rw [show nI o + 1 = nI (o + 1) from nI_1 o, rem8 (by omega)])) (by rw [hI_wI_k (by decide)]; exact b2) (by omega) (by unfold pr; rw [if_neg (by decide)]) (fun k hk => ?_)
    unfold ph
    rw [if_neg (by decide)]
    by_cases z : k = 7
    · rw [if_pos z, show x + 248 + 80 * (((o + 1) % 8 + k) % 8) = w by rw [← hw]; omega]
      exact K1
    · rw [if_neg z, show ((o + 1) % 8 + k) % 8 = (o + (k + 1)) % 8 by omega]
      exact old (k + 1) (by omega) (by omega)
  · have h8 : r < 8 := Classical.byContradiction fun z => hcc (show nI 8 ≤ nI r from nI_le (by omega) (by omega))
    refine gI_of s1 b2 ?_
    refine pI_of s1 ?_
    repeat (refine And.intro (by first | assumption | rfl | exact Nat.le_of_ble_eq_true rfl | exact Nat.zero_le _ | decide) ?_)
    refine fin o (r + 1) _ (fun a => ⟨rfl, rfl, fun z => hI_wI_o z⟩) rfl (fun k h5 h6 => by rw [hI_wI_k h6, e0.2.2]) (by rw [hI_wI_k (by decide)]; exact b1) (by rw [hI_wI_s]; exact nI_1 r) o8 (by unfold pr; rw [if_pos h8]) (fun k hk => ?_)
    unfold ph
    rw [if_pos h8]
    by_cases z : k = r
    · subst z
      rw [if_pos rfl, hw]
      exact K1
    · rw [if_neg z]
      exact old k (by omega) (by omega)
theorem run_cons (e : Ent) (es : List Ent) (M : Nat → Int32) : run (e :: es) M = match en M e with | none => .inr (0, M, e) | some M' => match run es M' with | .inl M'' => .inl M'' | .inr (i, Mi, ei) => .inr (i + 1, Mi, ei) := rfl
theorem e_read {l : Launch} (hst : l.stackTraces = false) {Q : Option Value → Hp → Prop} {X : String → Hp → Prop} {H : Hp} {x : Nat} {N F : Nat → Int32} {hi : Nat → Nat → Int32} {sv : Nat → Int32} {sm : Nat → Nat → Int32} {hd tx : Nat → Int32} {B : Int} (C : CR H x N F hi sv sm hd tx B) {σ : Nat → Nat} {c0 c1 c2 c3 c4 : Nat} (W : Wv [] H H (x + 1) σ σ N c0 c1 c2 c3 c4) (g : GI N c0 c1 c2 c3 c4 B) (hB : B + 19980 ≤ 16000000) {n : Nat} (hF : F 16 = nI n) (n60 : n ≤ 60)
    (x1 : ∀ j H', rd tx n = .inr j → CR H' x N (upd (upd F 16 0) 18 (nI j)) hi sv sm hd tx B → XF x H H' → ∀ m, hn H' ≤ m → X "java/lang/IllegalArgumentException" (hxn H' m))
    (x2 : ∀ es i Mi ei H', rd tx n = .inl es → run es N = .inr (i, Mi, ei) → CR H' x N (upd (enF Mi ei (upd F 16 0)) 19 (nI i)) hi sv sm hd tx B → XF x H H' → ∀ m, hn H' ≤ m → X "java/lang/UnsupportedOperationException" (hxn H' m))
    (q : ∀ es M r H', rd tx n = .inl es → run es N = .inl M → F 5 = nI r → r ≤ 8 → CR H' x M (upd (upd F 16 0) 5 (nI (pr r))) (ph hi r N) sv sm hd tx (B + 19980) → XF x H H' → Q (some (.int (nI es.length))) H') : CX8_read l [.ref x] H Q X := by
  refine eX8_read hst (Nat.le_of_ble_eq_true rfl) (fun K hK => ?_)
  refine xtx C ?_
  (repeat (refine And.intro (by first | assumption | rfl | exact Nat.le_of_ble_eq_true rfl | exact Nat.zero_le _ | decide) ?_)); refine And.intro (C.1.2.2.2.2.2.2.1.2) ?_; (repeat (refine And.intro (by first | assumption | rfl | exact Nat.le_of_ble_eq_true rfl | exact Nat.zero_le _ | decide) ?_))
  refine d_parse hst C hF n60 (fun H1 (E0 : Note) en0 R1 F1 => ?_)
  have C1 := C.fp F1
  have t1 := C1.1.2.2.2.2.2.2.1.2
  have C2 := C1.txt0
  have X2 : XF x H (wI H1 (x + 242) 1 0) := F1.xf.trans (XF.wI (by omega) (by omega))
  have key : (match rd tx n with | .inl es => (au tx n n 0 0 E0).1 = none ∧ (au tx n n 0 0 E0).2 = E0.adds es ∧ es.length ≤ 20 | .inr j => (au tx n n 0 0 E0).1 = some j ∧ j ≤ 60) := by
    by_cases z : 0 < n
    · have h := au_pg (tx := tx) n60 61 0 E0 z (by omega) (by omega)
      unfold rd
      cases hr : pg tx n 61 0 with
      | inl es =>
        rw [hr] at h
        obtain ⟨h1, h2, h3⟩ := h
        rw [Nat.sub_zero] at h1
        dsimp only
        rw [h1]
        exact ⟨rfl, rfl, by omega⟩
      | inr j =>
        rw [hr] at h
        obtain ⟨h1, h2⟩ := h
        rw [Nat.sub_zero] at h1
        exact ⟨h1, by omega⟩
    · have : n = 0 := by omega
      subst this
      exact ⟨rfl, by decide⟩
  refine xtx C1 ?_
  refine pI_of t1 ?_
  cases hrd : rd tx n with
  | inr j =>
    rw [hrd] at key
    obtain ⟨k1, k2⟩ := key
    rw [k1]
    have jp := nI_pos' (show j < 2 ^ 31 by omega)
    refine And.intro (fun z => absurd (show nI j = -1 from z) (fun y => absurd jp (by rw [y]; decide))) (fun _ => ?_)
    refine pI_of C2.s0 ?_
    exact ⟨Nat.le_of_ble_eq_true rfl, Nat.le_of_ble_eq_true rfl, x1 j _ hrd (C2.ler (nI j) (Or.inr jp)) (X2.trans (XF.wI (Nat.le_refl x) (by omega)))⟩
  | inl es =>
    rw [hrd] at key
    obtain ⟨k1, k2, k3⟩ := key
    rw [k1]
    refine And.intro (fun _ => ?_) (fun z => absurd rfl z)
    refine xt C2 ?_
    refine xw C2 ?_
    have T := C2.2.1.2
    obtain ⟨σt, St⟩ := id T
    (repeat (refine And.intro (by first | assumption | rfl | exact Nat.le_of_ble_eq_true rfl | exact Nat.zero_le _ | decide) ?_)); refine And.intro (St.2.1) ?_; (repeat (refine And.intro (by first | assumption | rfl | exact Nat.le_of_ble_eq_true rfl | exact Nat.zero_le _ | decide) ?_))
    refine d_copyK hst T C2.2.1.1 (by omega) (fun H3 F3 K3 K4 => ?_)
    obtain ⟨σ2, W2, g2⟩ := C2.wvs W.1
    obtain ⟨C3, -⟩ := C2.cpt W2 g2 F3 K3
    have R2 : NtR (wI H1 (x + 242) 1 0) x (E0.adds es) := by
      rw [← k2]
      obtain ⟨r0, r1, r2, r3, x0, e0, e1, ek, ea, eb⟩ := R1
      exact ⟨r0, r1, r2, r3, x0, e0, by rw [hI_wI_k (by decide)]; exact e1, fun i => by rw [hI_wI_o (by omega)]; exact ek i, fun i => by rw [hI_wI_o (by omega)]; exact ea i, fun i => by rw [hI_wI_o (by omega)]; exact eb i⟩
    have R3 := R2.fr F3
    have X3 := X2.trans (XF.fr (x := x) F3 (by omega) (by omega))
    have len : (E0.adds es).n = es.length := by rw [adds_n, en0, Nat.zero_add]
    have hat : ∀ j (hj : j < es.length), (E0.adds es).k (0 + j) = es[j].k ∧ (E0.adds es).a (0 + j) = nI es[j].a ∧ (E0.adds es).b (0 + j) = nI es[j].b := by
      intro j hj
      have := adds_at es E0 j hj
      rw [en0] at this
      exact this
    have eok : ∀ e ∈ es, EnOk e := pg_en 61 0 es hrd
    have loop : ∀ (rest : List Ent) (i : Nat) (M : Nat → Int32) (H4 : Hp), (∀ j (hj : j < rest.length), (E0.adds es).k (i + j) = rest[j].k ∧ (E0.adds es).a (i + j) = nI rest[j].a ∧ (E0.adds es).b (i + j) = nI rest[j].b) → i + rest.length = es.length → (run es N = match run rest M with | .inl M' => .inl M' | .inr (j, Mj, ej) => .inr (j + i, Mj, ej)) → (∀ e ∈ rest, EnOk e) → CR H4 x N (upd F 16 0) hi sv sm hd tx B → Kp H4 (x + 81) M (B + 999 * i) → NtR H4 x (E0.adds es) → XF x H H4 → K 50 [(2, .int (nI i)), (1, .int (-1)), (0, .ref x)] [] H4 (0, 0) := by
      intro rest
      induction rest with
      | nil =>
        intro i M H4 hat hlen hrun _ C4 K5 R4 X4
        have ei : i = es.length := hlen
        refine hK _ _ _ _ ?_
        refine xtx C4 ?_
        refine gI_of R4.1 R4.2.2.2.2.2.2.1 ?_
        rw [len]
        refine And.intro (fun hc => ?_) (fun hc => ?_)
        · obtain ⟨σ4, W4, g4⟩ := C4.wvs W.1
          (repeat (refine And.intro (by first | assumption | rfl | exact Nat.le_of_ble_eq_true rfl | exact Nat.zero_le _ | decide) ?_)); refine And.intro (C4.s0) ?_; (repeat (refine And.intro (by first | assumption | rfl | exact Nat.le_of_ble_eq_true rfl | exact Nat.zero_le _ | decide) ?_))
          refine d_rememberS hst C4 W4 g4 (fun H5 r hr r8 C5 W5 F5 S5 => ?_)
          have K6 : Kp H5 (x + 81) M (B + 999 * i) := K5.same (fun b h1 h2 => S5 b (by omega) (by omega))
          refine xw C5 ?_
          refine xt C5 ?_
          (repeat (refine And.intro (by first | assumption | rfl | exact Nat.le_of_ble_eq_true rfl | exact Nat.zero_le _ | decide) ?_)); refine And.intro (W5.k.s_w) ?_; (repeat (refine And.intro (by first | assumption | rfl | exact Nat.le_of_ble_eq_true rfl | exact Nat.zero_le _ | decide) ?_))
          refine d_copyK hst C5.2.1.1.sp K6 (by omega) (fun H6 F6 K7 K8 => ?_)
          have C6 := C5.world F6 (K7.le (B' := B + 19980) (by omega) hB) (by omega) hB
          have t6 : hs H6 (x + 242) = (6, 6) := by rw [F6.2.1, (S5 _ (by omega) (by omega)).1]; exact R4.1
          refine xtx C6 ?_
          refine gI_of (x := nI es.length) t6 (by rw [(F6.2.2.2 _ (by omega)).1, (S5 _ (by omega) (by omega)).2.2, R4.2.2.2.2.2.2.1, len]) ?_
          repeat (refine And.intro (by first | assumption | rfl | exact Nat.le_of_ble_eq_true rfl | exact Nat.zero_le _ | decide) ?_)
          refine q es M r H6 hrd hrun (by rw [← hr, pk_un (by decide)]) r8 C6 (X4.trans (F5.trans (XF.fr F6 (by omega) (by omega))))
        · exact absurd (show nI es.length ≤ nI i by rw [ei]; exact Int32.le_refl _) hc
      | cons e rest ih =>
        intro i M H4 hat hlen hrun hok C4 K5 R4 X4
        rw [List.length_cons] at hlen
        have hl : i < es.length := by omega
        have h0 := hat 0 (Nat.succ_pos _)
        obtain ⟨σ4, d0, d1, d2, d3, d4, W4, g4⟩ := id K5
        have rr := R4
        obtain ⟨r0, ⟨r1, r2⟩, ⟨r3, r4⟩, ⟨r5, r6⟩, x0, e0, e1, ek, ea, eb⟩ := rr
        refine hK _ _ _ _ ?_
        refine xtx C4 ?_
        refine gI_of R4.1 R4.2.2.2.2.2.2.1 ?_
        rw [len]
        refine And.intro (fun hc => ?_) (fun hc => ?_)
        · exact absurd (show nI es.length ≤ nI i from hc) (nI_ge hl (by omega))
        · refine xtx C4 ?_
          refine gR_of r0 r1 (by omega) ?_
          refine ia_of r2 rfl (show i < 20 by omega) (by decide) ((ek i).trans h0.1) ?_
          refine xtx C4 ?_
          refine gR_of r0 r3 (by omega) ?_
          refine ia_of r4 rfl (show i < 20 by omega) (by decide) ((ea i).trans h0.2.1) ?_
          refine xtx C4 ?_
          refine gR_of r0 r5 (by omega) ?_
          refine ia_of r6 rfl (show i < 20 by omega) (by decide) ((eb i).trans h0.2.2) ?_
          (repeat (refine And.intro (by first | assumption | rfl | exact Nat.le_of_ble_eq_true rfl | exact Nat.zero_le _ | decide) ?_)); refine And.intro (C4.s0) ?_; (repeat (refine And.intro (by first | assumption | rfl | exact Nat.le_of_ble_eq_true rfl | exact Nat.zero_le _ | decide) ?_))
          refine d_tryEntry hst C4 W4 g4 (by omega) (hok e List.mem_cons_self) (fun H5 M' em9 C5 K6 F5 => ?_) (fun H5 em9 C5 F5 => ?_)
          · have em : en M e = some M' := em9
            refine And.intro (fun _ => ?_) (fun z => absurd z (by decide))
            have := ih (i + 1) M' H5 (fun j hj => by
              have := hat (j + 1) (Nat.succ_lt_succ hj)
              rw [show i + (j + 1) = i + 1 + j by omega] at this
              exact this) (by omega) (by
              rw [hrun, run_cons, em]
              dsimp only
              cases run rest M' with
              | inl M'' => rfl
              | inr t =>
                obtain ⟨j, Mj, ej⟩ := t
                show Sum.inr (j + 1 + i, Mj, ej) = Sum.inr (j + (i + 1), Mj, ej)
                rw [show j + 1 + i = j + (i + 1) by omega]) (fun e9 h9 => hok e9 (List.mem_cons_of_mem _ h9)) C5 (by rw [show B + 999 * ((i + 1 : Nat) : Int) = B + 999 * (i : Int) + 999 by omega]; exact K6) (R4.fr F5) (X4.trans (XF.fr F5 (by omega) (by omega)))
            rw [← nI_1 i] at this
            exact this
          · have em : en M e = none := em9
            refine And.intro (fun z => absurd rfl z) (fun _ => ?_)
            refine pI_of C5.s0 ?_
            have ip := nI_pos' (show i < 2 ^ 31 by omega)
            refine ⟨Nat.le_of_ble_eq_true rfl, Nat.le_of_ble_eq_true rfl, x2 es i M e _ hrd ?_ (C5.lrf (nI i) (Or.inr ip)) (X4.trans (F5.trans (XF.wI (Nat.le_refl x) (by omega))))⟩
            rw [hrun, run_cons, em]
            show Sum.inr (0 + i, M, e) = _
            rw [Nat.zero_add]
    refine loop es 0 N H3 hat (by omega) ?_ eok C3 ?_ R3 X3
    · cases run es N with
      | inl M => rfl
      | inr t => rfl
    · rw [show B + 999 * ((0 : Nat) : Int) = B by omega]; exact K3
end H7

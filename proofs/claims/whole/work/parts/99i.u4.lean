section U4
theorem RJ.set {h h1 h' : Hp} {x m o : Nat} {B D : Int} (R : RJ h x m o B D) (c : C1 m h h1) {N' F' sv' : Nat → Int32} (C' : CR h1 x N' F' (fun k => hI h (m + 5 + k)) sv' (fun i => hI h (m + 15 + i)) (hI h (m + 21)) (hI h (m + 22)) B) (g : Mg m h1 h') (g2 : ∀ a, m + 3 ≤ a → hI h' a = hI h1 a) {F2 N2 : Nat → Int32} (eF : ∀ k, k = 5 ∨ k = 6 ∨ k = 7 ∨ k = 8 ∨ k = 9 ∨ k = 16 ∨ k = 18 ∨ k = 19 → F2 k = F' k) (eN : ∀ j, j < 359 → N2 j = N' j) (es : ∀ j, j < 359 → hI h' (m + 2) j = sv' j) (dN : DIr N' D) (ds : F' 6 = 1 → DIr sv' D) (dh : ∀ r k, F' 5 = nI r → r ≤ 8 → k < r → DIr (hI h (m + 5 + k)) D) : RJ (st h' m F2 N2) x m o B D := by
  have o9 : ∀ b, m + 3 ≤ b → hI (st h' m F2 N2) b = hI h b := fun b z => (st_o (by omega) (by omega)).trans ((g2 b z).trans (c.2 b (by omega)).1)
  exact R.fin c C' (g.trans Mg.st) (fun j hj => by rw [st_N]; exact eN j hj) (fun k hk => by rw [st_F]; exact eF k hk) (fun r k z1 z2 z3 j hj => by rw [o9 _ (by omega)]) (fun j hj => by rw [st_o (by omega) (by omega)]; exact es j hj) (fun i j z1 z2 => by rw [o9 _ (by omega)]) (fun i z1 => by rw [o9 _ (by omega)]) (fun i z1 => by rw [o9 _ (by omega)]) dN ds dh R.2.2.2.2.2.2.2
theorem RJ.up {h : Hp} {x m o : Nat} {B D : Int} (R : RJ h x m o B D) (hB : B + 19980 ≤ 16000000) (hD : D + 180 ≤ 1000000) : RJ h x m o (B + 19980) (D + 180) := R.le (by omega) hB (by omega) hD
theorem RJ.s0 {h : Hp} {x m o : Nat} {B D : Int} (R : RJ h x m o B D) : hs h x = (9, 14) := CR.s0 R.2.2.2.2.2.1
theorem enF_o {M : Nat → Int32} {e : Ent} {F : Nat → Int32} {k : Nat} (h7 : k ≠ 7) (h8 : k ≠ 8) (h9 : k ≠ 9) : enF M e F k = F k := by
  unfold enF
  split
  · split
    · rw [pk_un h9, pk_un h8, pk_un h7]
    · rfl
  · split
    · split
      · exact pk_un h7
      · split
        · exact pk_un h7
        · exact pk_un h7
    · rfl
theorem smw_r {h : Hp} {m i : Nat} {a b c d : Int32} (hi : i < 6) {k j : Nat} (hk : k < 6) (hj : j < 4) : hI (smw h m i a b c d) (m + 15 + k) j = p_sm (fun i => hI h (m + 15 + i)) i a b c d k j := by
  unfold smw p_sm
  rw [hI_wI_o (by omega)]
  by_cases z : k = i
  · subst z
    rw [if_pos rfl]
    rcases (show j = 0 ∨ j = 1 ∨ j = 2 ∨ j = 3 by omega) with z | z | z | z <;> subst z
    · rw [hI_wI_k (by decide), hI_wI_k (by decide), hI_wI_k (by decide), hI_wI_s, if_pos rfl]
    · rw [hI_wI_k (by decide), hI_wI_k (by decide), hI_wI_s, if_neg (by decide), if_pos rfl]
    · rw [hI_wI_k (by decide), hI_wI_s, if_neg (by decide), if_neg (by decide), if_pos rfl]
    · rw [hI_wI_s, if_neg (by decide), if_neg (by decide), if_neg (by decide)]
  · rw [if_neg z, hI_wI_o (by omega), hI_wI_o (by omega), hI_wI_o (by omega), hI_wI_o (by omega)]
theorem smw_g {h : Hp} {m i : Nat} {a b c d : Int32} (hi : i < 6) : Mg m h (smw h m i a b c d) := ((((Mg.wI (by omega) (by omega)).trans (Mg.wI (by omega) (by omega))).trans (Mg.wI (by omega) (by omega))).trans (Mg.wI (by omega) (by omega))).trans (Mg.wI (by omega) (by omega))
theorem smw_o {h : Hp} {m i z : Nat} {a b c d : Int32} (h1 : z ≠ m + 15 + i) (h2 : z ≠ m + 21) : hI (smw h m i a b c d) z = hI h z := by
  unfold smw
  rw [hI_wI_o h2, hI_wI_o h1, hI_wI_o h1, hI_wI_o h1, hI_wI_o h1]
theorem v2 {a : Int32} {p : Nat} (e : a = nI p) (h : p < 2) : 0 ≤ a ∧ a < 2 := vP (c := 2) e h (by decide)
theorem v3 {a : Int32} {p : Nat} (e : a = nI p) (h : p < 3) : 0 ≤ a ∧ a < 3 := vP (c := 3) e h (by decide)
theorem vR3 {a : Int32} {p : Nat} (e : a = nI p) (h : p < 4) : 0 ≤ a ∧ a ≤ 3 := vR (c := 3) e (by omega) (by decide)
theorem j_sampled {l : Launch} (hst : l.stackTraces = false) {h : Hp} {x m o : Nat} {B D : Int} (R : RJ h x m o B D) (hB : B + 19980 ≤ 16000000) (hD : D + 180 ≤ 1000000) {a0 a1 a2 : Int32} {Q : Option Value → Hp → Prop} (q : ∀ (k : Int32) (h1 : Hp), hs h1 m = (10, 21) → (∀ Q2 : Option Value → Hp → Prop, (∀ (v : Int32) (h2 : Hp), Jn x m o (B + 19980) (D + 180) k v.toInt64 h2 → Q2 (some (.int v)) h2) → CX9_sampled l [.ref m, .int a0, .int a1, .int a2] h1 Q2 (fun _ _ => False)) → Q (some (.int k)) h1) : CL_sampled l [.ref x, .int a0, .int a1, .int a2, .ref o] h Q (fun _ _ => False) := by
  have C := R.2.2.2.2.2.1
  have hM := R.2.2.2.1
  have hL9 := R.2.2.2.2.1
  obtain ⟨σ, c0, c1, c2, c3, c4, W, g⟩ := C.2.1.1
  have hN := g.wf
  have k8 : c0 ≤ 1000 := by have := hN.1.2; omega
  obtain ⟨r, er, r8⟩ := R.rr
  have dN : DIr (hI h (m + 1)) D := R.2.2.2.2.2.2.1.1
  have dS := R.2.2.2.2.2.2.1.2.1
  have dH := R.2.2.2.2.2.2.1.2.2
  have dI : DI (hI h (m + 1)) c0 D := dN c0 hN.1.1 hN.1.2
  refine eL_sampled hst (Nat.le_of_ble_eq_true rfl) (fun K => ?_)
  refine ⟨rfl, Nat.le_of_ble_eq_true rfl, C.s0, Nat.le_of_ble_eq_true rfl, Nat.le_of_ble_eq_true rfl, ?_⟩
  have hz : ∀ i, i < 6 → hI h (m + 21) i = 0 ∨ hI h (m + 21) i = 1 := fun i hi => (C.2.2.2.2.2.2 i hi).1
  have hx3 : ∀ {a b a2 b2 : Nat} {S O : Int32}, S = nI a → a < 2 → O = nI b → b < 3 → S = nI a2 → a2 < 2 → O = nI b2 → b2 < 3 → a * 3 + b = a2 * 3 + b2 := fun s1 s2 s3 s4 s5 s6 s7 s8 => by
    obtain rfl := nJ s1 s5 (by omega) (by omega)
    obtain rfl := nJ s3 s7 (by omega) (by omega)
    rfl
  refine e_sampled hst C (fun h1 n hn => ⟨_, List.Mem.head _, fun q9 => thr_l (Nat.le_of_ble_eq_true rfl) (Nat.le_of_ble_eq_true rfl) (q 1 _ hM.1 (fun Q2 q2 => ?_))⟩) (fun h1 n hn => ⟨_, List.Mem.tail _ (List.Mem.head _), fun q9 => thr_l (Nat.le_of_ble_eq_true rfl) (Nat.le_of_ble_eq_true rfl) (q 2 _ hM.1 (fun Q2 q2 => ?_))⟩) (fun ⟨a, b, e1, e2, e3, e4, e5, e6⟩ n hn => ⟨_, List.Mem.tail _ (List.Mem.tail _ (List.Mem.head _)), fun q9 => thr_l (Nat.le_of_ble_eq_true rfl) (Nat.le_of_ble_eq_true rfl) (q 3 _ hM.1 (fun Q2 q2 => ?_))⟩) (fun a b k1 e1 e2 e3 e4 e5 e6 e7 => ret_l R.2.2.1.1 (Nat.le_of_ble_eq_true rfl) (Nat.le_of_ble_eq_true rfl) (q 0 _ hM.1 (fun Q2 q2 => ?_)))
  · have c : C1 m h (hxn h n) := C1.rf
    rw [c.st]
    refine k_sampled hst (c.mds hM) (c.mdl hL9) hN hz (fun z1 => q2 _ _ (Jn.thr (k := 1) R hB hD c C.hxn Mf.rf eF0 (fun _ _ => rfl) ⟨rfl, rfl⟩ rfl (by decide))) (fun z1 z2 => absurd z1 h1) (fun a b y1 y2 y3 y4 y5 y6 => absurd ⟨v2 y1 y2, v3 y3 y4⟩ h1) (fun a b k y1 y2 y3 y4 y5 y6 y7 => absurd ⟨v2 y1 y2, v3 y3 y4⟩ h1)
  · have c : C1 m h (hxn h n) := C1.rf
    rw [c.st]
    refine k_sampled hst (c.mds hM) (c.mdl hL9) hN hz (fun z1 => absurd h1.1 z1) (fun z1 z2 => q2 _ _ (Jn.thr (k := 2) R hB hD c C.hxn Mf.rf eF0 (fun _ _ => rfl) ⟨rfl, rfl⟩ rfl (by decide))) (fun a b y1 y2 y3 y4 y5 y6 => absurd y5 h1.2) (fun a b k y1 y2 y3 y4 y5 y6 y7 => absurd (vR3 y5 y6) h1.2)
  · have c : C1 m h (hxn h n) := C1.rf
    rw [c.st]
    refine k_sampled hst (c.mds hM) (c.mdl hL9) hN hz (fun z1 => absurd ⟨v2 e1 e2, v3 e3 e4⟩ z1) (fun z1 z2 => absurd e5 z2) (fun a9 b9 y1 y2 y3 y4 y5 y6 => q2 _ _ (Jn.thr (k := 3) R hB hD c C.hxn Mf.rf eF0 (fun _ _ => rfl) ⟨rfl, rfl⟩ rfl (by decide))) (fun a9 b9 k y1 y2 y3 y4 y5 y6 y7 => absurd (show hI h (m + 21) (a9 * 3 + b9) = 0 by rw [← hx3 e1 e2 e3 e4 y1 y2 y3 y4]; exact e6) y7)
  · have c0 : C1 m h h := C1.rf
    rw [c0.wL.st]
    refine k_sampled hst (c0.wL.mds hM) (c0.wL.mdl hL9) hN hz (fun z1 => absurd ⟨v2 e1 e2, v3 e3 e4⟩ z1) (fun z1 z2 => absurd (vR3 e5 e6) z2) (fun a9 b9 y1 y2 y3 y4 y5 y6 => absurd (show hI h (m + 21) (a * 3 + b) = 0 by rw [hx3 e1 e2 e3 e4 y1 y2 y3 y4]; exact y6) e7) (fun a9 b9 k2 y1 y2 y3 y4 y5 y6 y7 => ?_)
    obtain rfl := nJ e1 y1 (by omega) (by omega)
    obtain rfl := nJ e3 y3 (by omega) (by omega)
    obtain rfl := nJ e5 y5 (by omega) (by omega)
    exact q2 _ _ (Jn.ret R hB hD c0.wL C.wL Mf.rf eF0 (fun _ _ => rfl) ⟨rfl, rfl⟩ rfl hL_wL)
theorem j_sample {l : Launch} (hst : l.stackTraces = false) {h : Hp} {x m o : Nat} {B D : Int} (R : RJ h x m o B D) (hB : B + 19980 ≤ 16000000) (hD : D + 180 ≤ 1000000) {a0 a1 a2 : Int32} {Q : Option Value → Hp → Prop} (q : ∀ (k : Int32) (h1 : Hp), hs h1 m = (10, 21) → (∀ Q2 : Option Value → Hp → Prop, (∀ (v : Int32) (h2 : Hp), Jn x m o (B + 19980) (D + 180) k v.toInt64 h2 → Q2 (some (.int v)) h2) → CX9_sample l [.ref m, .int a0, .int a1, .int a2] h1 Q2 (fun _ _ => False)) → Q (some (.int k)) h1) : CL_sample l [.ref x, .int a0, .int a1, .int a2, .ref o] h Q (fun _ _ => False) := by
  have C := R.2.2.2.2.2.1
  have hM := R.2.2.2.1
  have hL9 := R.2.2.2.2.1
  obtain ⟨σ, c0, c1, c2, c3, c4, W, g⟩ := C.2.1.1
  have hN := g.wf
  have k8 : c0 ≤ 1000 := by have := hN.1.2; omega
  obtain ⟨r, er, r8⟩ := R.rr
  have dN : DIr (hI h (m + 1)) D := R.2.2.2.2.2.2.1.1
  have dS := R.2.2.2.2.2.2.1.2.1
  have dH := R.2.2.2.2.2.2.1.2.2
  have dI : DI (hI h (m + 1)) c0 D := dN c0 hN.1.1 hN.1.2
  refine eL_sample hst (Nat.le_of_ble_eq_true rfl) (fun K => ?_)
  refine ⟨rfl, Nat.le_of_ble_eq_true rfl, C.s0, Nat.le_of_ble_eq_true rfl, Nat.le_of_ble_eq_true rfl, ?_⟩
  refine e_sample hst C W g (fun h1 n hn => ⟨_, List.Mem.head _, fun q9 => thr_l (Nat.le_of_ble_eq_true rfl) (Nat.le_of_ble_eq_true rfl) (q 1 _ hM.1 (fun Q2 q2 => ?_))⟩) (fun ⟨h1, h2, p, w1, w2, w3⟩ n hn => ⟨_, List.Mem.tail _ (List.Mem.head _), fun q9 => thr_l (Nat.le_of_ble_eq_true rfl) (Nat.le_of_ble_eq_true rfl) (q 2 _ hM.1 (fun Q2 q2 => ?_))⟩) (fun a b p H' e1 e2 e3 e4 e5 e6 e7 C' X' => ret_l (R.hnL X').1 (Nat.le_of_ble_eq_true rfl) (Nat.le_of_ble_eq_true rfl) (q 0 _ (R.hnL X').2 (fun Q2 q2 => ?_)))
  · have c : C1 m h (hxn h n) := C1.rf
    rw [c.st]
    refine k_sample hst (c.mds hM) (c.mdl hL9) hN (fun z1 => q2 _ _ (Jn.thr (k := 1) R hB hD c C.hxn Mf.rf eF0 (fun _ _ => rfl) ⟨rfl, rfl⟩ rfl (by decide))) (fun p y1 y2 y3 y4 y5 => absurd ⟨y1, vP y2 y3 k8⟩ h1) (fun a b p y1 y2 y3 y4 y5 y6 y7 => absurd ⟨⟨v2 y1 y2, v3 y3 y4⟩, vP y5 y6 k8⟩ h1)
  · have c : C1 m h (hxn h n) := C1.rf
    rw [c.st]
    refine k_sample hst (c.mds hM) (c.mdl hL9) hN (fun z1 => absurd h1 z1) (fun p9 y1 y2 y3 y4 y5 => q2 _ _ (Jn.thr (k := 2) R hB hD c C.hxn Mf.rf eF0 (fun _ _ => rfl) ⟨rfl, rfl⟩ rfl (by decide))) (fun a b p9 y1 y2 y3 y4 y5 y6 y7 => absurd (y7 (nJ y1 (show a0 = nI 0 from h2) (by omega) (by decide))) (by obtain rfl := nJ w1 y5 (by omega) (by omega); exact w3))
  · have c0 : C1 m h H' := C1.of R.1 X'
    rw [c0.wL.st]
    refine k_sample hst (c0.wL.mds hM) (c0.wL.mdl hL9) hN (fun z1 => absurd ⟨⟨v2 e1 e2, v3 e3 e4⟩, vP e5 e6 k8⟩ z1) (fun p9 y1 y2 y3 y4 y5 => absurd (e7 (nJ e1 (show a0 = nI 0 from y4) (by omega) (by decide))) (by obtain rfl := nJ e5 y2 (by omega) (by omega); exact y5)) (fun a9 b9 p9 y1 y2 y3 y4 y5 y6 y7 => ?_)
    obtain rfl := nJ e1 y1 (by omega) (by omega)
    obtain rfl := nJ e3 y3 (by omega) (by omega)
    obtain rfl := nJ e5 y5 (by omega) (by omega)
    have i6 : a * 3 + b < 6 := by omega
    have f21 : hI H' (m + 21) = hI h (m + 21) := (c0.2 _ (by omega)).1
    have lo : ∀ z, m + 2 ≤ z → (z < m + 15) → ∀ (v : Int64) (p1 p2 p3 p4 : Int32) (F2 N2 : Nat → Int32), hI (st (smw (wL H' o 0 v) m (a * 3 + b) p1 p2 p3 p4) m F2 N2) z = hI h z := fun z z1 z2 v p1 p2 p3 p4 F2 N2 => (st_o (by omega) (by omega)).trans ((smw_o (by omega) (by omega)).trans (c0.2 z (by omega)).1)
    rw [show hI (wL H' o 0 (Int32.toInt64 (nI (s_fill (upd (hI h (m + 21)) (a * 3 + b) 1) a 3)))) (m + 21) = hI h (m + 21) from f21]
    refine q2 _ _ ⟨RJ.up (R.fin c0.wL C'.wL ((smw_g i6).trans Mg.st) (fun j _ => by rw [st_N]) (fun k hk => by rw [st_F]; exact eF0 k hk) (fun r k z1 z2 z3 j hj => by rw [lo _ (by omega) (by omega)]) (fun j hj => by rw [lo _ (by omega) (by omega)]) (fun i j z1 z2 => ?_) (fun i z1 => ?_) (fun k hk => ?_) dN dS dH R.2.2.2.2.2.2.2) hB hD, by rw [st_F]; rfl, fun _ => hL_wL⟩
    · rw [st_o (by omega) (by omega), smw_r i6 z1 z2]
      unfold p_sm
      split
      · rfl
      · exact congrFun (c0.2 (m + 15 + i) (by omega)).1 j
    · rw [st_o (by omega) (by omega), smw_f i6]
      rw [show hI (wL H' o 0 (Int32.toInt64 (nI (s_fill (upd (hI h (m + 21)) (a * 3 + b) 1) a 3)))) (m + 21) = hI h (m + 21) from f21]
    · rw [st_o (by omega) (by omega), smw_o (by omega) (by omega)]
      rw [show hI (wL H' o 0 (Int32.toInt64 (nI (s_fill (upd (hI h (m + 21)) (a * 3 + b) 1) a 3)))) (m + 22) = hI h (m + 22) from (c0.2 _ (by omega)).1]
theorem j_append {l : Launch} (hst : l.stackTraces = false) {h : Hp} {x m o : Nat} {B D : Int} (R : RJ h x m o B D) (hB : B + 19980 ≤ 16000000) (hD : D + 180 ≤ 1000000) {a0 : Int32} {Q : Option Value → Hp → Prop} (q : ∀ (k : Int32) (h1 : Hp), hs h1 m = (10, 21) → (∀ Q2 : Option Value → Hp → Prop, (∀ (v : Int32) (h2 : Hp), Jn x m o (B + 19980) (D + 180) k v.toInt64 h2 → Q2 (some (.int v)) h2) → CX9_append l [.ref m, .int a0] h1 Q2 (fun _ _ => False)) → Q (some (.int k)) h1) : CL_append l [.ref x, .int a0, .ref o] h Q (fun _ _ => False) := by
  have C := R.2.2.2.2.2.1
  have hM := R.2.2.2.1
  have hL9 := R.2.2.2.2.1
  obtain ⟨σ, c0, c1, c2, c3, c4, W, g⟩ := C.2.1.1
  have hN := g.wf
  have k8 : c0 ≤ 1000 := by have := hN.1.2; omega
  obtain ⟨r, er, r8⟩ := R.rr
  have dN : DIr (hI h (m + 1)) D := R.2.2.2.2.2.2.1.1
  have dS := R.2.2.2.2.2.2.1.2.1
  have dH := R.2.2.2.2.2.2.1.2.2
  have dI : DI (hI h (m + 1)) c0 D := dN c0 hN.1.1 hN.1.2
  refine eL_append hst (Nat.le_of_ble_eq_true rfl) (fun K => ?_)
  refine ⟨rfl, Nat.le_of_ble_eq_true rfl, C.s0, Nat.le_of_ble_eq_true rfl, Nat.le_of_ble_eq_true rfl, ?_⟩
  obtain ⟨t9, t60, et, -, -⟩ := C.2.2.2.2.2.1
  refine e_append hst C (fun h1 n hn => ⟨_, List.Mem.head _, fun q9 => thr_l (Nat.le_of_ble_eq_true rfl) (Nat.le_of_ble_eq_true rfl) (q 1 _ hM.1 (fun Q2 q2 => ?_))⟩) (fun h1 n hn => ⟨_, List.Mem.tail _ (List.Mem.head _), fun q9 => thr_l (Nat.le_of_ble_eq_true rfl) (Nat.le_of_ble_eq_true rfl) (q 2 _ hM.1 (fun Q2 q2 => ?_))⟩) (fun n9 H' e1 e2 e3 C' X' => ret_l (R.hnL X').1 (Nat.le_of_ble_eq_true rfl) (Nat.le_of_ble_eq_true rfl) (q 0 _ (R.hnL X').2 (fun Q2 q2 => ?_)))
  · have c : C1 m h (hxn h n) := C1.rf
    rw [c.st]
    refine k_append hst (c.mds hM) (c.mdl hL9) hN et t60 (fun z1 => q2 _ _ (Jn.thr (k := 1) R hB hD c C.hxn Mf.rf eF0 (fun _ _ => rfl) ⟨rfl, rfl⟩ rfl (by decide))) (fun z1 z2 => absurd z1 h1) (fun z1 z2 => absurd z1 h1)
  · have c : C1 m h (hxn h n) := C1.rf
    rw [c.st]
    refine k_append hst (c.mds hM) (c.mdl hL9) hN et t60 (fun z1 => absurd h1.1 z1) (fun z1 z2 => q2 _ _ (Jn.thr (k := 2) R hB hD c C.hxn Mf.rf eF0 (fun _ _ => rfl) ⟨rfl, rfl⟩ rfl (by decide))) (fun z1 z2 => absurd (nJ et (show hI h m 16 = nI 60 from h1.2) (by omega) (by decide)) (by omega))
  · have c0 : C1 m h H' := C1.of R.1 X'
    rw [c0.wL.st]
    refine k_append hst (c0.wL.mds hM) (c0.wL.mdl hL9) hN et t60 (fun z1 => absurd e1 z1) (fun z1 z2 => absurd (nJ e3 et (by omega) (by omega)) (by omega)) (fun z1 z2 => ?_)
    obtain rfl := nJ e3 et (by omega) (by omega)
    have lo : ∀ z, m + 2 ≤ z → (z < m + 22) → ∀ (v : Int64) (F2 N2 : Nat → Int32), hI (st (wI (wL H' o 0 v) (m + 22) n9 a0) m F2 N2) z = hI h z := fun z z1 z2 v F2 N2 => (st_o (by omega) (by omega)).trans ((hI_wI_o (by omega)).trans (c0.2 z (by omega)).1)
    refine q2 _ _ ⟨RJ.up (R.fin c0.wL C'.wL ((Mg.wI (by omega) (by omega)).trans Mg.st) (fun j _ => by rw [st_N]) (fun k hk => by rw [st_F]; revert k hk; exact (fun k hk => by rcases hk with h9 | h9 | h9 | h9 | h9 | h9 | h9 | h9 <;> subst h9 <;> rfl)) (fun r k z1 z2 z3 j hj => by rw [lo _ (by omega) (by omega)]) (fun j hj => by rw [lo _ (by omega) (by omega)]) (fun i j z1 z2 => by rw [lo _ (by omega) (by omega)]) (fun i z1 => by rw [lo _ (by omega) (by omega)]) (fun k hk => ?_) dN (fun z => dS z) (fun r k z1 z2 z3 => dH r k z1 z2 z3) R.2.2.2.2.2.2.2) hB hD, by rw [st_F]; rfl, fun _ => hL_wL⟩
    rw [st_o (by omega) (by omega)]
    by_cases z : k = n9
    · subst z
      rw [hI_wI_s, pk_us]
    · rw [hI_wI_k z, pk_un z]
      exact congrFun (c0.2 (m + 22) (by omega)).1 k
theorem j_undo {l : Launch} (hst : l.stackTraces = false) {h : Hp} {x m o : Nat} {B D : Int} (R : RJ h x m o B D) (hB : B + 19980 ≤ 16000000) (hD : D + 180 ≤ 1000000) {Q : Option Value → Hp → Prop} (q : ∀ (k : Int32) (h1 : Hp), hs h1 m = (10, 21) → (∀ Q2 : Option Value → Hp → Prop, (∀ (v : Int32) (h2 : Hp), Jn x m o (B + 19980) (D + 180) k v.toInt64 h2 → Q2 (some (.int v)) h2) → CX9_undo l [.ref m] h1 Q2 (fun _ _ => False)) → Q (some (.int k)) h1) : CL_undo l [.ref x, .ref o] h Q (fun _ _ => False) := by
  have C := R.2.2.2.2.2.1
  have hM := R.2.2.2.1
  have hL9 := R.2.2.2.2.1
  obtain ⟨σ, c0, c1, c2, c3, c4, W, g⟩ := C.2.1.1
  have hN := g.wf
  have k8 : c0 ≤ 1000 := by have := hN.1.2; omega
  obtain ⟨r, er, r8⟩ := R.rr
  have dN : DIr (hI h (m + 1)) D := R.2.2.2.2.2.2.1.1
  have dS := R.2.2.2.2.2.2.1.2.1
  have dH := R.2.2.2.2.2.2.1.2.2
  have dI : DI (hI h (m + 1)) c0 D := dN c0 hN.1.1 hN.1.2
  refine eL_undo hst (Nat.le_of_ble_eq_true rfl) (fun K => ?_)
  refine ⟨rfl, Nat.le_of_ble_eq_true rfl, C.s0, Nat.le_of_ble_eq_true rfl, Nat.le_of_ble_eq_true rfl, ?_⟩
  refine e_undo hst C (fun h1 n hn => ⟨_, List.Mem.head _, fun q9 => thr_l (Nat.le_of_ble_eq_true rfl) (Nat.le_of_ble_eq_true rfl) (q 1 _ hM.1 (fun Q2 q2 => ?_))⟩) (fun r' H' e1 e2 C' X' => ret_l (R.hnL X').1 (Nat.le_of_ble_eq_true rfl) (Nat.le_of_ble_eq_true rfl) (q 0 _ (R.hnL X').2 (fun Q2 q2 => ?_)))
  · have c : C1 m h (hxn h n) := C1.rf
    rw [c.st]
    refine k_undo hst (c.mds hM) (c.mdl hL9) hN er r8 (fun z1 => q2 _ _ (Jn.thr (k := 1) R hB hD c C.hxn Mf.rf eF0 (fun _ _ => rfl) ⟨rfl, rfl⟩ rfl (by decide))) (fun r2 y1 y2 => absurd (nJ y1 (show hI h m 5 = nI 0 from h1) (by omega) (by decide)) (by omega))
  · have c0 : C1 m h H' := C1.of R.1 X'
    rw [c0.wL.st]
    refine k_undo hst (c0.wL.mds hM) (c0.wL.mdl hL9) hN er r8 (fun z1 => absurd (nJ e1 (show hI h m 5 = nI 0 from z1) (by omega) (by decide)) (by omega)) (fun r2 y1 y2 => ?_)
    obtain rfl : r' = r2 := by have := nJ e1 y1 (by omega) (by omega); omega
    refine q2 _ _ ⟨RJ.up (R.set c0.wL C'.wL Mg.rf (fun _ _ => rfl) (eFp (v := 0)) (fun j hj => ?_) (fun j hj => congrFun (c0.2 (m + 2) (by omega)).1 j) (dH (r' + 1) r' e1 e2 (Nat.lt_succ_self _)) (fun z => dS z) (fun r k z1 z2 z3 => ?_)) hB hD, by rw [st_F]; rfl, fun _ => hL_wL⟩
    · rw [cpr_lt hj]
      exact congrFun (c0.2 (m + 5 + r') (by omega)).1 j
    · have := nIj (z1.symm.trans (show upd (hI h m) 5 (nI r') 5 = nI r' from pk_us)) (by omega) (by omega)
      exact dH (r' + 1) k e1 e2 (by omega)
theorem j_restore {l : Launch} (hst : l.stackTraces = false) {h : Hp} {x m o : Nat} {B D : Int} (R : RJ h x m o B D) (hB : B + 19980 ≤ 16000000) (hD : D + 180 ≤ 1000000) {Q : Option Value → Hp → Prop} (q : ∀ (k : Int32) (h1 : Hp), hs h1 m = (10, 21) → (∀ Q2 : Option Value → Hp → Prop, (∀ (v : Int32) (h2 : Hp), Jn x m o (B + 19980) (D + 180) k v.toInt64 h2 → Q2 (some (.int v)) h2) → CX9_restore l [.ref m] h1 Q2 (fun _ _ => False)) → Q (some (.int k)) h1) : CL_restore l [.ref x, .ref o] h Q (fun _ _ => False) := by
  have C := R.2.2.2.2.2.1
  have hM := R.2.2.2.1
  have hL9 := R.2.2.2.2.1
  obtain ⟨σ, c0, c1, c2, c3, c4, W, g⟩ := C.2.1.1
  have hN := g.wf
  have k8 : c0 ≤ 1000 := by have := hN.1.2; omega
  obtain ⟨r, er, r8⟩ := R.rr
  have dN : DIr (hI h (m + 1)) D := R.2.2.2.2.2.2.1.1
  have dS := R.2.2.2.2.2.2.1.2.1
  have dH := R.2.2.2.2.2.2.1.2.2
  have dI : DI (hI h (m + 1)) c0 D := dN c0 hN.1.1 hN.1.2
  refine eL_restore hst (Nat.le_of_ble_eq_true rfl) (fun K => ?_)
  refine ⟨rfl, Nat.le_of_ble_eq_true rfl, C.s0, Nat.le_of_ble_eq_true rfl, Nat.le_of_ble_eq_true rfl, ?_⟩
  refine e_restore hst C (fun h1 n hn => ⟨_, List.Mem.head _, fun q9 => thr_l (Nat.le_of_ble_eq_true rfl) (Nat.le_of_ble_eq_true rfl) (q 1 _ hM.1 (fun Q2 q2 => ?_))⟩) (fun H' e1 C' X' => ret_l (R.hnL X').1 (Nat.le_of_ble_eq_true rfl) (Nat.le_of_ble_eq_true rfl) (q 0 _ (R.hnL X').2 (fun Q2 q2 => ?_)))
  · have c : C1 m h (hxn h n) := C1.rf
    rw [c.st]
    refine k_restore hst (c.mds hM) (c.mdl hL9) hN (fun z1 => q2 _ _ (Jn.thr (k := 1) R hB hD c C.hxn Mf.rf eF0 (fun _ _ => rfl) ⟨rfl, rfl⟩ rfl (by decide))) (fun y1 => absurd h1 y1)
  · have c0 : C1 m h H' := C1.of R.1 X'
    rw [c0.wL.st]
    refine k_restore hst (c0.wL.mds hM) (c0.wL.mdl hL9) hN (fun z1 => absurd (show (1 : Int32) = 0 from e1.symm.trans z1) (by decide)) (fun y1 => ?_)
    rw [show hI (wL H' o 0 (Int32.toInt64 (hI h (m + 2) 0))) (m + 2) = hI h (m + 2) from (c0.2 _ (by omega)).1]
    refine q2 _ _ ⟨RJ.up (R.set c0.wL C'.wL Mg.rf (fun _ _ => rfl) (eFp (v := 0)) (fun j hj => cpr_lt hj) (fun j hj => congrFun (c0.2 (m + 2) (by omega)).1 j) (dS e1) (fun z => dS z) (fun r k z1 z2 z3 => ?_)) hB hD, by rw [st_F]; rfl, fun _ => hL_wL⟩
    have := nIj (z1.symm.trans (show upd (hI h m) 5 0 5 = nI 0 from pk_us)) (by omega) (by decide)
    omega
end U4

section JB
theorem j_stockAfter {l : Launch} (hst : l.stackTraces = false) {h : Hp} {x m o : Nat} {B D : Int} (R : RJ h x m o B D) (hB : B + 19980 ≤ 16000000) (hD : D + 180 ≤ 1000000) {a0 a1 : Int32} {Q : Option Value → Hp → Prop} (q : ∀ (k : Int32) (h1 : Hp), hs h1 m = (10, 21) → (∀ Q2 : Option Value → Hp → Prop, (∀ (v : Int32) (h2 : Hp), Jn x m o (B + 19980) (D + 180) k v.toInt64 h2 → Q2 (some (.int v)) h2) → CX9_stockAfter l [.ref m, .int a0, .int a1] h1 Q2 (fun _ _ => False)) → Q (some (.int k)) h1) : CL_stockAfter l [.ref x, .int a0, .int a1, .ref o] h Q (fun _ _ => False) := by

  have C := R.2.2.2.2.2.1
  have hM := R.2.2.2.1
  have hL9 := R.2.2.2.2.1
  obtain ⟨σ, c0, c1, c2, c3, c4, W, g⟩ := C.2.1.1
  have hN := g.wf
  have k8 : c0 ≤ 1000 := by have := hN.1.2; omega
  have k4 : c1 ≤ 1000 := by have := hN.2.1.2; omega
  have k12 : c2 ≤ 1000 := by have := hN.2.2.1.2; omega
  have k13 : c3 ≤ 1000 := by have := hN.2.2.2.1.2; omega
  have k14 : c4 ≤ 1000 := by have := hN.2.2.2.2.1.2; omega
  obtain ⟨r, er, r8⟩ := R.rr
  have dN : DIr (hI h (m + 1)) D := R.2.2.2.2.2.2.1.1
  have dI : DI (hI h (m + 1)) c0 D := dN c0 hN.1.1 hN.1.2
  refine eL_stockAfter hst (Nat.le_of_ble_eq_true rfl) (fun K => ?_)
  refine ⟨rfl, Nat.le_of_ble_eq_true rfl, C.s0, Nat.le_of_ble_eq_true rfl, Nat.le_of_ble_eq_true rfl, ?_⟩
  refine e_stockAfter hst C W g (fun h1 n hn => ⟨_, List.Mem.head _, fun q9 => thr_l (Nat.le_of_ble_eq_true rfl) (Nat.le_of_ble_eq_true rfl) (q 1 _ (hM.1) (fun Q2 q2 => ?_))⟩) (fun h1 n hn => ⟨_, List.Mem.tail _ (List.Mem.head _), fun q9 => thr_l (Nat.le_of_ble_eq_true rfl) (Nat.le_of_ble_eq_true rfl) (q 2 _ (hM.1) (fun Q2 q2 => ?_))⟩) (fun p d H' e1 e2 e3 e4 C' X' => ret_l (R.hnL X').1 (Nat.le_of_ble_eq_true rfl) (Nat.le_of_ble_eq_true rfl) (q 0 _ (R.hnL X').2 (fun Q2 q2 => ?_)))
  · have c : C1 m h (hxn h n) := C1.rf
    have CC := C.hxn (n := n)
    rw [c.st]
    refine k_stockAfter hst (c.mds hM) (c.mdl hL9) g (fun z1 => q2 _ _ (Jn.thr (k := 1) R hB hD c CC Mf.rf eF0 (fun _ _ => rfl) ⟨rfl, rfl⟩ rfl (by decide))) (fun z1 z2 => absurd (z1) (h1)) (fun p2 d2 h' N' y1 y2 y3 y4 mf eN => absurd (vP y1 y2 k8) (h1))
  · have c : C1 m h (hxn h n) := C1.rf
    have CC := C.hxn (n := n)
    rw [c.st]
    refine k_stockAfter hst (c.mds hM) (c.mdl hL9) g (fun z1 => absurd (h1.1) (z1)) (fun z1 z2 => q2 _ _ (Jn.thr (k := 2) R hB hD c CC Mf.rf eF0 (fun _ _ => rfl) ⟨rfl, rfl⟩ rfl (by decide))) (fun p2 d2 h' N' y1 y2 y3 y4 mf eN => absurd (vR y3 (show d2 ≤ 30 by omega) (by decide)) (h1.2))
  · have c0 : C1 m h H' := C1.of R.1 X'
    rw [c0.wL.st]
    refine k_stockAfter hst (c0.wL.mds hM) (c0.wL.mdl hL9) g (fun z1 => absurd (vP e1 e2 k8) (z1)) (fun z1 z2 => absurd (vR e3 (show d ≤ 30 by omega) (by decide)) (z2)) (fun p2 d2 h' N' y1 y2 y3 y4 mf eN => ?_)
    obtain rfl := nJ e1 y1 (by omega) (by omega)
    obtain rfl := nJ e3 y3 (by omega) (by omega)
    exact q2 _ _ (Jn.ret R hB hD c0.wL C'.wL mf eF0 eN ⟨rfl, rfl⟩ rfl hL_wL)
theorem j_possible {l : Launch} (hst : l.stackTraces = false) {h : Hp} {x m o : Nat} {B D : Int} (R : RJ h x m o B D) (hB : B + 19980 ≤ 16000000) (hD : D + 180 ≤ 1000000) {a0 : Int32} {Q : Option Value → Hp → Prop} (q : ∀ (k : Int32) (h1 : Hp), hs h1 m = (10, 21) → (∀ Q2 : Option Value → Hp → Prop, (∀ (v : Int32) (h2 : Hp), Jn x m o (B + 19980) (D + 180) k v.toInt64 h2 → Q2 (some (.int v)) h2) → CX9_possible l [.ref m, .int a0] h1 Q2 (fun _ _ => False)) → Q (some (.int k)) h1) : CL_possible l [.ref x, .int a0, .ref o] h Q (fun _ _ => False) := by

  have C := R.2.2.2.2.2.1
  have hM := R.2.2.2.1
  have hL9 := R.2.2.2.2.1
  obtain ⟨σ, c0, c1, c2, c3, c4, W, g⟩ := C.2.1.1
  have hN := g.wf
  have k8 : c0 ≤ 1000 := by have := hN.1.2; omega
  have k4 : c1 ≤ 1000 := by have := hN.2.1.2; omega
  have k12 : c2 ≤ 1000 := by have := hN.2.2.1.2; omega
  have k13 : c3 ≤ 1000 := by have := hN.2.2.2.1.2; omega
  have k14 : c4 ≤ 1000 := by have := hN.2.2.2.2.1.2; omega
  obtain ⟨r, er, r8⟩ := R.rr
  have dN : DIr (hI h (m + 1)) D := R.2.2.2.2.2.2.1.1
  have dI : DI (hI h (m + 1)) c0 D := dN c0 hN.1.1 hN.1.2
  refine eL_possible hst (Nat.le_of_ble_eq_true rfl) (fun K => ?_)
  refine ⟨rfl, Nat.le_of_ble_eq_true rfl, C.s0, Nat.le_of_ble_eq_true rfl, Nat.le_of_ble_eq_true rfl, ?_⟩
  refine e_possible hst C W g (fun h1 n hn => ⟨_, List.Mem.head _, fun q9 => thr_l (Nat.le_of_ble_eq_true rfl) (Nat.le_of_ble_eq_true rfl) (q 1 _ (hM.1) (fun Q2 q2 => ?_))⟩) (fun p H' e1 e2 C' X' => ret_l (R.hnL X').1 (Nat.le_of_ble_eq_true rfl) (Nat.le_of_ble_eq_true rfl) (q 0 _ (R.hnL X').2 (fun Q2 q2 => ?_)))
  · have c : C1 m h (hxn h n) := C1.rf
    have CC := C.hxn (n := n)
    rw [c.st]
    refine k_possible hst (c.mds hM) (c.mdl hL9) g (fun z1 => q2 _ _ (Jn.thr (k := 1) R hB hD c CC Mf.rf eF0 (fun _ _ => rfl) ⟨rfl, rfl⟩ rfl (by decide))) (fun p2 h' F' N' y1 y2 mf eN eF => absurd (vP y1 y2 k4) (h1))
  · have c0 : C1 m h H' := C1.of R.1 X'
    rw [c0.wL.st]
    refine k_possible hst (c0.wL.mds hM) (c0.wL.mdl hL9) g (fun z1 => absurd (vP e1 e2 k4) (z1)) (fun p2 h' F' N' y1 y2 mf eN eF => ?_)
    obtain rfl := nJ e1 y1 (by omega) (by omega)
    exact q2 _ _ (Jn.ret R hB hD c0.wL C'.wL mf (fun k hk => (eF k (by omega) (by omega)).trans (eF0 k hk)) eN ⟨rfl, rfl⟩ ((eF 0 (by decide) (by decide)).trans pk_us) hL_wL)
theorem j_lacking {l : Launch} (hst : l.stackTraces = false) {h : Hp} {x m o : Nat} {B D : Int} (R : RJ h x m o B D) (hB : B + 19980 ≤ 16000000) (hD : D + 180 ≤ 1000000) {a0 : Int32} {Q : Option Value → Hp → Prop} (q : ∀ (k : Int32) (h1 : Hp), hs h1 m = (10, 21) → (∀ Q2 : Option Value → Hp → Prop, (∀ (v : Int32) (h2 : Hp), Jn x m o (B + 19980) (D + 180) k v.toInt64 h2 → Q2 (some (.int v)) h2) → CX9_lacking l [.ref m, .int a0] h1 Q2 (fun _ _ => False)) → Q (some (.int k)) h1) : CL_lacking l [.ref x, .int a0, .ref o] h Q (fun _ _ => False) := by

  have C := R.2.2.2.2.2.1
  have hM := R.2.2.2.1
  have hL9 := R.2.2.2.2.1
  obtain ⟨σ, c0, c1, c2, c3, c4, W, g⟩ := C.2.1.1
  have hN := g.wf
  have k8 : c0 ≤ 1000 := by have := hN.1.2; omega
  have k4 : c1 ≤ 1000 := by have := hN.2.1.2; omega
  have k12 : c2 ≤ 1000 := by have := hN.2.2.1.2; omega
  have k13 : c3 ≤ 1000 := by have := hN.2.2.2.1.2; omega
  have k14 : c4 ≤ 1000 := by have := hN.2.2.2.2.1.2; omega
  obtain ⟨r, er, r8⟩ := R.rr
  have dN : DIr (hI h (m + 1)) D := R.2.2.2.2.2.2.1.1
  have dI : DI (hI h (m + 1)) c0 D := dN c0 hN.1.1 hN.1.2
  refine eL_lacking hst (Nat.le_of_ble_eq_true rfl) (fun K => ?_)
  refine ⟨rfl, Nat.le_of_ble_eq_true rfl, C.s0, Nat.le_of_ble_eq_true rfl, Nat.le_of_ble_eq_true rfl, ?_⟩
  refine e_lacking hst C W g (fun h1 n hn => ⟨_, List.Mem.head _, fun q9 => thr_l (Nat.le_of_ble_eq_true rfl) (Nat.le_of_ble_eq_true rfl) (q 1 _ (hM.1) (fun Q2 q2 => ?_))⟩) (fun p H' e1 e2 C' X' => ret_l (R.hnL X').1 (Nat.le_of_ble_eq_true rfl) (Nat.le_of_ble_eq_true rfl) (q 0 _ (R.hnL X').2 (fun Q2 q2 => ?_)))
  · have c : C1 m h (hxn h n) := C1.rf
    have CC := C.hxn (n := n)
    rw [c.st]
    refine k_lacking hst (c.mds hM) (c.mdl hL9) g (fun z1 => q2 _ _ (Jn.thr (k := 1) R hB hD c CC Mf.rf eF0 (fun _ _ => rfl) ⟨rfl, rfl⟩ rfl (by decide))) (fun p2 h' F' N' y1 y2 mf eN eF => absurd (vP y1 y2 k4) (h1)) (fun k hk hz => kt_ge hk g hz)
  · have c0 : C1 m h H' := C1.of R.1 X'
    rw [c0.wL.st]
    refine k_lacking hst (c0.wL.mds hM) (c0.wL.mdl hL9) g (fun z1 => absurd (vP e1 e2 k4) (z1)) (fun p2 h' F' N' y1 y2 mf eN eF => ?_) (fun k hk hz => kt_ge hk g hz)
    obtain rfl := nJ e1 y1 (by omega) (by omega)
    exact q2 _ _ (Jn.ret R hB hD c0.wL C'.wL mf (fun k hk => (eF k (by omega) (by omega)).trans (eF0 k hk)) eN ⟨rfl, rfl⟩ ((eF 0 (by decide) (by decide)).trans pk_us) hL_wL)
theorem j_weakest {l : Launch} (hst : l.stackTraces = false) {h : Hp} {x m o : Nat} {B D : Int} (R : RJ h x m o B D) (hB : B + 19980 ≤ 16000000) (hD : D + 180 ≤ 1000000) {Q : Option Value → Hp → Prop} (q : ∀ (k : Int32) (h1 : Hp), hs h1 m = (10, 21) → (∀ Q2 : Option Value → Hp → Prop, (∀ (v : Int32) (h2 : Hp), Jn x m o (B + 19980) (D + 180) k v.toInt64 h2 → Q2 (some (.int v)) h2) → CX9_weakest l [.ref m] h1 Q2 (fun _ _ => False)) → Q (some (.int k)) h1) : CL_weakest l [.ref x, .ref o] h Q (fun _ _ => False) := by

  have C := R.2.2.2.2.2.1
  have hM := R.2.2.2.1
  have hL9 := R.2.2.2.2.1
  obtain ⟨σ, c0, c1, c2, c3, c4, W, g⟩ := C.2.1.1
  have hN := g.wf
  have k8 : c0 ≤ 1000 := by have := hN.1.2; omega
  have k4 : c1 ≤ 1000 := by have := hN.2.1.2; omega
  have k12 : c2 ≤ 1000 := by have := hN.2.2.1.2; omega
  have k13 : c3 ≤ 1000 := by have := hN.2.2.2.1.2; omega
  have k14 : c4 ≤ 1000 := by have := hN.2.2.2.2.1.2; omega
  obtain ⟨r, er, r8⟩ := R.rr
  have dN : DIr (hI h (m + 1)) D := R.2.2.2.2.2.2.1.1
  have dI : DI (hI h (m + 1)) c0 D := dN c0 hN.1.1 hN.1.2
  refine eL_weakest hst (Nat.le_of_ble_eq_true rfl) (fun K => ?_)
  refine ⟨rfl, Nat.le_of_ble_eq_true rfl, C.s0, Nat.le_of_ble_eq_true rfl, Nat.le_of_ble_eq_true rfl, ?_⟩
  refine e_weakest hst C W g (fun h1 n hn => ⟨_, List.Mem.head _, fun q9 => thr_l (Nat.le_of_ble_eq_true rfl) (Nat.le_of_ble_eq_true rfl) (q 1 _ (hM.1) (fun Q2 q2 => ?_))⟩) (fun p e1 => ret_l R.2.2.1.1 (Nat.le_of_ble_eq_true rfl) (Nat.le_of_ble_eq_true rfl) (q 0 _ hM.1 (fun Q2 q2 => ?_)))
  · have c : C1 m h (hxn h n) := C1.rf
    have CC := C.hxn (n := n)
    rw [c.st]
    refine k_weakest hst (c.mds hM) (c.mdl hL9) g (fun z1 => q2 _ _ (Jn.thr (k := 1) R hB hD c CC Mf.rf eF0 (fun _ _ => rfl) ⟨rfl, rfl⟩ rfl (by decide))) (fun p2 y1 => absurd (h1) (fun z => by rw [z] at y1; cases y1))
  · have c0 : C1 m h h := C1.rf
    rw [c0.wL.st]
    refine k_weakest hst (c0.wL.mds hM) (c0.wL.mdl hL9) g (fun z1 => absurd (z1) (fun z => by rw [z] at e1; cases e1)) (fun p2 y1 => ?_)
    obtain rfl : p = p2 := Option.some.inj (e1.symm.trans y1)
    exact q2 _ _ (Jn.ret R hB hD c0.wL C.wL Mf.rf eF0 (fun _ _ => rfl) ⟨rfl, rfl⟩ rfl hL_wL)
theorem j_serviceBits {l : Launch} (hst : l.stackTraces = false) {h : Hp} {x m o : Nat} {B D : Int} (R : RJ h x m o B D) (hB : B + 19980 ≤ 16000000) (hD : D + 180 ≤ 1000000) {a0 : Int32} {Q : Option Value → Hp → Prop} (q : ∀ (k : Int32) (h1 : Hp), hs h1 m = (10, 21) → (∀ Q2 : Option Value → Hp → Prop, (∀ (v : Int32) (h2 : Hp), Jn x m o (B + 19980) (D + 180) k v.toInt64 h2 → Q2 (some (.int v)) h2) → CX9_serviceBits l [.ref m, .int a0] h1 Q2 (fun _ _ => False)) → Q (some (.int k)) h1) : CL_serviceBits l [.ref x, .int a0, .ref o] h Q (fun _ _ => False) := by

  have C := R.2.2.2.2.2.1
  have hM := R.2.2.2.1
  have hL9 := R.2.2.2.2.1
  obtain ⟨σ, c0, c1, c2, c3, c4, W, g⟩ := C.2.1.1
  have hN := g.wf
  have k8 : c0 ≤ 1000 := by have := hN.1.2; omega
  have k4 : c1 ≤ 1000 := by have := hN.2.1.2; omega
  have k12 : c2 ≤ 1000 := by have := hN.2.2.1.2; omega
  have k13 : c3 ≤ 1000 := by have := hN.2.2.2.1.2; omega
  have k14 : c4 ≤ 1000 := by have := hN.2.2.2.2.1.2; omega
  obtain ⟨r, er, r8⟩ := R.rr
  have dN : DIr (hI h (m + 1)) D := R.2.2.2.2.2.2.1.1
  have dI : DI (hI h (m + 1)) c0 D := dN c0 hN.1.1 hN.1.2
  refine eL_serviceBits hst (Nat.le_of_ble_eq_true rfl) (fun K => ?_)
  refine ⟨rfl, Nat.le_of_ble_eq_true rfl, C.s0, Nat.le_of_ble_eq_true rfl, Nat.le_of_ble_eq_true rfl, ?_⟩
  refine e_serviceBits hst C W g (fun h1 n hn => ⟨_, List.Mem.head _, fun q9 => thr_l (Nat.le_of_ble_eq_true rfl) (Nat.le_of_ble_eq_true rfl) (q 1 _ (hM.1) (fun Q2 q2 => ?_))⟩) (fun ⟨p, w1, w2, w3⟩ n hn => ⟨_, List.Mem.tail _ (List.Mem.head _), fun q9 => thr_l (Nat.le_of_ble_eq_true rfl) (Nat.le_of_ble_eq_true rfl) (q 2 _ (hM.1) (fun Q2 q2 => ?_))⟩) (fun p e1 e2 e3 => ret_l R.2.2.1.1 (Nat.le_of_ble_eq_true rfl) (Nat.le_of_ble_eq_true rfl) (q 0 _ hM.1 (fun Q2 q2 => ?_)))
  · have c : C1 m h (hxn h n) := C1.rf
    have CC := C.hxn (n := n)
    rw [c.st]
    refine k_serviceBits hst (c.mds hM) (c.mdl hL9) g (fun z1 => q2 _ _ (Jn.thr (k := 1) R hB hD c CC Mf.rf eF0 (fun _ _ => rfl) ⟨rfl, rfl⟩ rfl (by decide))) (fun p2 y1 y2 y3 => absurd (vP y1 y2 k8) (h1)) (fun p2 y1 y2 y3 => absurd (vP y1 y2 k8) (h1))
  · have c : C1 m h (hxn h n) := C1.rf
    have CC := C.hxn (n := n)
    rw [c.st]
    refine k_serviceBits hst (c.mds hM) (c.mdl hL9) g (fun z1 => absurd (vP w1 w2 k8) (z1)) (fun p2 y1 y2 y3 => q2 _ _ (Jn.thr (k := 2) R hB hD c CC Mf.rf eF0 (fun _ _ => rfl) ⟨rfl, rfl⟩ rfl (by decide))) (fun p2 y1 y2 y3 => absurd (by obtain rfl := nJ w1 y1 (by omega) (by omega); exact w3) y3)
  · have c0 : C1 m h h := C1.rf
    rw [c0.wL.st]
    refine k_serviceBits hst (c0.wL.mds hM) (c0.wL.mdl hL9) g (fun z1 => absurd (vP e1 e2 k8) (z1)) (fun p2 y1 y2 y3 => absurd y3 (by obtain rfl := nJ e1 y1 (by omega) (by omega); exact e3)) (fun p2 y1 y2 y3 => ?_)
    obtain rfl := nJ e1 y1 (by omega) (by omega)
    exact q2 _ _ (Jn.ret R hB hD c0.wL C.wL Mf.rf eF0 (fun _ _ => rfl) ⟨rfl, rfl⟩ rfl hL_wL)
theorem j_reason {l : Launch} (hst : l.stackTraces = false) {h : Hp} {x m o : Nat} {B D : Int} (R : RJ h x m o B D) (hB : B + 19980 ≤ 16000000) (hD : D + 180 ≤ 1000000) {a0 : Int32} {Q : Option Value → Hp → Prop} (q : ∀ (k : Int32) (h1 : Hp), hs h1 m = (10, 21) → (∀ Q2 : Option Value → Hp → Prop, (∀ (v : Int32) (h2 : Hp), Jn x m o (B + 19980) (D + 180) k v.toInt64 h2 → Q2 (some (.int v)) h2) → CX9_reason l [.ref m, .int a0] h1 Q2 (fun _ _ => False)) → Q (some (.int k)) h1) : CL_reason l [.ref x, .int a0, .ref o] h Q (fun _ _ => False) := by

  have C := R.2.2.2.2.2.1
  have hM := R.2.2.2.1
  have hL9 := R.2.2.2.2.1
  obtain ⟨σ, c0, c1, c2, c3, c4, W, g⟩ := C.2.1.1
  have hN := g.wf
  have k8 : c0 ≤ 1000 := by have := hN.1.2; omega
  have k4 : c1 ≤ 1000 := by have := hN.2.1.2; omega
  have k12 : c2 ≤ 1000 := by have := hN.2.2.1.2; omega
  have k13 : c3 ≤ 1000 := by have := hN.2.2.2.1.2; omega
  have k14 : c4 ≤ 1000 := by have := hN.2.2.2.2.1.2; omega
  obtain ⟨r, er, r8⟩ := R.rr
  have dN : DIr (hI h (m + 1)) D := R.2.2.2.2.2.2.1.1
  have dI : DI (hI h (m + 1)) c0 D := dN c0 hN.1.1 hN.1.2
  refine eL_reason hst (Nat.le_of_ble_eq_true rfl) (fun K => ?_)
  refine ⟨rfl, Nat.le_of_ble_eq_true rfl, C.s0, Nat.le_of_ble_eq_true rfl, Nat.le_of_ble_eq_true rfl, ?_⟩
  refine e_reason hst C (fun h1 n hn => ⟨_, List.Mem.head _, fun q9 => thr_l (Nat.le_of_ble_eq_true rfl) (Nat.le_of_ble_eq_true rfl) (q 1 _ (hM.1) (fun Q2 q2 => ?_))⟩) (fun h1 n hn => ⟨_, List.Mem.tail _ (List.Mem.head _), fun q9 => thr_l (Nat.le_of_ble_eq_true rfl) (Nat.le_of_ble_eq_true rfl) (q 2 _ (hM.1) (fun Q2 q2 => ?_))⟩) (fun k1 e1 e2 e3 e4 => ret_l R.2.2.1.1 (Nat.le_of_ble_eq_true rfl) (Nat.le_of_ble_eq_true rfl) (q 0 _ hM.1 (fun Q2 q2 => ?_)))
  · have c : C1 m h (hxn h n) := C1.rf
    have CC := C.hxn (n := n)
    rw [c.st]
    refine k_reason hst (c.mds hM) (c.mdl hL9) hN (fun z1 => q2 _ _ (Jn.thr (k := 1) R hB hD c CC Mf.rf eF0 (fun _ _ => rfl) ⟨rfl, rfl⟩ rfl (by decide))) (fun z1 z2 => absurd (z1) (h1)) (fun k2 y1 y2 y3 y4 => absurd (vR y1 (show k2 ≤ 2 by omega) (by decide)) (h1))
  · have c : C1 m h (hxn h n) := C1.rf
    have CC := C.hxn (n := n)
    rw [c.st]
    refine k_reason hst (c.mds hM) (c.mdl hL9) hN (fun z1 => absurd (h1.1) (z1)) (fun z1 z2 => q2 _ _ (Jn.thr (k := 2) R hB hD c CC Mf.rf eF0 (fun _ _ => rfl) ⟨rfl, rfl⟩ rfl (by decide))) (fun k2 y1 y2 y3 y4 => absurd (h1.2) (rs_no y1 y2 y3 y4))
  · have c0 : C1 m h h := C1.rf
    rw [c0.wL.st]
    refine k_reason hst (c0.wL.mds hM) (c0.wL.mdl hL9) hN (fun z1 => absurd (vR e1 (show k1 ≤ 2 by omega) (by decide)) (z1)) (fun z1 z2 => absurd (z2) (rs_no e1 e2 e3 e4)) (fun k2 y1 y2 y3 y4 => ?_)
    obtain rfl := nJ e1 y1 (by omega) (by omega)
    exact q2 _ _ (Jn.ret R hB hD c0.wL C.wL Mf.rf eF0 (fun _ _ => rfl) ⟨rfl, rfl⟩ rfl hL_wL)
theorem j_errorPosition {l : Launch} (hst : l.stackTraces = false) {h : Hp} {x m o : Nat} {B D : Int} (R : RJ h x m o B D) (hB : B + 19980 ≤ 16000000) (hD : D + 180 ≤ 1000000) {Q : Option Value → Hp → Prop} (q : ∀ (k : Int32) (h1 : Hp), hs h1 m = (10, 21) → (∀ Q2 : Option Value → Hp → Prop, (∀ (v : Int32) (h2 : Hp), Jn x m o (B + 19980) (D + 180) k v.toInt64 h2 → Q2 (some (.int v)) h2) → CX9_errorPosition l [.ref m] h1 Q2 (fun _ _ => False)) → Q (some (.int k)) h1) : CL_errorPosition l [.ref x, .ref o] h Q (fun _ _ => False) := by

  have C := R.2.2.2.2.2.1
  have hM := R.2.2.2.1
  have hL9 := R.2.2.2.2.1
  obtain ⟨σ, c0, c1, c2, c3, c4, W, g⟩ := C.2.1.1
  have hN := g.wf
  have k8 : c0 ≤ 1000 := by have := hN.1.2; omega
  have k4 : c1 ≤ 1000 := by have := hN.2.1.2; omega
  have k12 : c2 ≤ 1000 := by have := hN.2.2.1.2; omega
  have k13 : c3 ≤ 1000 := by have := hN.2.2.2.1.2; omega
  have k14 : c4 ≤ 1000 := by have := hN.2.2.2.2.1.2; omega
  obtain ⟨r, er, r8⟩ := R.rr
  have dN : DIr (hI h (m + 1)) D := R.2.2.2.2.2.2.1.1
  have dI : DI (hI h (m + 1)) c0 D := dN c0 hN.1.1 hN.1.2
  have f18 := C.2.2.2.2.1.2.2.2.2.2.1
  have f19 := C.2.2.2.2.1.2.2.2.2.2.2
  refine eL_errorPosition hst (Nat.le_of_ble_eq_true rfl) (fun K => ?_)
  refine ⟨rfl, Nat.le_of_ble_eq_true rfl, C.s0, Nat.le_of_ble_eq_true rfl, Nat.le_of_ble_eq_true rfl, ?_⟩
  refine e_errorPosition hst C (fun h1 n hn => ⟨_, List.Mem.head _, fun q9 => thr_l (Nat.le_of_ble_eq_true rfl) (Nat.le_of_ble_eq_true rfl) (q 1 _ (hM.1) (fun Q2 q2 => ?_))⟩) (fun e1 => ret_l R.2.2.1.1 (Nat.le_of_ble_eq_true rfl) (Nat.le_of_ble_eq_true rfl) (q 0 _ hM.1 (fun Q2 q2 => ?_)))
  · have c : C1 m h (hxn h n) := C1.rf
    have CC := C.hxn (n := n)
    rw [c.st]
    refine k_errorPosition hst (c.mds hM) (c.mdl hL9) hN (fun z1 => q2 _ _ (Jn.thr (k := 1) R hB hD c CC Mf.rf eF0 (fun _ _ => rfl) ⟨rfl, rfl⟩ rfl (by decide))) (fun y1 => absurd (h1) (fpos y1))
  · have c0 : C1 m h h := C1.rf
    rw [c0.wL.st]
    refine k_errorPosition hst (c0.wL.mds hM) (c0.wL.mdl hL9) hN (fun z1 => absurd (fneg f18 z1) (e1)) (fun y1 => ?_)
    exact q2 _ _ (Jn.ret R hB hD c0.wL C.wL Mf.rf eF0 (fun _ _ => rfl) ⟨rfl, rfl⟩ rfl hL_wL)
theorem j_refused {l : Launch} (hst : l.stackTraces = false) {h : Hp} {x m o : Nat} {B D : Int} (R : RJ h x m o B D) (hB : B + 19980 ≤ 16000000) (hD : D + 180 ≤ 1000000) {Q : Option Value → Hp → Prop} (q : ∀ (k : Int32) (h1 : Hp), hs h1 m = (10, 21) → (∀ Q2 : Option Value → Hp → Prop, (∀ (v : Int32) (h2 : Hp), Jn x m o (B + 19980) (D + 180) k v.toInt64 h2 → Q2 (some (.int v)) h2) → CX9_refused l [.ref m] h1 Q2 (fun _ _ => False)) → Q (some (.int k)) h1) : CL_refused l [.ref x, .ref o] h Q (fun _ _ => False) := by

  have C := R.2.2.2.2.2.1
  have hM := R.2.2.2.1
  have hL9 := R.2.2.2.2.1
  obtain ⟨σ, c0, c1, c2, c3, c4, W, g⟩ := C.2.1.1
  have hN := g.wf
  have k8 : c0 ≤ 1000 := by have := hN.1.2; omega
  have k4 : c1 ≤ 1000 := by have := hN.2.1.2; omega
  have k12 : c2 ≤ 1000 := by have := hN.2.2.1.2; omega
  have k13 : c3 ≤ 1000 := by have := hN.2.2.2.1.2; omega
  have k14 : c4 ≤ 1000 := by have := hN.2.2.2.2.1.2; omega
  obtain ⟨r, er, r8⟩ := R.rr
  have dN : DIr (hI h (m + 1)) D := R.2.2.2.2.2.2.1.1
  have dI : DI (hI h (m + 1)) c0 D := dN c0 hN.1.1 hN.1.2
  have f18 := C.2.2.2.2.1.2.2.2.2.2.1
  have f19 := C.2.2.2.2.1.2.2.2.2.2.2
  refine eL_refused hst (Nat.le_of_ble_eq_true rfl) (fun K => ?_)
  refine ⟨rfl, Nat.le_of_ble_eq_true rfl, C.s0, Nat.le_of_ble_eq_true rfl, Nat.le_of_ble_eq_true rfl, ?_⟩
  refine e_refused hst C (fun h1 n hn => ⟨_, List.Mem.head _, fun q9 => thr_l (Nat.le_of_ble_eq_true rfl) (Nat.le_of_ble_eq_true rfl) (q 1 _ (hM.1) (fun Q2 q2 => ?_))⟩) (fun e1 => ret_l R.2.2.1.1 (Nat.le_of_ble_eq_true rfl) (Nat.le_of_ble_eq_true rfl) (q 0 _ hM.1 (fun Q2 q2 => ?_)))
  · have c : C1 m h (hxn h n) := C1.rf
    have CC := C.hxn (n := n)
    rw [c.st]
    refine k_refused hst (c.mds hM) (c.mdl hL9) hN (fun z1 => q2 _ _ (Jn.thr (k := 1) R hB hD c CC Mf.rf eF0 (fun _ _ => rfl) ⟨rfl, rfl⟩ rfl (by decide))) (fun y1 => absurd (h1) (fpos y1))
  · have c0 : C1 m h h := C1.rf
    rw [c0.wL.st]
    refine k_refused hst (c0.wL.mds hM) (c0.wL.mdl hL9) hN (fun z1 => absurd (fneg f19 z1) (e1)) (fun y1 => ?_)
    exact q2 _ _ (Jn.ret R hB hD c0.wL C.wL Mf.rf eF0 (fun _ _ => rfl) ⟨rfl, rfl⟩ rfl hL_wL)
theorem j_substitute {l : Launch} (hst : l.stackTraces = false) {h : Hp} {x m o : Nat} {B D : Int} (R : RJ h x m o B D) (hB : B + 19980 ≤ 16000000) (hD : D + 180 ≤ 1000000) {a0 a1 : Int32} {Q : Option Value → Hp → Prop} (q : ∀ (k : Int32) (h1 : Hp), hs h1 m = (10, 21) → (∀ Q2 : Option Value → Hp → Prop, (∀ (v : Int32) (h2 : Hp), Jn x m o (B + 19980) (D + 180) k v.toInt64 h2 → Q2 (some (.int v)) h2) → CX9_substitute l [.ref m, .int a0, .int a1] h1 Q2 (fun _ _ => False)) → Q (some (.int k)) h1) : CL_substitute l [.ref x, .int a0, .int a1, .ref o] h Q (fun _ _ => False) := by

  have C := R.2.2.2.2.2.1
  have hM := R.2.2.2.1
  have hL9 := R.2.2.2.2.1
  obtain ⟨σ, c0, c1, c2, c3, c4, W, g⟩ := C.2.1.1
  have hN := g.wf
  have k8 : c0 ≤ 1000 := by have := hN.1.2; omega
  have k4 : c1 ≤ 1000 := by have := hN.2.1.2; omega
  have k12 : c2 ≤ 1000 := by have := hN.2.2.1.2; omega
  have k13 : c3 ≤ 1000 := by have := hN.2.2.2.1.2; omega
  have k14 : c4 ≤ 1000 := by have := hN.2.2.2.2.1.2; omega
  obtain ⟨r, er, r8⟩ := R.rr
  have dN : DIr (hI h (m + 1)) D := R.2.2.2.2.2.2.1.1
  have dI : DI (hI h (m + 1)) c0 D := dN c0 hN.1.1 hN.1.2
  refine eL_substitute hst (Nat.le_of_ble_eq_true rfl) (fun K => ?_)
  refine ⟨rfl, Nat.le_of_ble_eq_true rfl, C.s0, Nat.le_of_ble_eq_true rfl, Nat.le_of_ble_eq_true rfl, ?_⟩
  refine e_substitute hst C W g (fun h1 n hn => ⟨_, List.Mem.head _, fun q9 => thr_l (Nat.le_of_ble_eq_true rfl) (Nat.le_of_ble_eq_true rfl) (q 1 _ (hM.1) (fun Q2 q2 => ?_))⟩) (fun ⟨p, c, w1, w2, w3, w4, w5⟩ n hn => ⟨_, List.Mem.tail _ (List.Mem.head _), fun q9 => thr_l (Nat.le_of_ble_eq_true rfl) (Nat.le_of_ble_eq_true rfl) (q 2 _ (hM.1) (fun Q2 q2 => ?_))⟩) (fun p c k1 e1 e2 e3 e4 e5 e6 => ret_l R.2.2.1.1 (Nat.le_of_ble_eq_true rfl) (Nat.le_of_ble_eq_true rfl) (q 0 _ hM.1 (fun Q2 q2 => ?_)))
  · have c : C1 m h (hxn h n) := C1.rf
    have CC := C.hxn (n := n)
    rw [c.st]
    refine k_substitute hst (c.mds hM) (c.mdl hL9) hN (fun z1 => q2 _ _ (Jn.thr (k := 1) R hB hD c CC Mf.rf eF0 (fun _ _ => rfl) ⟨rfl, rfl⟩ rfl (by decide))) (fun p2 c9 y1 y2 y3 y4 y5 => absurd (vP y1 y2 k8) (h1)) (fun p2 c9 k2 y1 y2 y3 y4 y5 y6 => absurd (vP y1 y2 k8) (h1))
  · have c : C1 m h (hxn h n) := C1.rf
    have CC := C.hxn (n := n)
    rw [c.st]
    refine k_substitute hst (c.mds hM) (c.mdl hL9) hN (fun z1 => absurd (vP w1 w2 k8) (z1)) (fun p2 c9 y1 y2 y3 y4 y5 => q2 _ _ (Jn.thr (k := 2) R hB hD c CC Mf.rf eF0 (fun _ _ => rfl) ⟨rfl, rfl⟩ rfl (by decide))) (fun p2 c9 k2 y1 y2 y3 y4 y5 y6 => absurd (by obtain rfl := nJ w1 y1 (by omega) (by omega); obtain rfl := nJ w3 y3 (by omega) (by omega); exact vP y5 y6 (by omega)) w5)
  · have c0 : C1 m h h := C1.rf
    rw [c0.wL.st]
    refine k_substitute hst (c0.wL.mds hM) (c0.wL.mdl hL9) hN (fun z1 => absurd (vP e1 e2 k8) (z1)) (fun p2 c9 y1 y2 y3 y4 y5 => absurd (by obtain rfl := nJ e1 y1 (by omega) (by omega); obtain rfl := nJ e3 y3 (by omega) (by omega); exact vP e5 e6 (by omega)) y5) (fun p2 c9 k2 y1 y2 y3 y4 y5 y6 => ?_)
    obtain rfl := nJ e1 y1 (by omega) (by omega)
    obtain rfl := nJ e3 y3 (by omega) (by omega)
    obtain rfl := nJ e5 y5 (by omega) (by omega)
    exact q2 _ _ (Jn.ret R hB hD c0.wL C.wL Mf.rf eF0 (fun _ _ => rfl) ⟨rfl, rfl⟩ rfl hL_wL)
theorem j_relation {l : Launch} (hst : l.stackTraces = false) {h : Hp} {x m o : Nat} {B D : Int} (R : RJ h x m o B D) (hB : B + 19980 ≤ 16000000) (hD : D + 180 ≤ 1000000) {a0 a1 : Int32} {Q : Option Value → Hp → Prop} (q : ∀ (k : Int32) (h1 : Hp), hs h1 m = (10, 21) → (∀ Q2 : Option Value → Hp → Prop, (∀ (v : Int32) (h2 : Hp), Jn x m o (B + 19980) (D + 180) k v.toInt64 h2 → Q2 (some (.int v)) h2) → CX9_relation l [.ref m, .int a0, .int a1] h1 Q2 (fun _ _ => False)) → Q (some (.int k)) h1) : CL_relation l [.ref x, .int a0, .int a1, .ref o] h Q (fun _ _ => False) := by

  have C := R.2.2.2.2.2.1
  have hM := R.2.2.2.1
  have hL9 := R.2.2.2.2.1
  obtain ⟨σ, c0, c1, c2, c3, c4, W, g⟩ := C.2.1.1
  have hN := g.wf
  have k8 : c0 ≤ 1000 := by have := hN.1.2; omega
  have k4 : c1 ≤ 1000 := by have := hN.2.1.2; omega
  have k12 : c2 ≤ 1000 := by have := hN.2.2.1.2; omega
  have k13 : c3 ≤ 1000 := by have := hN.2.2.2.1.2; omega
  have k14 : c4 ≤ 1000 := by have := hN.2.2.2.2.1.2; omega
  obtain ⟨r, er, r8⟩ := R.rr
  have dN : DIr (hI h (m + 1)) D := R.2.2.2.2.2.2.1.1
  have dI : DI (hI h (m + 1)) c0 D := dN c0 hN.1.1 hN.1.2
  refine eL_relation hst (Nat.le_of_ble_eq_true rfl) (fun K => ?_)
  refine ⟨rfl, Nat.le_of_ble_eq_true rfl, C.s0, Nat.le_of_ble_eq_true rfl, Nat.le_of_ble_eq_true rfl, ?_⟩
  refine e_relation hst C W g (fun h1 n hn => ⟨_, List.Mem.head _, fun q9 => thr_l (Nat.le_of_ble_eq_true rfl) (Nat.le_of_ble_eq_true rfl) (q 1 _ (hM.1) (fun Q2 q2 => ?_))⟩) (fun p s c d e1 e2 e3 e4 e5 e6 e7 e8 => ret_l R.2.2.1.1 (Nat.le_of_ble_eq_true rfl) (Nat.le_of_ble_eq_true rfl) (q 0 _ hM.1 (fun Q2 q2 => ?_)))
  · have c : C1 m h (hxn h n) := C1.rf
    have CC := C.hxn (n := n)
    rw [c.st]
    refine k_relation hst (c.mds hM) (c.mdl hL9) hN (fun z1 => q2 _ _ (Jn.thr (k := 1) R hB hD c CC Mf.rf eF0 (fun _ _ => rfl) ⟨rfl, rfl⟩ rfl (by decide))) (fun p2 s2 c9 d9 y1 y2 y3 y4 y5 y6 y7 y8 => absurd (⟨vP y1 y2 k8, vP y3 y4 k8⟩) (h1))
  · have c0 : C1 m h h := C1.rf
    rw [c0.wL.st]
    refine k_relation hst (c0.wL.mds hM) (c0.wL.mdl hL9) hN (fun z1 => absurd (⟨vP e1 e2 k8, vP e3 e4 k8⟩) (z1)) (fun p2 s2 c9 d9 y1 y2 y3 y4 y5 y6 y7 y8 => ?_)
    obtain rfl := nJ e1 y1 (by omega) (by omega)
    obtain rfl := nJ e3 y3 (by omega) (by omega)
    obtain rfl := nJ e5 y5 (by omega) (by omega)
    obtain rfl := nJ e7 y7 (by omega) (by omega)
    exact q2 _ _ (Jn.ret R hB hD c0.wL C.wL Mf.rf eF0 (fun _ _ => rfl) ⟨rfl, rfl⟩ rfl hL_wL)
theorem j_item {l : Launch} (hst : l.stackTraces = false) {h : Hp} {x m o : Nat} {B D : Int} (R : RJ h x m o B D) (hB : B + 19980 ≤ 16000000) (hD : D + 180 ≤ 1000000) {a0 a1 a2 : Int32} {Q : Option Value → Hp → Prop} (q : ∀ (k : Int32) (h1 : Hp), hs h1 m = (10, 21) → (∀ Q2 : Option Value → Hp → Prop, (∀ (v : Int32) (h2 : Hp), Jn x m o (B + 19980) (D + 180) k v.toInt64 h2 → Q2 (some (.int v)) h2) → CX9_item l [.ref m, .int a0, .int a1, .int a2] h1 Q2 (fun _ _ => False)) → Q (some (.int k)) h1) : CL_item l [.ref x, .int a0, .int a1, .int a2, .ref o] h Q (fun _ _ => False) := by

  have C := R.2.2.2.2.2.1
  have hM := R.2.2.2.1
  have hL9 := R.2.2.2.2.1
  obtain ⟨σ, c0, c1, c2, c3, c4, W, g⟩ := C.2.1.1
  have hN := g.wf
  have k8 : c0 ≤ 1000 := by have := hN.1.2; omega
  have k4 : c1 ≤ 1000 := by have := hN.2.1.2; omega
  have k12 : c2 ≤ 1000 := by have := hN.2.2.1.2; omega
  have k13 : c3 ≤ 1000 := by have := hN.2.2.2.1.2; omega
  have k14 : c4 ≤ 1000 := by have := hN.2.2.2.2.1.2; omega
  obtain ⟨r, er, r8⟩ := R.rr
  have dN : DIr (hI h (m + 1)) D := R.2.2.2.2.2.2.1.1
  have dI : DI (hI h (m + 1)) c0 D := dN c0 hN.1.1 hN.1.2
  refine eL_item hst (Nat.le_of_ble_eq_true rfl) (fun K => ?_)
  refine ⟨rfl, Nat.le_of_ble_eq_true rfl, C.s0, Nat.le_of_ble_eq_true rfl, Nat.le_of_ble_eq_true rfl, ?_⟩
  refine e_item hst C W g (fun h1 n hn => ⟨_, List.Mem.head _, fun q9 => thr_l (Nat.le_of_ble_eq_true rfl) (Nat.le_of_ble_eq_true rfl) (q 1 _ (hM.1) (fun Q2 q2 => ?_))⟩) (fun ⟨p, c, w1, w2, w3, w4, w5⟩ n hn => ⟨_, List.Mem.head _, fun q9 => thr_l (Nat.le_of_ble_eq_true rfl) (Nat.le_of_ble_eq_true rfl) (q 1 _ (hM.1) (fun Q2 q2 => ?_))⟩) (fun p c k1 e1 e2 e3 e4 e5 e6 => ret_l R.2.2.1.1 (Nat.le_of_ble_eq_true rfl) (Nat.le_of_ble_eq_true rfl) (q 0 _ hM.1 (fun Q2 q2 => ?_)))
  · have c : C1 m h (hxn h n) := C1.rf
    have CC := C.hxn (n := n)
    rw [c.st]
    refine k_item hst (c.mds hM) (c.mdl hL9) hN (fun z1 => q2 _ _ (Jn.thr (k := 1) R hB hD c CC Mf.rf eF0 (fun _ _ => rfl) ⟨rfl, rfl⟩ rfl (by decide))) (fun p2 c9 y1 y2 y3 y4 y5 => absurd (vP y1 y2 k4) (h1)) (fun p2 c9 k2 y1 y2 y3 y4 y5 y6 => absurd (vP y1 y2 k4) (h1))
  · have c : C1 m h (hxn h n) := C1.rf
    have CC := C.hxn (n := n)
    rw [c.st]
    refine k_item hst (c.mds hM) (c.mdl hL9) hN (fun z1 => absurd (vP w1 w2 k4) (z1)) (fun p2 c9 y1 y2 y3 y4 y5 => q2 _ _ (Jn.thr (k := 1) R hB hD c CC Mf.rf eF0 (fun _ _ => rfl) ⟨rfl, rfl⟩ rfl (by decide))) (fun p2 c9 k2 y1 y2 y3 y4 y5 y6 => absurd (by obtain rfl := nJ w1 y1 (by omega) (by omega); obtain rfl := nJ w3 y3 (by omega) (by omega); exact vP y5 y6 (by omega)) w5)
  · have c0 : C1 m h h := C1.rf
    rw [c0.wL.st]
    refine k_item hst (c0.wL.mds hM) (c0.wL.mdl hL9) hN (fun z1 => absurd (vP e1 e2 k4) (z1)) (fun p2 c9 y1 y2 y3 y4 y5 => absurd (by obtain rfl := nJ e1 y1 (by omega) (by omega); obtain rfl := nJ e3 y3 (by omega) (by omega); exact vP e5 e6 (by omega)) y5) (fun p2 c9 k2 y1 y2 y3 y4 y5 y6 => ?_)
    obtain rfl := nJ e1 y1 (by omega) (by omega)
    obtain rfl := nJ e3 y3 (by omega) (by omega)
    obtain rfl := nJ e5 y5 (by omega) (by omega)
    exact q2 _ _ (Jn.ret R hB hD c0.wL C.wL Mf.rf eF0 (fun _ _ => rfl) ⟨rfl, rfl⟩ rfl hL_wL)
theorem j_taken {l : Launch} (hst : l.stackTraces = false) {h : Hp} {x m o : Nat} {B D : Int} (R : RJ h x m o B D) (hB : B + 19980 ≤ 16000000) (hD : D + 180 ≤ 1000000) {a0 a1 a2 : Int32} {Q : Option Value → Hp → Prop} (q : ∀ (k : Int32) (h1 : Hp), hs h1 m = (10, 21) → (∀ Q2 : Option Value → Hp → Prop, (∀ (v : Int32) (h2 : Hp), Jn x m o (B + 19980) (D + 180) k v.toInt64 h2 → Q2 (some (.int v)) h2) → CX9_taken l [.ref m, .int a0, .int a1, .int a2] h1 Q2 (fun _ _ => False)) → Q (some (.int k)) h1) : CL_taken l [.ref x, .int a0, .int a1, .int a2, .ref o] h Q (fun _ _ => False) := by

  have C := R.2.2.2.2.2.1
  have hM := R.2.2.2.1
  have hL9 := R.2.2.2.2.1
  obtain ⟨σ, c0, c1, c2, c3, c4, W, g⟩ := C.2.1.1
  have hN := g.wf
  have k8 : c0 ≤ 1000 := by have := hN.1.2; omega
  have k4 : c1 ≤ 1000 := by have := hN.2.1.2; omega
  have k12 : c2 ≤ 1000 := by have := hN.2.2.1.2; omega
  have k13 : c3 ≤ 1000 := by have := hN.2.2.2.1.2; omega
  have k14 : c4 ≤ 1000 := by have := hN.2.2.2.2.1.2; omega
  obtain ⟨r, er, r8⟩ := R.rr
  have dN : DIr (hI h (m + 1)) D := R.2.2.2.2.2.2.1.1
  have dI : DI (hI h (m + 1)) c0 D := dN c0 hN.1.1 hN.1.2
  refine eL_taken hst (Nat.le_of_ble_eq_true rfl) (fun K => ?_)
  refine ⟨rfl, Nat.le_of_ble_eq_true rfl, C.s0, Nat.le_of_ble_eq_true rfl, Nat.le_of_ble_eq_true rfl, ?_⟩
  refine e_taken hst C W g (fun h1 n hn => ⟨_, List.Mem.head _, fun q9 => thr_l (Nat.le_of_ble_eq_true rfl) (Nat.le_of_ble_eq_true rfl) (q 1 _ (hM.1) (fun Q2 q2 => ?_))⟩) (fun h1 n hn => ⟨_, List.Mem.tail _ (List.Mem.head _), fun q9 => thr_l (Nat.le_of_ble_eq_true rfl) (Nat.le_of_ble_eq_true rfl) (q 2 _ (hM.1) (fun Q2 q2 => ?_))⟩) (fun p s H' e1 e2 e3 e4 e5 C' X' => ret_l (R.hnL X').1 (Nat.le_of_ble_eq_true rfl) (Nat.le_of_ble_eq_true rfl) (q 0 _ (R.hnL X').2 (fun Q2 q2 => ?_)))
  · have c : C1 m h (hxn h n) := C1.rf
    have CC := C.hxn (n := n)
    rw [c.st]
    refine k_taken hst (c.mds hM) (c.mdl hL9) g (fun z1 => q2 _ _ (Jn.thr (k := 1) R hB hD c CC Mf.rf eF0 (fun _ _ => rfl) ⟨rfl, rfl⟩ rfl (by decide))) (fun z1 z2 z3 => absurd (⟨z1, z2⟩) (h1)) (fun p2 s2 y1 y2 y3 y4 y5 => absurd (⟨vP y1 y2 k8, vP y3 y4 k8⟩) (h1))
  · have c : C1 m h (hxn h n) := C1.rf
    have CC := C.hxn (n := n)
    rw [c.st]
    refine k_taken hst (c.mds hM) (c.mdl hL9) g (fun z1 => absurd (h1.1) (z1)) (fun z1 z2 z3 => q2 _ _ (Jn.thr (k := 2) R hB hD c CC Mf.rf eF0 (fun _ _ => rfl) ⟨rfl, rfl⟩ rfl (by decide))) (fun p2 s2 y1 y2 y3 y4 y5 => absurd (y5) (h1.2))
  · have c0 : C1 m h H' := C1.of R.1 X'
    rw [c0.wL.st]
    refine k_taken hst (c0.wL.mds hM) (c0.wL.mdl hL9) g (fun z1 => absurd (⟨vP e1 e2 k8, vP e3 e4 k8⟩) (z1)) (fun z1 z2 z3 => absurd (e5) (z3)) (fun p2 s2 y1 y2 y3 y4 y5 => ?_)
    obtain rfl := nJ e1 y1 (by omega) (by omega)
    obtain rfl := nJ e3 y3 (by omega) (by omega)
    exact q2 _ _ (Jn.ret R hB hD c0.wL C'.wL Mf.rf eF0 (fun _ _ => rfl) ⟨rfl, rfl⟩ rfl hL_wL)
theorem j_addSubstitute {l : Launch} (hst : l.stackTraces = false) {h : Hp} {x m o : Nat} {B D : Int} (R : RJ h x m o B D) (hB : B + 19980 ≤ 16000000) (hD : D + 180 ≤ 1000000) {a0 a1 : Int32} {Q : Option Value → Hp → Prop} (q : ∀ (k : Int32) (h1 : Hp), hs h1 m = (10, 21) → (∀ Q2 : Option Value → Hp → Prop, (∀ (v : Int32) (h2 : Hp), Jn x m o (B + 19980) (D + 180) k v.toInt64 h2 → Q2 (some (.int v)) h2) → CX9_addSubstitute l [.ref m, .int a0, .int a1] h1 Q2 (fun _ _ => False)) → Q (some (.int k)) h1) : CL_addSubstitute l [.ref x, .int a0, .int a1, .ref o] h Q (fun _ _ => False) := by

  have C := R.2.2.2.2.2.1
  have hM := R.2.2.2.1
  have hL9 := R.2.2.2.2.1
  obtain ⟨σ, c0, c1, c2, c3, c4, W, g⟩ := C.2.1.1
  have hN := g.wf
  have k8 : c0 ≤ 1000 := by have := hN.1.2; omega
  have k4 : c1 ≤ 1000 := by have := hN.2.1.2; omega
  have k12 : c2 ≤ 1000 := by have := hN.2.2.1.2; omega
  have k13 : c3 ≤ 1000 := by have := hN.2.2.2.1.2; omega
  have k14 : c4 ≤ 1000 := by have := hN.2.2.2.2.1.2; omega
  obtain ⟨r, er, r8⟩ := R.rr
  have dN : DIr (hI h (m + 1)) D := R.2.2.2.2.2.2.1.1
  have dI : DI (hI h (m + 1)) c0 D := dN c0 hN.1.1 hN.1.2
  refine eL_addSubstitute hst (Nat.le_of_ble_eq_true rfl) (fun K => ?_)
  refine ⟨rfl, Nat.le_of_ble_eq_true rfl, C.s0, Nat.le_of_ble_eq_true rfl, Nat.le_of_ble_eq_true rfl, ?_⟩
  refine e_addSubstitute hst C W g (fun h1 n hn => ⟨_, List.Mem.head _, fun q9 => thr_l (Nat.le_of_ble_eq_true rfl) (Nat.le_of_ble_eq_true rfl) (q 1 _ (hM.1) (fun Q2 q2 => ?_))⟩) (fun h1 n hn => ⟨_, List.Mem.tail _ (List.Mem.head _), fun q9 => thr_l (Nat.le_of_ble_eq_true rfl) (Nat.le_of_ble_eq_true rfl) (q 2 _ (hM.1) (fun Q2 q2 => ?_))⟩) (fun ⟨h1, h2, p, c, w1, w2, w3, w4, w5⟩ n hn => ⟨_, List.Mem.tail _ (List.Mem.tail _ (List.Mem.head _)), fun q9 => thr_l (Nat.le_of_ble_eq_true rfl) (Nat.le_of_ble_eq_true rfl) (q 3 _ (hM.1) (fun Q2 q2 => ?_))⟩) (fun p c s r' H' e1 e2 e3 e4 e5 e6 e7 e8 er9 r9 C' X' => ret_l (R.hnL X').1 (Nat.le_of_ble_eq_true rfl) (Nat.le_of_ble_eq_true rfl) (q 0 _ (R.hnL X').2 (fun Q2 q2 => ?_)))
  · have c : C1 m h (hxn h n) := C1.rf
    have CC := C.hxn (n := n)
    rw [c.st]
    refine k_addSubstitute hst (c.mds hM) (c.mdl hL9) hN er r8 (fun z1 => q2 _ _ (Jn.thr (k := 1) R hB hD c CC Mf.rf eF0 (fun _ _ => rfl) ⟨rfl, rfl⟩ rfl (by decide))) (fun z1 z2 z3 => absurd (⟨z1, z2⟩) (h1)) (fun p2 s2 c9 y1 y2 y3 y4 y5 y6 y7 y8 => absurd (⟨vP y1 y2 k8, vP y3 y4 k8⟩) (h1)) (fun p2 c9 s2 y1 y2 y3 y4 y5 y6 y7 y8 => absurd (⟨vP y1 y2 k8, vP y3 y4 k8⟩) (h1))
  · have c : C1 m h (hxn h n) := C1.rf
    have CC := C.hxn (n := n)
    rw [c.st]
    refine k_addSubstitute hst (c.mds hM) (c.mdl hL9) hN er r8 (fun z1 => absurd (h1.1) (z1)) (fun z1 z2 z3 => q2 _ _ (Jn.thr (k := 2) R hB hD c CC Mf.rf eF0 (fun _ _ => rfl) ⟨rfl, rfl⟩ rfl (by decide))) (fun p2 s2 c9 y1 y2 y3 y4 y5 y6 y7 y8 => absurd (h1.2) (fun z => y5 (nJ (z.symm.trans y1) y3 (by omega) (by omega)))) (fun p2 c9 s2 y1 y2 y3 y4 y5 y6 y7 y8 => absurd (h1.2) (fun z => y5 (nJ (z.symm.trans y1) y3 (by omega) (by omega))))
  · have c : C1 m h (hxn h n) := C1.rf
    have CC := C.hxn (n := n)
    rw [c.st]
    refine k_addSubstitute hst (c.mds hM) (c.mdl hL9) hN er r8 (fun z1 => absurd (h1) (z1)) (fun z1 z2 z3 => absurd (z3) (h2)) (fun p2 s2 c9 y1 y2 y3 y4 y5 y6 y7 y8 => q2 _ _ (Jn.thr (k := 3) R hB hD c CC Mf.rf eF0 (fun _ _ => rfl) ⟨rfl, rfl⟩ rfl (by decide))) (fun p2 c9 s2 y1 y2 y3 y4 y5 y6 y7 y8 => absurd (by obtain rfl := nJ w1 y1 (by omega) (by omega); obtain rfl := nJ w3 y6 (by omega) (by omega); exact ⟨y7, y8⟩) w5)
  · have c0 : C1 m h H' := C1.of R.1 X'
    rw [c0.wL.st]
    refine k_addSubstitute hst (c0.wL.mds hM) (c0.wL.mdl hL9) hN er r8 (fun z1 => absurd (⟨vP e1 e2 k8, vP e3 e4 k8⟩) (z1)) (fun z1 z2 z3 => absurd (z3) (fun z => e5 (nJ (z.symm.trans e1) e3 (by omega) (by omega)))) (fun p2 s2 c9 y1 y2 y3 y4 y5 y6 y7 y8 => absurd (by obtain rfl := nJ e1 y1 (by omega) (by omega); obtain rfl := nJ e6 y6 (by omega) (by omega); exact ⟨e7, e8⟩) y8) (fun p2 c9 s2 y1 y2 y3 y4 y5 y6 y7 y8 => ?_)
    obtain rfl := nJ e1 y1 (by omega) (by omega)
    obtain rfl := nJ er9 er (by omega) (by omega)
    obtain rfl := nJ e3 y3 (by omega) (by omega)
    obtain rfl := nJ e6 y6 (by omega) (by omega)
    exact q2 _ _ (Jn.push R hB hD c0.wL er r8 C'.wL (by omega) Mf.rf eFp (fun _ _ => rfl) rfl (dN.z ((pk_un (by omega)).trans (pk_un (by omega))) (fun j hj => (pk_un (by unfold dyz at hj; omega)).trans (pk_un (by unfold dyz at hj; omega))) |>.le (by omega) hD) rfl hL_wL)
theorem j_removeSubstitute {l : Launch} (hst : l.stackTraces = false) {h : Hp} {x m o : Nat} {B D : Int} (R : RJ h x m o B D) (hB : B + 19980 ≤ 16000000) (hD : D + 180 ≤ 1000000) {a0 a1 : Int32} {Q : Option Value → Hp → Prop} (q : ∀ (k : Int32) (h1 : Hp), hs h1 m = (10, 21) → (∀ Q2 : Option Value → Hp → Prop, (∀ (v : Int32) (h2 : Hp), Jn x m o (B + 19980) (D + 180) k v.toInt64 h2 → Q2 (some (.int v)) h2) → CX9_removeSubstitute l [.ref m, .int a0, .int a1] h1 Q2 (fun _ _ => False)) → Q (some (.int k)) h1) : CL_removeSubstitute l [.ref x, .int a0, .int a1, .ref o] h Q (fun _ _ => False) := by

  have C := R.2.2.2.2.2.1
  have hM := R.2.2.2.1
  have hL9 := R.2.2.2.2.1
  obtain ⟨σ, c0, c1, c2, c3, c4, W, g⟩ := C.2.1.1
  have hN := g.wf
  have k8 : c0 ≤ 1000 := by have := hN.1.2; omega
  have k4 : c1 ≤ 1000 := by have := hN.2.1.2; omega
  have k12 : c2 ≤ 1000 := by have := hN.2.2.1.2; omega
  have k13 : c3 ≤ 1000 := by have := hN.2.2.2.1.2; omega
  have k14 : c4 ≤ 1000 := by have := hN.2.2.2.2.1.2; omega
  obtain ⟨r, er, r8⟩ := R.rr
  have dN : DIr (hI h (m + 1)) D := R.2.2.2.2.2.2.1.1
  have dI : DI (hI h (m + 1)) c0 D := dN c0 hN.1.1 hN.1.2
  refine eL_removeSubstitute hst (Nat.le_of_ble_eq_true rfl) (fun K => ?_)
  refine ⟨rfl, Nat.le_of_ble_eq_true rfl, C.s0, Nat.le_of_ble_eq_true rfl, Nat.le_of_ble_eq_true rfl, ?_⟩
  refine e_removeSubstitute hst C W g (fun h1 n hn => ⟨_, List.Mem.head _, fun q9 => thr_l (Nat.le_of_ble_eq_true rfl) (Nat.le_of_ble_eq_true rfl) (q 1 _ (hM.1) (fun Q2 q2 => ?_))⟩) (fun ⟨h1, p, c, w1, w2, w3, w4, w5⟩ n hn => ⟨_, List.Mem.tail _ (List.Mem.head _), fun q9 => thr_l (Nat.le_of_ble_eq_true rfl) (Nat.le_of_ble_eq_true rfl) (q 2 _ (hM.1) (fun Q2 q2 => ?_))⟩) (fun p c i r' H' e1 e2 e3 e4 e5 e6 e7 er9 r9 C' X' => ret_l (R.hnL X').1 (Nat.le_of_ble_eq_true rfl) (Nat.le_of_ble_eq_true rfl) (q 0 _ (R.hnL X').2 (fun Q2 q2 => ?_)))
  · have c : C1 m h (hxn h n) := C1.rf
    have CC := C.hxn (n := n)
    rw [c.st]
    refine k_removeSubstitute hst (c.mds hM) (c.mdl hL9) hN er r8 (fun z1 => q2 _ _ (Jn.thr (k := 1) R hB hD c CC Mf.rf eF0 (fun _ _ => rfl) ⟨rfl, rfl⟩ rfl (by decide))) (fun p2 s2 c9 y1 y2 y3 y4 y5 y6 y7 => absurd (⟨vP y1 y2 k8, vP y3 y4 k8⟩) (h1)) (fun p2 c9 i9 s2 y1 y2 y3 y4 y5 y6 y7 y8 => absurd (⟨vP y1 y2 k8, vP y3 y4 k8⟩) (h1))
  · have c : C1 m h (hxn h n) := C1.rf
    have CC := C.hxn (n := n)
    rw [c.st]
    refine k_removeSubstitute hst (c.mds hM) (c.mdl hL9) hN er r8 (fun z1 => absurd (h1) (z1)) (fun p2 s2 c9 y1 y2 y3 y4 y5 y6 y7 => q2 _ _ (Jn.thr (k := 2) R hB hD c CC Mf.rf eF0 (fun _ _ => rfl) ⟨rfl, rfl⟩ rfl (by decide))) (fun p2 c9 i9 s2 y1 y2 y3 y4 y5 y6 y7 y8 => absurd (by obtain rfl := nJ w1 y1 (by omega) (by omega); obtain rfl := nJ w3 y5 (by omega) (by omega); exact w5.symm.trans y8) (m1n (i := i9) (by omega)))
  · have c0 : C1 m h H' := C1.of R.1 X'
    rw [c0.wL.st]
    refine k_removeSubstitute hst (c0.wL.mds hM) (c0.wL.mdl hL9) hN er r8 (fun z1 => absurd (⟨vP e1 e2 k8, e3⟩) (z1)) (fun p2 s2 c9 y1 y2 y3 y4 y5 y6 y7 => absurd (by obtain rfl := nJ e1 y1 (by omega) (by omega); obtain rfl := nJ e4 y5 (by omega) (by omega); exact y7.symm.trans e7) (m1n (i := i) (by omega))) (fun p2 c9 i9 s2 y1 y2 y3 y4 y5 y6 y7 y8 => ?_)
    obtain rfl := nJ e1 y1 (by omega) (by omega)
    obtain rfl : c = c9 := by have := nJ e4 y5 (by omega) (by omega); omega
    obtain rfl := nJ e7 y8 (by omega) (by omega)
    obtain rfl := nJ er9 er (by omega) (by omega)
    exact q2 _ _ (Jn.push R hB hD c0.wL er r8 C'.wL (by omega) Mf.rf eFp (fun _ _ => rfl) rfl (rems_di (by omega) dN |>.le (by omega) hD) rfl hL_wL)
theorem j_addKit {l : Launch} (hst : l.stackTraces = false) {h : Hp} {x m o : Nat} {B D : Int} (R : RJ h x m o B D) (hB : B + 19980 ≤ 16000000) (hD : D + 180 ≤ 1000000) {a0 a1 a2 : Int32} {Q : Option Value → Hp → Prop} (q : ∀ (k : Int32) (h1 : Hp), hs h1 m = (10, 21) → (∀ Q2 : Option Value → Hp → Prop, (∀ (v : Int32) (h2 : Hp), Jn x m o (B + 19980) (D + 180) k v.toInt64 h2 → Q2 (some (.int v)) h2) → CX9_addKit l [.ref m, .int a0, .int a1, .int a2] h1 Q2 (fun _ _ => False)) → Q (some (.int k)) h1) : CL_addKit l [.ref x, .int a0, .int a1, .int a2, .ref o] h Q (fun _ _ => False) := by

  have C := R.2.2.2.2.2.1
  have hM := R.2.2.2.1
  have hL9 := R.2.2.2.2.1
  obtain ⟨σ, c0, c1, c2, c3, c4, W, g⟩ := C.2.1.1
  have hN := g.wf
  have k8 : c0 ≤ 1000 := by have := hN.1.2; omega
  have k4 : c1 ≤ 1000 := by have := hN.2.1.2; omega
  have k12 : c2 ≤ 1000 := by have := hN.2.2.1.2; omega
  have k13 : c3 ≤ 1000 := by have := hN.2.2.2.1.2; omega
  have k14 : c4 ≤ 1000 := by have := hN.2.2.2.2.1.2; omega
  obtain ⟨r, er, r8⟩ := R.rr
  have dN : DIr (hI h (m + 1)) D := R.2.2.2.2.2.2.1.1
  have dI : DI (hI h (m + 1)) c0 D := dN c0 hN.1.1 hN.1.2
  refine eL_addKit hst (Nat.le_of_ble_eq_true rfl) (fun K => ?_)
  refine ⟨rfl, Nat.le_of_ble_eq_true rfl, C.s0, Nat.le_of_ble_eq_true rfl, Nat.le_of_ble_eq_true rfl, ?_⟩
  refine e_addKit hst C W g (fun h1 n hn => ⟨_, List.Mem.head _, fun q9 => thr_l (Nat.le_of_ble_eq_true rfl) (Nat.le_of_ble_eq_true rfl) (q 1 _ (hM.1) (fun Q2 q2 => ?_))⟩) (fun h1 n hn => ⟨_, List.Mem.tail _ (List.Mem.head _), fun q9 => thr_l (Nat.le_of_ble_eq_true rfl) (Nat.le_of_ble_eq_true rfl) (q 2 _ (hM.1) (fun Q2 q2 => ?_))⟩) (fun h1 n hn => ⟨_, List.Mem.tail _ (List.Mem.tail _ (List.Mem.head _)), fun q9 => thr_l (Nat.le_of_ble_eq_true rfl) (Nat.le_of_ble_eq_true rfl) (q 3 _ (hM.1) (fun Q2 q2 => ?_))⟩) (fun s r' H' e1 e2 e3 e4 e5 er9 r9 C' X' => ret_l (R.hnL X').1 (Nat.le_of_ble_eq_true rfl) (Nat.le_of_ble_eq_true rfl) (q 0 _ (R.hnL X').2 (fun Q2 q2 => ?_))) (fun s k1 c r' H' e1 e2 e3 e4 e6 e7 e8 e5 er9 r9 C' X' => ret_l (R.hnL X').1 (Nat.le_of_ble_eq_true rfl) (Nat.le_of_ble_eq_true rfl) (q 0 _ (R.hnL X').2 (fun Q2 q2 => ?_)))
  · have c : C1 m h (hxn h n) := C1.rf
    have CC := C.hxn (n := n)
    rw [c.st]
    refine k_addKit hst (c.mds hM) (c.mdl hL9) hN er r8 (fun z1 => q2 _ _ (Jn.thr (k := 1) R hB hD c CC Mf.rf eF0 (fun _ _ => rfl) ⟨rfl, rfl⟩ rfl (by decide))) (fun z1 z2 => absurd (z1) (h1)) (fun z1 z2 z3 => absurd (z1) (h1)) (fun s2 y1 y2 y3 y4 y5 => absurd (⟨vP y1 y2 k8, vR y3 (Nat.le_refl _) k4⟩) (h1)) (fun s2 k2 c9 y1 y2 y3 y4 y6 y7 y8 y5 => absurd (⟨vP y1 y2 k8, vR y3 (show k2 ≤ c1 by omega) k4⟩) (h1))
  · have c : C1 m h (hxn h n) := C1.rf
    have CC := C.hxn (n := n)
    rw [c.st]
    refine k_addKit hst (c.mds hM) (c.mdl hL9) hN er r8 (fun z1 => absurd (h1.1) (z1)) (fun z1 z2 => q2 _ _ (Jn.thr (k := 2) R hB hD c CC Mf.rf eF0 (fun _ _ => rfl) ⟨rfl, rfl⟩ rfl (by decide))) (fun z1 z2 z3 => absurd (z2) (h1.2)) (fun s2 y1 y2 y3 y4 y5 => absurd (y5) (h1.2)) (fun s2 k2 c9 y1 y2 y3 y4 y6 y7 y8 y5 => absurd (y5) (h1.2))
  · have c : C1 m h (hxn h n) := C1.rf
    have CC := C.hxn (n := n)
    rw [c.st]
    refine k_addKit hst (c.mds hM) (c.mdl hL9) hN er r8 (fun z1 => absurd (h1.1) (z1)) (fun z1 z2 => absurd (h1.2.1) (z2)) (fun z1 z2 z3 => q2 _ _ (Jn.thr (k := 3) R hB hD c CC Mf.rf eF0 (fun _ _ => rfl) ⟨rfl, rfl⟩ rfl (by decide))) (fun s2 y1 y2 y3 y4 y5 => kit_x1 h1.2.2 y3 y4) (fun s2 k2 c9 y1 y2 y3 y4 y6 y7 y8 y5 => kit_x2 hN.2.1.2 h1.2.2 y3 y4 y6 y7 y8)
  · have c0 : C1 m h H' := C1.of R.1 X'
    rw [c0.wL.st]
    refine k_addKit hst (c0.wL.mds hM) (c0.wL.mdl hL9) hN er r8 (fun z1 => absurd (⟨vP e1 e2 k8, vR e3 (Nat.le_refl _) k4⟩) (z1)) (fun z1 z2 => absurd (e5) (z2)) (fun z1 z2 z3 => kit_x1 z3 e3 e4) (fun s2 y1 y2 y3 y4 y5 => ?_) (fun s2 k2 c9 y1 y2 y3 y4 y6 y7 y8 y5 => absurd (nJ e3 y3 (by omega) (by omega)) (by omega))
    obtain rfl := nJ e1 y1 (by omega) (by omega)
    obtain rfl := nJ er9 er (by omega) (by omega)
    exact q2 _ _ (Jn.push R hB hD c0.wL er r8 C'.wL (by omega) Mf.rf eFp (fun _ _ => rfl) rfl (kit_di1 dN |>.le (by omega) hD) rfl hL_wL)
  · have c0 : C1 m h H' := C1.of R.1 X'
    rw [c0.wL.st]
    refine k_addKit hst (c0.wL.mds hM) (c0.wL.mdl hL9) hN er r8 (fun z1 => absurd (⟨vP e1 e2 k8, vR e3 (show k1 ≤ c1 by omega) k4⟩) (z1)) (fun z1 z2 => absurd (e5) (z2)) (fun z1 z2 z3 => kit_x2 hN.2.1.2 z3 e3 e4 e6 e7 e8) (fun s2 y1 y2 y3 y4 y5 => absurd (nJ e3 y3 (by omega) (by omega)) (by omega)) (fun s2 k2 c9 y1 y2 y3 y4 y6 y7 y8 y5 => ?_)
    obtain rfl := nJ e1 y1 (by omega) (by omega)
    obtain rfl := nJ er9 er (by omega) (by omega)
    obtain rfl := nJ e3 y3 (by omega) (by omega)
    obtain rfl := nJ e6 y6 (by omega) (by omega)
    exact q2 _ _ (Jn.push R hB hD c0.wL er r8 C'.wL (by omega) Mf.rf eFp (fun _ _ => rfl) rfl (kit_di2 dN |>.le (by omega) hD) rfl hL_wL)
end JB

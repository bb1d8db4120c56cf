section JA
theorem j_setYield {l : Launch} (hst : l.stackTraces = false) {h : Hp} {x m o : Nat} {B D : Int} (R : RJ h x m o B D) (hB : B + 19980 ≤ 16000000) (hD : D + 180 ≤ 1000000) {a0 a1 : Int32} {Q : Option Value → Hp → Prop} (q : ∀ (k : Int32) (h1 : Hp), hs h1 m = (10, 21) → (∀ Q2 : Option Value → Hp → Prop, (∀ (v : Int32) (h2 : Hp), Jn x m o (B + 19980) (D + 180) k v.toInt64 h2 → Q2 (some (.int v)) h2) → CX9_setYield l [.ref m, .int a0, .int a1] h1 Q2 (fun _ _ => False)) → Q (some (.int k)) h1) : CL_setYield l [.ref x, .int a0, .int a1, .ref o] h Q (fun _ _ => False) := by

  have C := R.2.2.2.2.2.1
  have hM := R.2.2.2.1
  have hL9 := R.2.2.2.2.1
  obtain ⟨σ, c0, c1, c2, c3, c4, W, g⟩ := C.2.1.1
  have hN := g.wf
  have k8 : c0 ≤ 1000 := by have := hN.1.2; omega
  have k4 : c1 ≤ 1000 := by have := hN.2.1.2; omega
  have k12 : c2 ≤ 1000 := by have := hN.2.2.1.2; omega
  have k13 : c3 ≤ 1000 := by have := hN.2.2.2.1.2; omega
  have k14 : c4 ≤ 1000 := by have := hN.2.2.2.2.1.2; omega
  obtain ⟨r, er, r8⟩ := R.rr
  have dN : DIr (hI h (m + 1)) D := R.2.2.2.2.2.2.1.1
  have dI : DI (hI h (m + 1)) c0 D := dN c0 hN.1.1 hN.1.2
  refine eL_setYield hst (Nat.le_of_ble_eq_true rfl) (fun K => ?_)
  refine ⟨rfl, Nat.le_of_ble_eq_true rfl, C.s0, Nat.le_of_ble_eq_true rfl, Nat.le_of_ble_eq_true rfl, ?_⟩
  refine e_setYield hst C W g (fun h1 n hn => ⟨_, List.Mem.head _, fun q9 => thr_l (Nat.le_of_ble_eq_true rfl) (Nat.le_of_ble_eq_true rfl) (q 1 _ (hM.1) (fun Q2 q2 => ?_))⟩) (fun h1 n hn => ⟨_, List.Mem.tail _ (List.Mem.head _), fun q9 => thr_l (Nat.le_of_ble_eq_true rfl) (Nat.le_of_ble_eq_true rfl) (q 2 _ (hM.1) (fun Q2 q2 => ?_))⟩) (fun p r' H' e1 e2 e3 er9 r9 C' X' => ret_l (R.hnL X').1 (Nat.le_of_ble_eq_true rfl) (Nat.le_of_ble_eq_true rfl) (q 0 _ (R.hnL X').2 (fun Q2 q2 => ?_)))
  · have c : C1 m h (hxn h n) := C1.rf
    have CC := C.hxn (n := n)
    rw [c.st]
    refine k_setYield hst (c.mds hM) (c.mdl hL9) hN er r8 (fun z1 => q2 _ _ (Jn.thr (k := 1) R hB hD c CC Mf.rf eF0 (fun _ _ => rfl) ⟨rfl, rfl⟩ rfl (by decide))) (fun z1 z2 => absurd (z1) (h1)) (fun p2 y1 y2 y3 => absurd (vP y1 y2 k8) (h1))
  · have c : C1 m h (hxn h n) := C1.rf
    have CC := C.hxn (n := n)
    rw [c.st]
    refine k_setYield hst (c.mds hM) (c.mdl hL9) hN er r8 (fun z1 => absurd (h1.1) (z1)) (fun z1 z2 => q2 _ _ (Jn.thr (k := 2) R hB hD c CC Mf.rf eF0 (fun _ _ => rfl) ⟨rfl, rfl⟩ rfl (by decide))) (fun p2 y1 y2 y3 => absurd (y3) (h1.2))
  · have c0 : C1 m h H' := C1.of R.1 X'
    rw [c0.wL.st]
    refine k_setYield hst (c0.wL.mds hM) (c0.wL.mdl hL9) hN er r8 (fun z1 => absurd (vP e1 e2 k8) (z1)) (fun z1 z2 => absurd (e3) (z2)) (fun p2 y1 y2 y3 => ?_)
    obtain rfl := nJ e1 y1 (by omega) (by omega)
    obtain rfl := nJ er9 er (by omega) (by omega)
    exact q2 _ _ (Jn.push R hB hD c0.wL er r8 C'.wL (by omega) Mf.rf eFp (fun _ _ => rfl) rfl (dN.z (pk_un (by omega)) (fun j hj => pk_un (by unfold dyz at hj; omega)) |>.le (by omega) hD) rfl hL_wL)
theorem j_setBounds {l : Launch} (hst : l.stackTraces = false) {h : Hp} {x m o : Nat} {B D : Int} (R : RJ h x m o B D) (hB : B + 19980 ≤ 16000000) (hD : D + 180 ≤ 1000000) {a0 a1 a2 : Int32} {Q : Option Value → Hp → Prop} (q : ∀ (k : Int32) (h1 : Hp), hs h1 m = (10, 21) → (∀ Q2 : Option Value → Hp → Prop, (∀ (v : Int32) (h2 : Hp), Jn x m o (B + 19980) (D + 180) k v.toInt64 h2 → Q2 (some (.int v)) h2) → CX9_setBounds l [.ref m, .int a0, .int a1, .int a2] h1 Q2 (fun _ _ => False)) → Q (some (.int k)) h1) : CL_setBounds l [.ref x, .int a0, .int a1, .int a2, .ref o] h Q (fun _ _ => False) := by

  have C := R.2.2.2.2.2.1
  have hM := R.2.2.2.1
  have hL9 := R.2.2.2.2.1
  obtain ⟨σ, c0, c1, c2, c3, c4, W, g⟩ := C.2.1.1
  have hN := g.wf
  have k8 : c0 ≤ 1000 := by have := hN.1.2; omega
  have k4 : c1 ≤ 1000 := by have := hN.2.1.2; omega
  have k12 : c2 ≤ 1000 := by have := hN.2.2.1.2; omega
  have k13 : c3 ≤ 1000 := by have := hN.2.2.2.1.2; omega
  have k14 : c4 ≤ 1000 := by have := hN.2.2.2.2.1.2; omega
  obtain ⟨r, er, r8⟩ := R.rr
  have dN : DIr (hI h (m + 1)) D := R.2.2.2.2.2.2.1.1
  have dI : DI (hI h (m + 1)) c0 D := dN c0 hN.1.1 hN.1.2
  refine eL_setBounds hst (Nat.le_of_ble_eq_true rfl) (fun K => ?_)
  refine ⟨rfl, Nat.le_of_ble_eq_true rfl, C.s0, Nat.le_of_ble_eq_true rfl, Nat.le_of_ble_eq_true rfl, ?_⟩
  refine e_setBounds hst C W g (fun h1 n hn => ⟨_, List.Mem.head _, fun q9 => thr_l (Nat.le_of_ble_eq_true rfl) (Nat.le_of_ble_eq_true rfl) (q 1 _ (hM.1) (fun Q2 q2 => ?_))⟩) (fun h1 n hn => ⟨_, List.Mem.tail _ (List.Mem.head _), fun q9 => thr_l (Nat.le_of_ble_eq_true rfl) (Nat.le_of_ble_eq_true rfl) (q 2 _ (hM.1) (fun Q2 q2 => ?_))⟩) (fun p r' H' e1 e2 e3 er9 r9 C' X' => ret_l (R.hnL X').1 (Nat.le_of_ble_eq_true rfl) (Nat.le_of_ble_eq_true rfl) (q 0 _ (R.hnL X').2 (fun Q2 q2 => ?_)))
  · have c : C1 m h (hxn h n) := C1.rf
    have CC := C.hxn (n := n)
    rw [c.st]
    refine k_setBounds hst (c.mds hM) (c.mdl hL9) hN er r8 (fun z1 => q2 _ _ (Jn.thr (k := 1) R hB hD c CC Mf.rf eF0 (fun _ _ => rfl) ⟨rfl, rfl⟩ rfl (by decide))) (fun z1 z2 => absurd (z1) (h1)) (fun p2 y1 y2 y3 => absurd (vP y1 y2 k8) (h1))
  · have c : C1 m h (hxn h n) := C1.rf
    have CC := C.hxn (n := n)
    rw [c.st]
    refine k_setBounds hst (c.mds hM) (c.mdl hL9) hN er r8 (fun z1 => absurd (h1.1) (z1)) (fun z1 z2 => q2 _ _ (Jn.thr (k := 2) R hB hD c CC Mf.rf eF0 (fun _ _ => rfl) ⟨rfl, rfl⟩ rfl (by decide))) (fun p2 y1 y2 y3 => absurd (y3) (h1.2))
  · have c0 : C1 m h H' := C1.of R.1 X'
    rw [c0.wL.st]
    refine k_setBounds hst (c0.wL.mds hM) (c0.wL.mdl hL9) hN er r8 (fun z1 => absurd (vP e1 e2 k8) (z1)) (fun z1 z2 => absurd (e3) (z2)) (fun p2 y1 y2 y3 => ?_)
    obtain rfl := nJ e1 y1 (by omega) (by omega)
    obtain rfl := nJ er9 er (by omega) (by omega)
    exact q2 _ _ (Jn.push R hB hD c0.wL er r8 C'.wL (by omega) Mf.rf eFp (fun _ _ => rfl) rfl (dN.z ((pk_un (by omega)).trans (pk_un (by omega))) (fun j hj => (pk_un (by unfold dyz at hj; omega)).trans (pk_un (by unfold dyz at hj; omega))) |>.le (by omega) hD) rfl hL_wL)
theorem j_addPart {l : Launch} (hst : l.stackTraces = false) {h : Hp} {x m o : Nat} {B D : Int} (R : RJ h x m o B D) (hB : B + 19980 ≤ 16000000) (hD : D + 180 ≤ 1000000) {a0 a1 a2 a3 : Int32} {Q : Option Value → Hp → Prop} (q : ∀ (k : Int32) (h1 : Hp), hs h1 m = (10, 21) → (∀ Q2 : Option Value → Hp → Prop, (∀ (v : Int32) (h2 : Hp), Jn x m o (B + 19980) (D + 180) k v.toInt64 h2 → Q2 (some (.int v)) h2) → CX9_addPart l [.ref m, .int a0, .int a1, .int a2, .int a3] h1 Q2 (fun _ _ => False)) → Q (some (.int k)) h1) : CL_addPart l [.ref x, .int a0, .int a1, .int a2, .int a3, .ref o] h Q (fun _ _ => False) := by

  have C := R.2.2.2.2.2.1
  have hM := R.2.2.2.1
  have hL9 := R.2.2.2.2.1
  obtain ⟨σ, c0, c1, c2, c3, c4, W, g⟩ := C.2.1.1
  have hN := g.wf
  have k8 : c0 ≤ 1000 := by have := hN.1.2; omega
  have k4 : c1 ≤ 1000 := by have := hN.2.1.2; omega
  have k12 : c2 ≤ 1000 := by have := hN.2.2.1.2; omega
  have k13 : c3 ≤ 1000 := by have := hN.2.2.2.1.2; omega
  have k14 : c4 ≤ 1000 := by have := hN.2.2.2.2.1.2; omega
  obtain ⟨r, er, r8⟩ := R.rr
  have dN : DIr (hI h (m + 1)) D := R.2.2.2.2.2.2.1.1
  have dI : DI (hI h (m + 1)) c0 D := dN c0 hN.1.1 hN.1.2
  refine eL_addPart hst (Nat.le_of_ble_eq_true rfl) (fun K => ?_)
  refine ⟨rfl, Nat.le_of_ble_eq_true rfl, C.s0, Nat.le_of_ble_eq_true rfl, Nat.le_of_ble_eq_true rfl, ?_⟩
  refine e_addPart hst C W g (fun h1 n hn => ⟨_, List.Mem.head _, fun q9 => thr_l (Nat.le_of_ble_eq_true rfl) (Nat.le_of_ble_eq_true rfl) (q 1 _ (hM.1) (fun Q2 q2 => ?_))⟩) (fun h1 n hn => ⟨_, List.Mem.tail _ (List.Mem.head _), fun q9 => thr_l (Nat.le_of_ble_eq_true rfl) (Nat.le_of_ble_eq_true rfl) (q 2 _ (hM.1) (fun Q2 q2 => ?_))⟩) (fun r' H' e1 e2 er9 r9 C' X' => ret_l (R.hnL X').1 (Nat.le_of_ble_eq_true rfl) (Nat.le_of_ble_eq_true rfl) (q 0 _ (R.hnL X').2 (fun Q2 q2 => ?_)))
  · have c : C1 m h (hxn h n) := C1.rf
    have CC := C.hxn (n := n)
    rw [c.st]
    refine k_addPart hst (c.mds hM) (c.mdl hL9) hN er r8 (fun z1 => q2 _ _ (Jn.thr (k := 1) R hB hD c CC Mf.rf eF0 (fun _ _ => rfl) ⟨rfl, rfl⟩ rfl (by decide))) (fun z1 z2 => absurd (z1) (h1)) (fun y1 y2 => absurd (y1) (h1))
  · have c : C1 m h (hxn h n) := C1.rf
    have CC := C.hxn (n := n)
    rw [c.st]
    refine k_addPart hst (c.mds hM) (c.mdl hL9) hN er r8 (fun z1 => absurd (h1.1) (z1)) (fun z1 z2 => q2 _ _ (Jn.thr (k := 2) R hB hD c CC Mf.rf eF0 (fun _ _ => rfl) ⟨rfl, rfl⟩ rfl (by decide))) (fun y1 y2 => absurd (y2) (h1.2))
  · have c0 : C1 m h H' := C1.of R.1 X'
    rw [c0.wL.st]
    refine k_addPart hst (c0.wL.mds hM) (c0.wL.mdl hL9) hN er r8 (fun z1 => absurd (e1) (z1)) (fun z1 z2 => absurd (e2) (z2)) (fun y1 y2 => ?_)
    obtain rfl := nJ er9 er (by omega) (by omega)
    exact q2 _ _ (Jn.push R hB hD c0.wL er r8 C'.wL (by omega) Mf.rf eFp (fun _ _ => rfl) rfl (addp_di hN dI e1 e2 |>.le (by omega) hD) rfl hL_wL)
theorem j_count {l : Launch} (hst : l.stackTraces = false) {h : Hp} {x m o : Nat} {B D : Int} (R : RJ h x m o B D) (hB : B + 19980 ≤ 16000000) (hD : D + 180 ≤ 1000000) {a0 : Int32} {Q : Option Value → Hp → Prop} (q : ∀ (k : Int32) (h1 : Hp), hs h1 m = (10, 21) → (∀ Q2 : Option Value → Hp → Prop, (∀ (v : Int32) (h2 : Hp), Jn x m o (B + 19980) (D + 180) k v.toInt64 h2 → Q2 (some (.int v)) h2) → CX9_count l [.ref m, .int a0] h1 Q2 (fun _ _ => False)) → Q (some (.int k)) h1) : CL_count l [.ref x, .int a0, .ref o] h Q (fun _ _ => False) := by

  have C := R.2.2.2.2.2.1
  have hM := R.2.2.2.1
  have hL9 := R.2.2.2.2.1
  obtain ⟨σ, c0, c1, c2, c3, c4, W, g⟩ := C.2.1.1
  have hN := g.wf
  have k8 : c0 ≤ 1000 := by have := hN.1.2; omega
  have k4 : c1 ≤ 1000 := by have := hN.2.1.2; omega
  have k12 : c2 ≤ 1000 := by have := hN.2.2.1.2; omega
  have k13 : c3 ≤ 1000 := by have := hN.2.2.2.1.2; omega
  have k14 : c4 ≤ 1000 := by have := hN.2.2.2.2.1.2; omega
  obtain ⟨r, er, r8⟩ := R.rr
  have dN : DIr (hI h (m + 1)) D := R.2.2.2.2.2.2.1.1
  have dI : DI (hI h (m + 1)) c0 D := dN c0 hN.1.1 hN.1.2
  refine eL_count hst (Nat.le_of_ble_eq_true rfl) (fun K => ?_)
  refine ⟨rfl, Nat.le_of_ble_eq_true rfl, C.s0, Nat.le_of_ble_eq_true rfl, Nat.le_of_ble_eq_true rfl, ?_⟩
  refine e_count hst C W g (fun h1 n hn => ⟨_, List.Mem.head _, fun q9 => thr_l (Nat.le_of_ble_eq_true rfl) (Nat.le_of_ble_eq_true rfl) (q 1 _ (hM.1) (fun Q2 q2 => ?_))⟩) (fun k1 e1 e2 => ret_l R.2.2.1.1 (Nat.le_of_ble_eq_true rfl) (Nat.le_of_ble_eq_true rfl) (q 0 _ hM.1 (fun Q2 q2 => ?_)))
  · have c : C1 m h (hxn h n) := C1.rf
    have CC := C.hxn (n := n)
    rw [c.st]
    refine k_count hst (c.mds hM) (c.mdl hL9) hN (fun z1 => q2 _ _ (Jn.thr (k := 1) R hB hD c CC Mf.rf eF0 (fun _ _ => rfl) ⟨rfl, rfl⟩ rfl (by decide))) (fun k2 y1 y2 => absurd (vR y1 (show k2 ≤ 7 by omega) (by decide)) (h1))
  · have c0 : C1 m h h := C1.rf
    rw [c0.wL.st]
    refine k_count hst (c0.wL.mds hM) (c0.wL.mdl hL9) hN (fun z1 => absurd (vR e1 (show k1 ≤ 7 by omega) (by decide)) (z1)) (fun k2 y1 y2 => ?_)
    obtain rfl := nJ e1 y1 (by omega) (by omega)
    exact q2 _ _ (Jn.ret R hB hD c0.wL C.wL Mf.rf eF0 (fun _ _ => rfl) ⟨rfl, rfl⟩ rfl hL_wL)
theorem j_part {l : Launch} (hst : l.stackTraces = false) {h : Hp} {x m o : Nat} {B D : Int} (R : RJ h x m o B D) (hB : B + 19980 ≤ 16000000) (hD : D + 180 ≤ 1000000) {a0 a1 : Int32} {Q : Option Value → Hp → Prop} (q : ∀ (k : Int32) (h1 : Hp), hs h1 m = (10, 21) → (∀ Q2 : Option Value → Hp → Prop, (∀ (v : Int32) (h2 : Hp), Jn x m o (B + 19980) (D + 180) k v.toInt64 h2 → Q2 (some (.int v)) h2) → CX9_part l [.ref m, .int a0, .int a1] h1 Q2 (fun _ _ => False)) → Q (some (.int k)) h1) : CL_part l [.ref x, .int a0, .int a1, .ref o] h Q (fun _ _ => False) := by

  have C := R.2.2.2.2.2.1
  have hM := R.2.2.2.1
  have hL9 := R.2.2.2.2.1
  obtain ⟨σ, c0, c1, c2, c3, c4, W, g⟩ := C.2.1.1
  have hN := g.wf
  have k8 : c0 ≤ 1000 := by have := hN.1.2; omega
  have k4 : c1 ≤ 1000 := by have := hN.2.1.2; omega
  have k12 : c2 ≤ 1000 := by have := hN.2.2.1.2; omega
  have k13 : c3 ≤ 1000 := by have := hN.2.2.2.1.2; omega
  have k14 : c4 ≤ 1000 := by have := hN.2.2.2.2.1.2; omega
  obtain ⟨r, er, r8⟩ := R.rr
  have dN : DIr (hI h (m + 1)) D := R.2.2.2.2.2.2.1.1
  have dI : DI (hI h (m + 1)) c0 D := dN c0 hN.1.1 hN.1.2
  refine eL_part hst (Nat.le_of_ble_eq_true rfl) (fun K => ?_)
  refine ⟨rfl, Nat.le_of_ble_eq_true rfl, C.s0, Nat.le_of_ble_eq_true rfl, Nat.le_of_ble_eq_true rfl, ?_⟩
  refine e_part hst C W g (fun h1 n hn => ⟨_, List.Mem.head _, fun q9 => thr_l (Nat.le_of_ble_eq_true rfl) (Nat.le_of_ble_eq_true rfl) (q 1 _ (hM.1) (fun Q2 q2 => ?_))⟩) (fun h1 n hn => ⟨_, List.Mem.tail _ (List.Mem.head _), fun q9 => thr_l (Nat.le_of_ble_eq_true rfl) (Nat.le_of_ble_eq_true rfl) (q 2 _ (hM.1) (fun Q2 q2 => ?_))⟩) (fun p k1 e1 e2 e3 e4 => ret_l R.2.2.1.1 (Nat.le_of_ble_eq_true rfl) (Nat.le_of_ble_eq_true rfl) (q 0 _ hM.1 (fun Q2 q2 => ?_)))
  · have c : C1 m h (hxn h n) := C1.rf
    have CC := C.hxn (n := n)
    rw [c.st]
    refine k_part hst (c.mds hM) (c.mdl hL9) hN (fun z1 => q2 _ _ (Jn.thr (k := 1) R hB hD c CC Mf.rf eF0 (fun _ _ => rfl) ⟨rfl, rfl⟩ rfl (by decide))) (fun z1 z2 => absurd (z1) (h1)) (fun p2 k2 y1 y2 y3 y4 => absurd (vP y1 y2 k8) (h1))
  · have c : C1 m h (hxn h n) := C1.rf
    have CC := C.hxn (n := n)
    rw [c.st]
    refine k_part hst (c.mds hM) (c.mdl hL9) hN (fun z1 => absurd (h1.1) (z1)) (fun z1 z2 => q2 _ _ (Jn.thr (k := 2) R hB hD c CC Mf.rf eF0 (fun _ _ => rfl) ⟨rfl, rfl⟩ rfl (by decide))) (fun p2 k2 y1 y2 y3 y4 => absurd (vR y3 (show k2 ≤ 9 by omega) (by decide)) (h1.2))
  · have c0 : C1 m h h := C1.rf
    rw [c0.wL.st]
    refine k_part hst (c0.wL.mds hM) (c0.wL.mdl hL9) hN (fun z1 => absurd (vP e1 e2 k8) (z1)) (fun z1 z2 => absurd (vR e3 (show k1 ≤ 9 by omega) (by decide)) (z2)) (fun p2 k2 y1 y2 y3 y4 => ?_)
    obtain rfl := nJ e1 y1 (by omega) (by omega)
    obtain rfl := nJ e3 y3 (by omega) (by omega)
    exact q2 _ _ (Jn.ret R hB hD c0.wL C.wL Mf.rf eF0 (fun _ _ => rfl) ⟨rfl, rfl⟩ rfl hL_wL)
theorem j_available {l : Launch} (hst : l.stackTraces = false) {h : Hp} {x m o : Nat} {B D : Int} (R : RJ h x m o B D) (hB : B + 19980 ≤ 16000000) (hD : D + 180 ≤ 1000000) {a0 : Int32} {Q : Option Value → Hp → Prop} (q : ∀ (k : Int32) (h1 : Hp), hs h1 m = (10, 21) → (∀ Q2 : Option Value → Hp → Prop, (∀ (v : Int32) (h2 : Hp), Jn x m o (B + 19980) (D + 180) k v.toInt64 h2 → Q2 (some (.int v)) h2) → CX9_available l [.ref m, .int a0] h1 Q2 (fun _ _ => False)) → Q (some (.int k)) h1) : CL_available l [.ref x, .int a0, .ref o] h Q (fun _ _ => False) := by

  have C := R.2.2.2.2.2.1
  have hM := R.2.2.2.1
  have hL9 := R.2.2.2.2.1
  obtain ⟨σ, c0, c1, c2, c3, c4, W, g⟩ := C.2.1.1
  have hN := g.wf
  have k8 : c0 ≤ 1000 := by have := hN.1.2; omega
  have k4 : c1 ≤ 1000 := by have := hN.2.1.2; omega
  have k12 : c2 ≤ 1000 := by have := hN.2.2.1.2; omega
  have k13 : c3 ≤ 1000 := by have := hN.2.2.2.1.2; omega
  have k14 : c4 ≤ 1000 := by have := hN.2.2.2.2.1.2; omega
  obtain ⟨r, er, r8⟩ := R.rr
  have dN : DIr (hI h (m + 1)) D := R.2.2.2.2.2.2.1.1
  have dI : DI (hI h (m + 1)) c0 D := dN c0 hN.1.1 hN.1.2
  refine eL_available hst (Nat.le_of_ble_eq_true rfl) (fun K => ?_)
  refine ⟨rfl, Nat.le_of_ble_eq_true rfl, C.s0, Nat.le_of_ble_eq_true rfl, Nat.le_of_ble_eq_true rfl, ?_⟩
  refine e_available hst C W g (fun h1 n hn => ⟨_, List.Mem.head _, fun q9 => thr_l (Nat.le_of_ble_eq_true rfl) (Nat.le_of_ble_eq_true rfl) (q 1 _ (hM.1) (fun Q2 q2 => ?_))⟩) (fun p e1 e2 => ret_l R.2.2.1.1 (Nat.le_of_ble_eq_true rfl) (Nat.le_of_ble_eq_true rfl) (q 0 _ hM.1 (fun Q2 q2 => ?_)))
  · have c : C1 m h (hxn h n) := C1.rf
    have CC := C.hxn (n := n)
    rw [c.st]
    refine k_available hst (c.mds hM) (c.mdl hL9) hN (fun z1 => q2 _ _ (Jn.thr (k := 1) R hB hD c CC Mf.rf eF0 (fun _ _ => rfl) ⟨rfl, rfl⟩ rfl (by decide))) (fun p2 y1 y2 => absurd (vP y1 y2 k8) (h1))
  · have c0 : C1 m h h := C1.rf
    rw [c0.wL.st]
    refine k_available hst (c0.wL.mds hM) (c0.wL.mdl hL9) hN (fun z1 => absurd (vP e1 e2 k8) (z1)) (fun p2 y1 y2 => ?_)
    obtain rfl := nJ e1 y1 (by omega) (by omega)
    exact q2 _ _ (Jn.ret R hB hD c0.wL C.wL Mf.rf eF0 (fun _ _ => rfl) ⟨rfl, rfl⟩ rfl hL_wL)
theorem j_waiting {l : Launch} (hst : l.stackTraces = false) {h : Hp} {x m o : Nat} {B D : Int} (R : RJ h x m o B D) (hB : B + 19980 ≤ 16000000) (hD : D + 180 ≤ 1000000) {a0 a1 : Int32} {Q : Option Value → Hp → Prop} (q : ∀ (k : Int32) (h1 : Hp), hs h1 m = (10, 21) → (∀ Q2 : Option Value → Hp → Prop, (∀ (v : Int32) (h2 : Hp), Jn x m o (B + 19980) (D + 180) k v.toInt64 h2 → Q2 (some (.int v)) h2) → CX9_waiting l [.ref m, .int a0, .int a1] h1 Q2 (fun _ _ => False)) → Q (some (.int k)) h1) : CL_waiting l [.ref x, .int a0, .int a1, .ref o] h Q (fun _ _ => False) := by

  have C := R.2.2.2.2.2.1
  have hM := R.2.2.2.1
  have hL9 := R.2.2.2.2.1
  obtain ⟨σ, c0, c1, c2, c3, c4, W, g⟩ := C.2.1.1
  have hN := g.wf
  have k8 : c0 ≤ 1000 := by have := hN.1.2; omega
  have k4 : c1 ≤ 1000 := by have := hN.2.1.2; omega
  have k12 : c2 ≤ 1000 := by have := hN.2.2.1.2; omega
  have k13 : c3 ≤ 1000 := by have := hN.2.2.2.1.2; omega
  have k14 : c4 ≤ 1000 := by have := hN.2.2.2.2.1.2; omega
  obtain ⟨r, er, r8⟩ := R.rr
  have dN : DIr (hI h (m + 1)) D := R.2.2.2.2.2.2.1.1
  have dI : DI (hI h (m + 1)) c0 D := dN c0 hN.1.1 hN.1.2
  refine eL_waiting hst (Nat.le_of_ble_eq_true rfl) (fun K => ?_)
  refine ⟨rfl, Nat.le_of_ble_eq_true rfl, C.s0, Nat.le_of_ble_eq_true rfl, Nat.le_of_ble_eq_true rfl, ?_⟩
  refine e_waiting hst C W g (fun h1 n hn => ⟨_, List.Mem.head _, fun q9 => thr_l (Nat.le_of_ble_eq_true rfl) (Nat.le_of_ble_eq_true rfl) (q 1 _ (hM.1) (fun Q2 q2 => ?_))⟩) (fun h1 n hn => ⟨_, List.Mem.tail _ (List.Mem.head _), fun q9 => thr_l (Nat.le_of_ble_eq_true rfl) (Nat.le_of_ble_eq_true rfl) (q 2 _ (hM.1) (fun Q2 q2 => ?_))⟩) (fun p k1 e1 e2 e3 e4 => ret_l R.2.2.1.1 (Nat.le_of_ble_eq_true rfl) (Nat.le_of_ble_eq_true rfl) (q 0 _ hM.1 (fun Q2 q2 => ?_)))
  · have c : C1 m h (hxn h n) := C1.rf
    have CC := C.hxn (n := n)
    rw [c.st]
    refine k_waiting hst (c.mds hM) (c.mdl hL9) hN (fun z1 => q2 _ _ (Jn.thr (k := 1) R hB hD c CC Mf.rf eF0 (fun _ _ => rfl) ⟨rfl, rfl⟩ rfl (by decide))) (fun z1 z2 => absurd (z1) (h1)) (fun p2 k2 y1 y2 y3 y4 => absurd (vP y1 y2 k12) (h1))
  · have c : C1 m h (hxn h n) := C1.rf
    have CC := C.hxn (n := n)
    rw [c.st]
    refine k_waiting hst (c.mds hM) (c.mdl hL9) hN (fun z1 => absurd (h1.1) (z1)) (fun z1 z2 => q2 _ _ (Jn.thr (k := 2) R hB hD c CC Mf.rf eF0 (fun _ _ => rfl) ⟨rfl, rfl⟩ rfl (by decide))) (fun p2 k2 y1 y2 y3 y4 => absurd (vR y3 (show k2 ≤ 4 by omega) (by decide)) (h1.2))
  · have c0 : C1 m h h := C1.rf
    rw [c0.wL.st]
    refine k_waiting hst (c0.wL.mds hM) (c0.wL.mdl hL9) hN (fun z1 => absurd (vP e1 e2 k12) (z1)) (fun z1 z2 => absurd (vR e3 (show k1 ≤ 4 by omega) (by decide)) (z2)) (fun p2 k2 y1 y2 y3 y4 => ?_)
    obtain rfl := nJ e1 y1 (by omega) (by omega)
    obtain rfl := nJ e3 y3 (by omega) (by omega)
    exact q2 _ _ (Jn.ret R hB hD c0.wL C.wL Mf.rf eF0 (fun _ _ => rfl) ⟨rfl, rfl⟩ rfl hL_wL)
theorem j_repair {l : Launch} (hst : l.stackTraces = false) {h : Hp} {x m o : Nat} {B D : Int} (R : RJ h x m o B D) (hB : B + 19980 ≤ 16000000) (hD : D + 180 ≤ 1000000) {a0 a1 : Int32} {Q : Option Value → Hp → Prop} (q : ∀ (k : Int32) (h1 : Hp), hs h1 m = (10, 21) → (∀ Q2 : Option Value → Hp → Prop, (∀ (v : Int32) (h2 : Hp), Jn x m o (B + 19980) (D + 180) k v.toInt64 h2 → Q2 (some (.int v)) h2) → CX9_repair l [.ref m, .int a0, .int a1] h1 Q2 (fun _ _ => False)) → Q (some (.int k)) h1) : CL_repair l [.ref x, .int a0, .int a1, .ref o] h Q (fun _ _ => False) := by

  have C := R.2.2.2.2.2.1
  have hM := R.2.2.2.1
  have hL9 := R.2.2.2.2.1
  obtain ⟨σ, c0, c1, c2, c3, c4, W, g⟩ := C.2.1.1
  have hN := g.wf
  have k8 : c0 ≤ 1000 := by have := hN.1.2; omega
  have k4 : c1 ≤ 1000 := by have := hN.2.1.2; omega
  have k12 : c2 ≤ 1000 := by have := hN.2.2.1.2; omega
  have k13 : c3 ≤ 1000 := by have := hN.2.2.2.1.2; omega
  have k14 : c4 ≤ 1000 := by have := hN.2.2.2.2.1.2; omega
  obtain ⟨r, er, r8⟩ := R.rr
  have dN : DIr (hI h (m + 1)) D := R.2.2.2.2.2.2.1.1
  have dI : DI (hI h (m + 1)) c0 D := dN c0 hN.1.1 hN.1.2
  refine eL_repair hst (Nat.le_of_ble_eq_true rfl) (fun K => ?_)
  refine ⟨rfl, Nat.le_of_ble_eq_true rfl, C.s0, Nat.le_of_ble_eq_true rfl, Nat.le_of_ble_eq_true rfl, ?_⟩
  refine e_repair hst C W g (fun h1 n hn => ⟨_, List.Mem.head _, fun q9 => thr_l (Nat.le_of_ble_eq_true rfl) (Nat.le_of_ble_eq_true rfl) (q 1 _ (hM.1) (fun Q2 q2 => ?_))⟩) (fun h1 n hn => ⟨_, List.Mem.tail _ (List.Mem.head _), fun q9 => thr_l (Nat.le_of_ble_eq_true rfl) (Nat.le_of_ble_eq_true rfl) (q 2 _ (hM.1) (fun Q2 q2 => ?_))⟩) (fun p k1 e1 e2 e3 e4 => ret_l R.2.2.1.1 (Nat.le_of_ble_eq_true rfl) (Nat.le_of_ble_eq_true rfl) (q 0 _ hM.1 (fun Q2 q2 => ?_)))
  · have c : C1 m h (hxn h n) := C1.rf
    have CC := C.hxn (n := n)
    rw [c.st]
    refine k_repair hst (c.mds hM) (c.mdl hL9) hN (fun z1 => q2 _ _ (Jn.thr (k := 1) R hB hD c CC Mf.rf eF0 (fun _ _ => rfl) ⟨rfl, rfl⟩ rfl (by decide))) (fun z1 z2 => absurd (z1) (h1)) (fun p2 k2 y1 y2 y3 y4 => absurd (vP y1 y2 k13) (h1))
  · have c : C1 m h (hxn h n) := C1.rf
    have CC := C.hxn (n := n)
    rw [c.st]
    refine k_repair hst (c.mds hM) (c.mdl hL9) hN (fun z1 => absurd (h1.1) (z1)) (fun z1 z2 => q2 _ _ (Jn.thr (k := 2) R hB hD c CC Mf.rf eF0 (fun _ _ => rfl) ⟨rfl, rfl⟩ rfl (by decide))) (fun p2 k2 y1 y2 y3 y4 => absurd (vR y3 (show k2 ≤ 2 by omega) (by decide)) (h1.2))
  · have c0 : C1 m h h := C1.rf
    rw [c0.wL.st]
    refine k_repair hst (c0.wL.mds hM) (c0.wL.mdl hL9) hN (fun z1 => absurd (vP e1 e2 k13) (z1)) (fun z1 z2 => absurd (vR e3 (show k1 ≤ 2 by omega) (by decide)) (z2)) (fun p2 k2 y1 y2 y3 y4 => ?_)
    obtain rfl := nJ e1 y1 (by omega) (by omega)
    obtain rfl := nJ e3 y3 (by omega) (by omega)
    exact q2 _ _ (Jn.ret R hB hD c0.wL C.wL Mf.rf eF0 (fun _ _ => rfl) ⟨rfl, rfl⟩ rfl hL_wL)
theorem j_order {l : Launch} (hst : l.stackTraces = false) {h : Hp} {x m o : Nat} {B D : Int} (R : RJ h x m o B D) (hB : B + 19980 ≤ 16000000) (hD : D + 180 ≤ 1000000) {a0 a1 : Int32} {Q : Option Value → Hp → Prop} (q : ∀ (k : Int32) (h1 : Hp), hs h1 m = (10, 21) → (∀ Q2 : Option Value → Hp → Prop, (∀ (v : Int32) (h2 : Hp), Jn x m o (B + 19980) (D + 180) k v.toInt64 h2 → Q2 (some (.int v)) h2) → CX9_order l [.ref m, .int a0, .int a1] h1 Q2 (fun _ _ => False)) → Q (some (.int k)) h1) : CL_order l [.ref x, .int a0, .int a1, .ref o] h Q (fun _ _ => False) := by

  have C := R.2.2.2.2.2.1
  have hM := R.2.2.2.1
  have hL9 := R.2.2.2.2.1
  obtain ⟨σ, c0, c1, c2, c3, c4, W, g⟩ := C.2.1.1
  have hN := g.wf
  have k8 : c0 ≤ 1000 := by have := hN.1.2; omega
  have k4 : c1 ≤ 1000 := by have := hN.2.1.2; omega
  have k12 : c2 ≤ 1000 := by have := hN.2.2.1.2; omega
  have k13 : c3 ≤ 1000 := by have := hN.2.2.2.1.2; omega
  have k14 : c4 ≤ 1000 := by have := hN.2.2.2.2.1.2; omega
  obtain ⟨r, er, r8⟩ := R.rr
  have dN : DIr (hI h (m + 1)) D := R.2.2.2.2.2.2.1.1
  have dI : DI (hI h (m + 1)) c0 D := dN c0 hN.1.1 hN.1.2
  refine eL_order hst (Nat.le_of_ble_eq_true rfl) (fun K => ?_)
  refine ⟨rfl, Nat.le_of_ble_eq_true rfl, C.s0, Nat.le_of_ble_eq_true rfl, Nat.le_of_ble_eq_true rfl, ?_⟩
  refine e_order hst C W g (fun h1 n hn => ⟨_, List.Mem.head _, fun q9 => thr_l (Nat.le_of_ble_eq_true rfl) (Nat.le_of_ble_eq_true rfl) (q 1 _ (hM.1) (fun Q2 q2 => ?_))⟩) (fun h1 n hn => ⟨_, List.Mem.tail _ (List.Mem.head _), fun q9 => thr_l (Nat.le_of_ble_eq_true rfl) (Nat.le_of_ble_eq_true rfl) (q 2 _ (hM.1) (fun Q2 q2 => ?_))⟩) (fun p k1 e1 e2 e3 e4 => ret_l R.2.2.1.1 (Nat.le_of_ble_eq_true rfl) (Nat.le_of_ble_eq_true rfl) (q 0 _ hM.1 (fun Q2 q2 => ?_)))
  · have c : C1 m h (hxn h n) := C1.rf
    have CC := C.hxn (n := n)
    rw [c.st]
    refine k_order hst (c.mds hM) (c.mdl hL9) hN (fun z1 => q2 _ _ (Jn.thr (k := 1) R hB hD c CC Mf.rf eF0 (fun _ _ => rfl) ⟨rfl, rfl⟩ rfl (by decide))) (fun z1 z2 => absurd (z1) (h1)) (fun p2 k2 y1 y2 y3 y4 => absurd (vP y1 y2 k14) (h1))
  · have c : C1 m h (hxn h n) := C1.rf
    have CC := C.hxn (n := n)
    rw [c.st]
    refine k_order hst (c.mds hM) (c.mdl hL9) hN (fun z1 => absurd (h1.1) (z1)) (fun z1 z2 => q2 _ _ (Jn.thr (k := 2) R hB hD c CC Mf.rf eF0 (fun _ _ => rfl) ⟨rfl, rfl⟩ rfl (by decide))) (fun p2 k2 y1 y2 y3 y4 => absurd (vR y3 (show k2 ≤ 2 by omega) (by decide)) (h1.2))
  · have c0 : C1 m h h := C1.rf
    rw [c0.wL.st]
    refine k_order hst (c0.wL.mds hM) (c0.wL.mdl hL9) hN (fun z1 => absurd (vP e1 e2 k14) (z1)) (fun z1 z2 => absurd (vR e3 (show k1 ≤ 2 by omega) (by decide)) (z2)) (fun p2 k2 y1 y2 y3 y4 => ?_)
    obtain rfl := nJ e1 y1 (by omega) (by omega)
    obtain rfl := nJ e3 y3 (by omega) (by omega)
    exact q2 _ _ (Jn.ret R hB hD c0.wL C.wL Mf.rf eF0 (fun _ _ => rfl) ⟨rfl, rfl⟩ rfl hL_wL)
theorem j_movement {l : Launch} (hst : l.stackTraces = false) {h : Hp} {x m o : Nat} {B D : Int} (R : RJ h x m o B D) (hB : B + 19980 ≤ 16000000) (hD : D + 180 ≤ 1000000) {a0 a1 : Int32} {Q : Option Value → Hp → Prop} (q : ∀ (k : Int32) (h1 : Hp), hs h1 m = (10, 21) → (∀ Q2 : Option Value → Hp → Prop, (∀ (v : Int32) (h2 : Hp), Jn x m o (B + 19980) (D + 180) k v.toInt64 h2 → Q2 (some (.int v)) h2) → CX9_movement l [.ref m, .int a0, .int a1] h1 Q2 (fun _ _ => False)) → Q (some (.int k)) h1) : CL_movement l [.ref x, .int a0, .int a1, .ref o] h Q (fun _ _ => False) := by

  have C := R.2.2.2.2.2.1
  have hM := R.2.2.2.1
  have hL9 := R.2.2.2.2.1
  obtain ⟨σ, c0, c1, c2, c3, c4, W, g⟩ := C.2.1.1
  have hN := g.wf
  have k8 : c0 ≤ 1000 := by have := hN.1.2; omega
  have k4 : c1 ≤ 1000 := by have := hN.2.1.2; omega
  have k12 : c2 ≤ 1000 := by have := hN.2.2.1.2; omega
  have k13 : c3 ≤ 1000 := by have := hN.2.2.2.1.2; omega
  have k14 : c4 ≤ 1000 := by have := hN.2.2.2.2.1.2; omega
  obtain ⟨r, er, r8⟩ := R.rr
  have dN : DIr (hI h (m + 1)) D := R.2.2.2.2.2.2.1.1
  have dI : DI (hI h (m + 1)) c0 D := dN c0 hN.1.1 hN.1.2
  refine eL_movement hst (Nat.le_of_ble_eq_true rfl) (fun K => ?_)
  refine ⟨rfl, Nat.le_of_ble_eq_true rfl, C.s0, Nat.le_of_ble_eq_true rfl, Nat.le_of_ble_eq_true rfl, ?_⟩
  refine e_movement hst C W g (fun h1 n hn => ⟨_, List.Mem.head _, fun q9 => thr_l (Nat.le_of_ble_eq_true rfl) (Nat.le_of_ble_eq_true rfl) (q 1 _ (hM.1) (fun Q2 q2 => ?_))⟩) (fun h1 n hn => ⟨_, List.Mem.tail _ (List.Mem.head _), fun q9 => thr_l (Nat.le_of_ble_eq_true rfl) (Nat.le_of_ble_eq_true rfl) (q 2 _ (hM.1) (fun Q2 q2 => ?_))⟩) (fun p k1 e1 e2 e3 e4 => ret_l R.2.2.1.1 (Nat.le_of_ble_eq_true rfl) (Nat.le_of_ble_eq_true rfl) (q 0 _ hM.1 (fun Q2 q2 => ?_)))
  · have c : C1 m h (hxn h n) := C1.rf
    have CC := C.hxn (n := n)
    rw [c.st]
    refine k_movement hst (c.mds hM) (c.mdl hL9) hN (fun z1 => q2 _ _ (Jn.thr (k := 1) R hB hD c CC Mf.rf eF0 (fun _ _ => rfl) ⟨rfl, rfl⟩ rfl (by decide))) (fun z1 z2 => absurd (z1) (h1)) (fun p2 k2 y1 y2 y3 y4 => absurd (vP y1 y2 k8) (h1))
  · have c : C1 m h (hxn h n) := C1.rf
    have CC := C.hxn (n := n)
    rw [c.st]
    refine k_movement hst (c.mds hM) (c.mdl hL9) hN (fun z1 => absurd (h1.1) (z1)) (fun z1 z2 => q2 _ _ (Jn.thr (k := 2) R hB hD c CC Mf.rf eF0 (fun _ _ => rfl) ⟨rfl, rfl⟩ rfl (by decide))) (fun p2 k2 y1 y2 y3 y4 => absurd (vR y3 (show k2 ≤ 7 by omega) (by decide)) (h1.2))
  · have c0 : C1 m h h := C1.rf
    rw [c0.wL.st]
    refine k_movement hst (c0.wL.mds hM) (c0.wL.mdl hL9) hN (fun z1 => absurd (vP e1 e2 k8) (z1)) (fun z1 z2 => absurd (vR e3 (show k1 ≤ 7 by omega) (by decide)) (z2)) (fun p2 k2 y1 y2 y3 y4 => ?_)
    obtain rfl := nJ e1 y1 (by omega) (by omega)
    obtain rfl := nJ e3 y3 (by omega) (by omega)
    exact q2 _ _ (Jn.ret R hB hD c0.wL C.wL Mf.rf eF0 (fun _ _ => rfl) ⟨rfl, rfl⟩ rfl hL_wL)
theorem j_wanted {l : Launch} (hst : l.stackTraces = false) {h : Hp} {x m o : Nat} {B D : Int} (R : RJ h x m o B D) (hB : B + 19980 ≤ 16000000) (hD : D + 180 ≤ 1000000) {a0 : Int32} {Q : Option Value → Hp → Prop} (q : ∀ (k : Int32) (h1 : Hp), hs h1 m = (10, 21) → (∀ Q2 : Option Value → Hp → Prop, (∀ (v : Int32) (h2 : Hp), Jn x m o (B + 19980) (D + 180) k v.toInt64 h2 → Q2 (some (.int v)) h2) → CX9_wanted l [.ref m, .int a0] h1 Q2 (fun _ _ => False)) → Q (some (.int k)) h1) : CL_wanted l [.ref x, .int a0, .ref o] h Q (fun _ _ => False) := by

  have C := R.2.2.2.2.2.1
  have hM := R.2.2.2.1
  have hL9 := R.2.2.2.2.1
  obtain ⟨σ, c0, c1, c2, c3, c4, W, g⟩ := C.2.1.1
  have hN := g.wf
  have k8 : c0 ≤ 1000 := by have := hN.1.2; omega
  have k4 : c1 ≤ 1000 := by have := hN.2.1.2; omega
  have k12 : c2 ≤ 1000 := by have := hN.2.2.1.2; omega
  have k13 : c3 ≤ 1000 := by have := hN.2.2.2.1.2; omega
  have k14 : c4 ≤ 1000 := by have := hN.2.2.2.2.1.2; omega
  obtain ⟨r, er, r8⟩ := R.rr
  have dN : DIr (hI h (m + 1)) D := R.2.2.2.2.2.2.1.1
  have dI : DI (hI h (m + 1)) c0 D := dN c0 hN.1.1 hN.1.2
  refine eL_wanted hst (Nat.le_of_ble_eq_true rfl) (fun K => ?_)
  refine ⟨rfl, Nat.le_of_ble_eq_true rfl, C.s0, Nat.le_of_ble_eq_true rfl, Nat.le_of_ble_eq_true rfl, ?_⟩
  refine e_wanted hst C W g (fun h1 n hn => ⟨_, List.Mem.head _, fun q9 => thr_l (Nat.le_of_ble_eq_true rfl) (Nat.le_of_ble_eq_true rfl) (q 1 _ (hM.1) (fun Q2 q2 => ?_))⟩) (fun p e1 e2 => ret_l R.2.2.1.1 (Nat.le_of_ble_eq_true rfl) (Nat.le_of_ble_eq_true rfl) (q 0 _ hM.1 (fun Q2 q2 => ?_)))
  · have c : C1 m h (hxn h n) := C1.rf
    have CC := C.hxn (n := n)
    rw [c.st]
    refine k_wanted hst (c.mds hM) (c.mdl hL9) hN (fun z1 => q2 _ _ (Jn.thr (k := 1) R hB hD c CC Mf.rf eF0 (fun _ _ => rfl) ⟨rfl, rfl⟩ rfl (by decide))) (fun p2 y1 y2 => absurd (vP y1 y2 k8) (h1))
  · have c0 : C1 m h h := C1.rf
    rw [c0.wL.st]
    refine k_wanted hst (c0.wL.mds hM) (c0.wL.mdl hL9) hN (fun z1 => absurd (vP e1 e2 k8) (z1)) (fun p2 y1 y2 => ?_)
    obtain rfl := nJ e1 y1 (by omega) (by omega)
    exact q2 _ _ (Jn.ret R hB hD c0.wL C.wL Mf.rf eF0 (fun _ _ => rfl) ⟨rfl, rfl⟩ rfl hL_wL)
theorem j_cancel {l : Launch} (hst : l.stackTraces = false) {h : Hp} {x m o : Nat} {B D : Int} (R : RJ h x m o B D) (hB : B + 19980 ≤ 16000000) (hD : D + 180 ≤ 1000000) {a0 : Int32} {Q : Option Value → Hp → Prop} (q : ∀ (k : Int32) (h1 : Hp), hs h1 m = (10, 21) → (∀ Q2 : Option Value → Hp → Prop, (∀ (v : Int32) (h2 : Hp), Jn x m o (B + 19980) (D + 180) k v.toInt64 h2 → Q2 (some (.int v)) h2) → CX9_cancel l [.ref m, .int a0] h1 Q2 (fun _ _ => False)) → Q (some (.int k)) h1) : CL_cancel l [.ref x, .int a0, .ref o] h Q (fun _ _ => False) := by

  have C := R.2.2.2.2.2.1
  have hM := R.2.2.2.1
  have hL9 := R.2.2.2.2.1
  obtain ⟨σ, c0, c1, c2, c3, c4, W, g⟩ := C.2.1.1
  have hN := g.wf
  have k8 : c0 ≤ 1000 := by have := hN.1.2; omega
  have k4 : c1 ≤ 1000 := by have := hN.2.1.2; omega
  have k12 : c2 ≤ 1000 := by have := hN.2.2.1.2; omega
  have k13 : c3 ≤ 1000 := by have := hN.2.2.2.1.2; omega
  have k14 : c4 ≤ 1000 := by have := hN.2.2.2.2.1.2; omega
  obtain ⟨r, er, r8⟩ := R.rr
  have dN : DIr (hI h (m + 1)) D := R.2.2.2.2.2.2.1.1
  have dI : DI (hI h (m + 1)) c0 D := dN c0 hN.1.1 hN.1.2
  refine eL_cancel hst (Nat.le_of_ble_eq_true rfl) (fun K => ?_)
  refine ⟨rfl, Nat.le_of_ble_eq_true rfl, C.s0, Nat.le_of_ble_eq_true rfl, Nat.le_of_ble_eq_true rfl, ?_⟩
  refine e_cancel hst C W g (fun h1 n hn => ⟨_, List.Mem.head _, fun q9 => thr_l (Nat.le_of_ble_eq_true rfl) (Nat.le_of_ble_eq_true rfl) (q 1 _ (hM.1) (fun Q2 q2 => ?_))⟩) (fun p c r' H' e1 e2 e3 er9 r9 C' X' => ret_l (R.hnL X').1 (Nat.le_of_ble_eq_true rfl) (Nat.le_of_ble_eq_true rfl) (q 0 _ (R.hnL X').2 (fun Q2 q2 => ?_)))
  · have c : C1 m h (hxn h n) := C1.rf
    have CC := C.hxn (n := n)
    rw [c.st]
    refine k_cancel hst (c.mds hM) (c.mdl hL9) hN er r8 (fun z1 => q2 _ _ (Jn.thr (k := 1) R hB hD c CC Mf.rf eF0 (fun _ _ => rfl) ⟨rfl, rfl⟩ rfl (by decide))) (fun p2 c9 y1 y2 y3 => absurd (vP y1 (show p2 < c2 by omega) k12) (h1))
  · have c0 : C1 m h H' := C1.of R.1 X'
    rw [c0.wL.st]
    refine k_cancel hst (c0.wL.mds hM) (c0.wL.mdl hL9) hN er r8 (fun z1 => absurd (vP e1 (show p < c2 by omega) k12) (z1)) (fun p2 c9 y1 y2 y3 => ?_)
    obtain rfl : c = c9 := by omega
    obtain rfl := nJ e1 y1 (by omega) (by omega)
    obtain rfl := nJ er9 er (by omega) (by omega)
    exact q2 _ _ (Jn.push R hB hD c0.wL er r8 C'.wL (by omega) Mf.rf eFp (fun _ _ => rfl) rfl (fw_di dN |>.le (by omega) hD) rfl hL_wL)
theorem j_advance {l : Launch} (hst : l.stackTraces = false) {h : Hp} {x m o : Nat} {B D : Int} (R : RJ h x m o B D) (hB : B + 19980 ≤ 16000000) (hD : D + 180 ≤ 1000000) {a0 : Int32} {Q : Option Value → Hp → Prop} (q : ∀ (k : Int32) (h1 : Hp), hs h1 m = (10, 21) → (∀ Q2 : Option Value → Hp → Prop, (∀ (v : Int32) (h2 : Hp), Jn x m o (B + 19980) (D + 180) k v.toInt64 h2 → Q2 (some (.int v)) h2) → CX9_advance l [.ref m, .int a0] h1 Q2 (fun _ _ => False)) → Q (some (.int k)) h1) : CL_advance l [.ref x, .int a0, .ref o] h Q (fun _ _ => False) := by

  have C := R.2.2.2.2.2.1
  have hM := R.2.2.2.1
  have hL9 := R.2.2.2.2.1
  obtain ⟨σ, c0, c1, c2, c3, c4, W, g⟩ := C.2.1.1
  have hN := g.wf
  have k8 : c0 ≤ 1000 := by have := hN.1.2; omega
  have k4 : c1 ≤ 1000 := by have := hN.2.1.2; omega
  have k12 : c2 ≤ 1000 := by have := hN.2.2.1.2; omega
  have k13 : c3 ≤ 1000 := by have := hN.2.2.2.1.2; omega
  have k14 : c4 ≤ 1000 := by have := hN.2.2.2.2.1.2; omega
  obtain ⟨r, er, r8⟩ := R.rr
  have dN : DIr (hI h (m + 1)) D := R.2.2.2.2.2.2.1.1
  have dI : DI (hI h (m + 1)) c0 D := dN c0 hN.1.1 hN.1.2
  refine eL_advance hst (Nat.le_of_ble_eq_true rfl) (fun K => ?_)
  refine ⟨rfl, Nat.le_of_ble_eq_true rfl, C.s0, Nat.le_of_ble_eq_true rfl, Nat.le_of_ble_eq_true rfl, ?_⟩
  refine e_advance hst C W g (fun h1 n hn => ⟨_, List.Mem.head _, fun q9 => thr_l (Nat.le_of_ble_eq_true rfl) (Nat.le_of_ble_eq_true rfl) (q 1 _ (hM.1) (fun Q2 q2 => ?_))⟩) (fun p r' H' e1 e2 e3 er9 r9 C' X' => ret_l (R.hnL X').1 (Nat.le_of_ble_eq_true rfl) (Nat.le_of_ble_eq_true rfl) (q 0 _ (R.hnL X').2 (fun Q2 q2 => ?_)))
  · have c : C1 m h (hxn h n) := C1.rf
    have CC := C.hxn (n := n)
    rw [c.st]
    refine k_advance hst (c.mds hM) (c.mdl hL9) hN er r8 (fun z1 => q2 _ _ (Jn.thr (k := 1) R hB hD c CC Mf.rf eF0 (fun _ _ => rfl) ⟨rfl, rfl⟩ rfl (by decide))) (fun p2 y1 y2 y3 => absurd (v1R y1 y2 y3 trivial) (h1))
  · have c0 : C1 m h H' := C1.of R.1 X'
    rw [c0.wL.st]
    refine k_advance hst (c0.wL.mds hM) (c0.wL.mdl hL9) hN er r8 (fun z1 => absurd (v1R e1 e2 e3 trivial) (z1)) (fun p2 y1 y2 y3 => ?_)
    obtain rfl := nJ e1 y1 (by omega) (by omega)
    obtain rfl := nJ er9 er (by omega) (by omega)
    exact q2 _ _ (Jn.push R hB hD c0.wL er r8 C'.wL (by omega) Mf.rf eFp (fun _ _ => rfl) rfl (days_di g dI e3 hD) rfl hL_wL)
end JA

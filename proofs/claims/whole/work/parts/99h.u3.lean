section JC
theorem j_request {l : Launch} (hst : l.stackTraces = false) {h : Hp} {x m o : Nat} {B D : Int} (R : RJ h x m o B D) (hB : B + 19980 ≤ 16000000) (hD : D + 180 ≤ 1000000) {a0 a1 : Int32} {Q : Option Value → Hp → Prop} (q : ∀ (k : Int32) (h1 : Hp), hs h1 m = (10, 21) → (∀ Q2 : Option Value → Hp → Prop, (∀ (v : Int32) (h2 : Hp), Jn x m o (B + 19980) (D + 180) k v.toInt64 h2 → Q2 (some (.int v)) h2) → CX9_request l [.ref m, .int a0, .int a1] h1 Q2 (fun _ _ => False)) → Q (some (.int k)) h1) : CL_request l [.ref x, .int a0, .int a1, .ref o] h Q (fun _ _ => False) := by

  have C := R.2.2.2.2.2.1
  have hM := R.2.2.2.1
  have hL9 := R.2.2.2.2.1
  obtain ⟨σ, c0, c1, c2, c3, c4, W, g⟩ := C.2.1.1
  have hN := g.wf
  have k8 : c0 ≤ 1000 := by have := hN.1.2; omega
  have k4 : c1 ≤ 1000 := by have := hN.2.1.2; omega
  have k12 : c2 ≤ 1000 := by have := hN.2.2.1.2; omega
  have k13 : c3 ≤ 1000 := by have := hN.2.2.2.1.2; omega
  have k14 : c4 ≤ 1000 := by have := hN.2.2.2.2.1.2; omega
  obtain ⟨r, er, r8⟩ := R.rr
  have dN : DIr (hI h (m + 1)) D := R.2.2.2.2.2.2.1.1
  have dI : DI (hI h (m + 1)) c0 D := dN c0 hN.1.1 hN.1.2
  refine eL_request hst (Nat.le_of_ble_eq_true rfl) (fun K => ?_)
  refine ⟨rfl, Nat.le_of_ble_eq_true rfl, C.s0, Nat.le_of_ble_eq_true rfl, Nat.le_of_ble_eq_true rfl, ?_⟩
  refine e_request hst C W g (by omega) (fun h1 n hn => ⟨_, List.Mem.head _, fun q9 => thr_l (Nat.le_of_ble_eq_true rfl) (Nat.le_of_ble_eq_true rfl) (q 1 _ (hM.1) (fun Q2 q2 => ?_))⟩) (fun h1 n hn => ⟨_, List.Mem.tail _ (List.Mem.head _), fun q9 => thr_l (Nat.le_of_ble_eq_true rfl) (Nat.le_of_ble_eq_true rfl) (q 2 _ (hM.1) (fun Q2 q2 => ?_))⟩) (fun p H' e1 e2 e3 e4 C' X' n hn => ⟨_, List.Mem.tail _ (List.Mem.tail _ (List.Mem.head _)), fun q9 => thr_l (Nat.le_of_ble_eq_true rfl) (Nat.le_of_ble_eq_true rfl) (q 3 _ ((R.hnL X').2) (fun Q2 q2 => ?_))⟩) (fun p r' H' e1 e2 e3 e4 e5 er9 r9 C' X' => ret_l (R.hnL X').1 (Nat.le_of_ble_eq_true rfl) (Nat.le_of_ble_eq_true rfl) (q 0 _ (R.hnL X').2 (fun Q2 q2 => ?_)))
  · have c : C1 m h (hxn h n) := C1.rf
    have CC := C.hxn (n := n)
    rw [c.st]
    refine k_request hst (c.mds hM) (c.mdl hL9) g er r8 (fun z1 => q2 _ _ (Jn.thr (k := 1) R hB hD c CC Mf.rf eF0 (fun _ _ => rfl) ⟨rfl, rfl⟩ rfl (by decide))) (fun z1 z2 => absurd (z1) (h1)) (fun p2 h' y1 y2 y3 y4 mf => absurd (vP y1 y2 k8) (h1)) (fun p2 h' y1 y2 y3 y4 mf => absurd (vP y1 y2 k8) (h1))
  · have c : C1 m h (hxn h n) := C1.rf
    have CC := C.hxn (n := n)
    rw [c.st]
    refine k_request hst (c.mds hM) (c.mdl hL9) g er r8 (fun z1 => absurd (h1.1) (z1)) (fun z1 z2 => q2 _ _ (Jn.thr (k := 2) R hB hD c CC Mf.rf eF0 (fun _ _ => rfl) ⟨rfl, rfl⟩ rfl (by decide))) (fun p2 h' y1 y2 y3 y4 mf => absurd (y3) (h1.2)) (fun p2 h' y1 y2 y3 y4 mf => absurd (y3) (h1.2))
  · have c : C1 m h (hxn H' n) := C1.of R.1 X'
    have CC := C'.hxn (n := n)
    rw [c.st]
    refine k_request hst (c.mds hM) (c.mdl hL9) g er r8 (fun z1 => absurd (vP e1 e2 k8) (z1)) (fun z1 z2 => absurd (e3) (z2)) (fun p2 h' y1 y2 y3 y4 mf => ?_) (fun p2 h' y1 y2 y3 y4 mf => absurd (by obtain rfl := nJ e1 y1 (by omega) (by omega); exact e4) y4)
    obtain rfl := nJ e1 y1 (by omega) (by omega)
    exact q2 _ _ (Jn.thr (k := 3) R hB hD c CC mf (fun k hk => by rcases hk with h9 | h9 | h9 | h9 | h9 | h9 | h9 | h9 <;> subst h9 <;> rfl) (fun _ _ => rfl) ⟨rfl, rfl⟩ rfl (by decide))
  · have c0 : C1 m h H' := C1.of R.1 X'
    rw [c0.wL.st]
    refine k_request hst (c0.wL.mds hM) (c0.wL.mdl hL9) g er r8 (fun z1 => absurd (vP e1 e2 k8) (z1)) (fun z1 z2 => absurd (e3) (z2)) (fun p2 h' y1 y2 y3 y4 mf => absurd (by obtain rfl := nJ e1 y1 (by omega) (by omega); exact y4) e4) (fun p2 h' y1 y2 y3 y4 mf => ?_)
    obtain rfl := nJ e1 y1 (by omega) (by omega)
    obtain rfl := nJ er9 er (by omega) (by omega)
    exact q2 _ _ (Jn.push R hB hD c0.wL er r8 C'.wL (by omega) mf eFp (fun _ _ => rfl) rfl (req_di hN dI e2 e5 |>.le (by omega) hD) rfl hL_wL)
theorem j_send {l : Launch} (hst : l.stackTraces = false) {h : Hp} {x m o : Nat} {B D : Int} (R : RJ h x m o B D) (hB : B + 19980 ≤ 16000000) (hD : D + 180 ≤ 1000000) {a0 a1 : Int32} {Q : Option Value → Hp → Prop} (q : ∀ (k : Int32) (h1 : Hp), hs h1 m = (10, 21) → (∀ Q2 : Option Value → Hp → Prop, (∀ (v : Int32) (h2 : Hp), Jn x m o (B + 19980) (D + 180) k v.toInt64 h2 → Q2 (some (.int v)) h2) → CX9_send l [.ref m, .int a0, .int a1] h1 Q2 (fun _ _ => False)) → Q (some (.int k)) h1) : CL_send l [.ref x, .int a0, .int a1, .ref o] h Q (fun _ _ => False) := by

  have C := R.2.2.2.2.2.1
  have hM := R.2.2.2.1
  have hL9 := R.2.2.2.2.1
  obtain ⟨σ, c0, c1, c2, c3, c4, W, g⟩ := C.2.1.1
  have hN := g.wf
  have k8 : c0 ≤ 1000 := by have := hN.1.2; omega
  have k4 : c1 ≤ 1000 := by have := hN.2.1.2; omega
  have k12 : c2 ≤ 1000 := by have := hN.2.2.1.2; omega
  have k13 : c3 ≤ 1000 := by have := hN.2.2.2.1.2; omega
  have k14 : c4 ≤ 1000 := by have := hN.2.2.2.2.1.2; omega
  obtain ⟨r, er, r8⟩ := R.rr
  have dN : DIr (hI h (m + 1)) D := R.2.2.2.2.2.2.1.1
  have dI : DI (hI h (m + 1)) c0 D := dN c0 hN.1.1 hN.1.2
  refine eL_send hst (Nat.le_of_ble_eq_true rfl) (fun K => ?_)
  refine ⟨rfl, Nat.le_of_ble_eq_true rfl, C.s0, Nat.le_of_ble_eq_true rfl, Nat.le_of_ble_eq_true rfl, ?_⟩
  refine e_send hst C W g (by omega) (fun h1 n hn => ⟨_, List.Mem.head _, fun q9 => thr_l (Nat.le_of_ble_eq_true rfl) (Nat.le_of_ble_eq_true rfl) (q 1 _ (hM.1) (fun Q2 q2 => ?_))⟩) (fun h1 n hn => ⟨_, List.Mem.tail _ (List.Mem.head _), fun q9 => thr_l (Nat.le_of_ble_eq_true rfl) (Nat.le_of_ble_eq_true rfl) (q 2 _ (hM.1) (fun Q2 q2 => ?_))⟩) (fun p H' e1 e2 e3 e4 C' X' n hn => ⟨_, List.Mem.tail _ (List.Mem.tail _ (List.Mem.head _)), fun q9 => thr_l (Nat.le_of_ble_eq_true rfl) (Nat.le_of_ble_eq_true rfl) (q 3 _ ((R.hnL X').2) (fun Q2 q2 => ?_))⟩) (fun p H' e1 e2 e3 e4 e5 C' X' n hn => ⟨_, List.Mem.tail _ (List.Mem.tail _ (List.Mem.tail _ (List.Mem.head _))), fun q9 => thr_l (Nat.le_of_ble_eq_true rfl) (Nat.le_of_ble_eq_true rfl) (q 4 _ ((R.hnL X').2) (fun Q2 q2 => ?_))⟩) (fun p r' H' e1 e2 e3 e4 e5 er9 r9 C' X' => ret_l (R.hnL X').1 (Nat.le_of_ble_eq_true rfl) (Nat.le_of_ble_eq_true rfl) (q 0 _ (R.hnL X').2 (fun Q2 q2 => ?_)))
  · have c : C1 m h (hxn h n) := C1.rf
    have CC := C.hxn (n := n)
    rw [c.st]
    refine k_send hst (c.mds hM) (c.mdl hL9) g er r8 (fun z1 => q2 _ _ (Jn.thr (k := 1) R hB hD c CC Mf.rf eF0 (fun _ _ => rfl) ⟨rfl, rfl⟩ rfl (by decide))) (fun z1 z2 => absurd (z1) (h1)) (fun p2 h' y1 y2 y3 y4 mf => absurd (vP y1 y2 k8) (h1)) (fun p2 h' y1 y2 y3 y4 y5 mf => absurd (vP y1 y2 k8) (h1)) (fun p2 h' y1 y2 y3 y4 y5 mf => absurd (vP y1 y2 k8) (h1)) (fun p hp => dI.ret hp)
  · have c : C1 m h (hxn h n) := C1.rf
    have CC := C.hxn (n := n)
    rw [c.st]
    refine k_send hst (c.mds hM) (c.mdl hL9) g er r8 (fun z1 => absurd (h1.1) (z1)) (fun z1 z2 => q2 _ _ (Jn.thr (k := 2) R hB hD c CC Mf.rf eF0 (fun _ _ => rfl) ⟨rfl, rfl⟩ rfl (by decide))) (fun p2 h' y1 y2 y3 y4 mf => absurd (y3) (h1.2)) (fun p2 h' y1 y2 y3 y4 y5 mf => absurd (y3) (h1.2)) (fun p2 h' y1 y2 y3 y4 y5 mf => absurd (y3) (h1.2)) (fun p hp => dI.ret hp)
  · have c : C1 m h (hxn H' n) := C1.of R.1 X'
    have CC := C'.hxn (n := n)
    rw [c.st]
    refine k_send hst (c.mds hM) (c.mdl hL9) g er r8 (fun z1 => absurd (vP e1 e2 k8) (z1)) (fun z1 z2 => absurd (e3) (z2)) (fun p2 h' y1 y2 y3 y4 mf => ?_) (fun p2 h' y1 y2 y3 y4 y5 mf => absurd (by obtain rfl := nJ e1 y1 (by omega) (by omega); exact e4) y4) (fun p2 h' y1 y2 y3 y4 y5 mf => absurd (by obtain rfl := nJ e1 y1 (by omega) (by omega); exact e4) y4) (fun p hp => dI.ret hp)
    obtain rfl := nJ e1 y1 (by omega) (by omega)
    exact q2 _ _ (Jn.thr (k := 3) R hB hD c CC mf (fun k hk => by rcases hk with h9 | h9 | h9 | h9 | h9 | h9 | h9 | h9 <;> subst h9 <;> rfl) (fun _ _ => rfl) ⟨rfl, rfl⟩ rfl (by decide))
  · have c : C1 m h (hxn H' n) := C1.of R.1 X'
    have CC := C'.hxn (n := n)
    rw [c.st]
    refine k_send hst (c.mds hM) (c.mdl hL9) g er r8 (fun z1 => absurd (vP e1 e2 k8) (z1)) (fun z1 z2 => absurd (e3) (z2)) (fun p2 h' y1 y2 y3 y4 mf => absurd (by obtain rfl := nJ e1 y1 (by omega) (by omega); exact y4) e4) (fun p2 h' y1 y2 y3 y4 y5 mf => ?_) (fun p2 h' y1 y2 y3 y4 y5 mf => absurd (e5) (fun z => absurd y5 (by omega))) (fun p hp => dI.ret hp)
    obtain rfl := nJ e1 y1 (by omega) (by omega)
    exact q2 _ _ (Jn.thr (k := 4) R hB hD c CC mf (fun k hk => by rcases hk with h9 | h9 | h9 | h9 | h9 | h9 | h9 | h9 <;> subst h9 <;> rfl) (fun _ _ => rfl) ⟨rfl, rfl⟩ rfl (by decide))
  · have c0 : C1 m h H' := C1.of R.1 X'
    rw [c0.wL.st]
    refine k_send hst (c0.wL.mds hM) (c0.wL.mdl hL9) g er r8 (fun z1 => absurd (vP e1 e2 k8) (z1)) (fun z1 z2 => absurd (e3) (z2)) (fun p2 h' y1 y2 y3 y4 mf => absurd (by obtain rfl := nJ e1 y1 (by omega) (by omega); exact y4) e4) (fun p2 h' y1 y2 y3 y4 y5 mf => absurd (y5) (fun z => absurd e5 (by omega))) (fun p2 h' y1 y2 y3 y4 y5 mf => ?_) (fun p hp => dI.ret hp)
    obtain rfl := nJ e1 y1 (by omega) (by omega)
    obtain rfl := nJ er9 er (by omega) (by omega)
    exact q2 _ _ (Jn.push R hB hD c0.wL er r8 C'.wL (by omega) mf eFp (fun _ _ => rfl) rfl (dN.z send_0 (fun j hj => send_z hj) |>.le (by omega) hD) rfl hL_wL)
theorem j_take {l : Launch} (hst : l.stackTraces = false) {h : Hp} {x m o : Nat} {B D : Int} (R : RJ h x m o B D) (hB : B + 19980 ≤ 16000000) (hD : D + 180 ≤ 1000000) {a0 : Int32} {Q : Option Value → Hp → Prop} (q : ∀ (k : Int32) (h1 : Hp), hs h1 m = (10, 21) → (∀ Q2 : Option Value → Hp → Prop, (∀ (v : Int32) (h2 : Hp), Jn x m o (B + 19980) (D + 180) k v.toInt64 h2 → Q2 (some (.int v)) h2) → CX9_take l [.ref m, .int a0] h1 Q2 (fun _ _ => False)) → Q (some (.int k)) h1) : CL_take l [.ref x, .int a0, .ref o] h Q (fun _ _ => False) := by

  have C := R.2.2.2.2.2.1
  have hM := R.2.2.2.1
  have hL9 := R.2.2.2.2.1
  obtain ⟨σ, c0, c1, c2, c3, c4, W, g⟩ := C.2.1.1
  have hN := g.wf
  have k8 : c0 ≤ 1000 := by have := hN.1.2; omega
  have k4 : c1 ≤ 1000 := by have := hN.2.1.2; omega
  have k12 : c2 ≤ 1000 := by have := hN.2.2.1.2; omega
  have k13 : c3 ≤ 1000 := by have := hN.2.2.2.1.2; omega
  have k14 : c4 ≤ 1000 := by have := hN.2.2.2.2.1.2; omega
  obtain ⟨r, er, r8⟩ := R.rr
  have dN : DIr (hI h (m + 1)) D := R.2.2.2.2.2.2.1.1
  have dI : DI (hI h (m + 1)) c0 D := dN c0 hN.1.1 hN.1.2
  refine eL_take hst (Nat.le_of_ble_eq_true rfl) (fun K => ?_)
  refine ⟨rfl, Nat.le_of_ble_eq_true rfl, C.s0, Nat.le_of_ble_eq_true rfl, Nat.le_of_ble_eq_true rfl, ?_⟩
  refine e_take hst C W g (fun h1 n hn => ⟨_, List.Mem.head _, fun q9 => thr_l (Nat.le_of_ble_eq_true rfl) (Nat.le_of_ble_eq_true rfl) (q 1 _ (hM.1) (fun Q2 q2 => ?_))⟩) (fun p p9 m9 H' e1 e2 e3 e4 e5 e6 e7 e8 C' X' n hn => ⟨_, List.Mem.tail _ (List.Mem.head _), fun q9 => thr_l (Nat.le_of_ble_eq_true rfl) (Nat.le_of_ble_eq_true rfl) (q 2 _ ((R.hnL X').2) (fun Q2 q2 => ?_))⟩) (fun p r' H' e1 e2 e3 er9 r9 C' X' => ret_l (R.hnL X').1 (Nat.le_of_ble_eq_true rfl) (Nat.le_of_ble_eq_true rfl) (q 0 _ (R.hnL X').2 (fun Q2 q2 => ?_)))
  · have c : C1 m h (hxn h n) := C1.rf
    have CC := C.hxn (n := n)
    rw [c.st]
    refine k_take hst (c.mds hM) (c.mdl hL9) g er r8 (fun z1 => q2 _ _ (Jn.thr (k := 1) R hB hD c CC Mf.rf eF0 (fun _ _ => rfl) ⟨rfl, rfl⟩ rfl (by decide))) (fun p2 h' N' y1 y2 y3 mf eN => absurd (vP y1 y2 k4) (h1)) (fun p2 h' y1 y2 y3 mf => absurd (vP y1 y2 k4) (h1)) (fun k hk hz => kt_ge hk g hz)
  · have c : C1 m h (hxn H' n) := C1.of R.1 X'
    have CC := C'.hxn (n := n)
    rw [c.st]
    refine k_take hst (c.mds hM) (c.mdl hL9) g er r8 (fun z1 => absurd (vP e1 e2 k4) (z1)) (fun p2 h' N' y1 y2 y3 mf eN => ?_) (fun p2 h' y1 y2 y3 mf => absurd (show (true : Bool) = false by obtain rfl := nJ e1 y1 (by omega) (by omega); exact y3.symm.trans e3) (by decide)) (fun k hk hz => kt_ge hk g hz)
    obtain rfl := nJ e1 y1 (by omega) (by omega)
    rw [← e4, ← e5] at CC
    exact q2 _ _ (Jn.thr (k := 2) R hB hD c CC mf (fun k hk => by rcases hk with h9 | h9 | h9 | h9 | h9 | h9 | h9 | h9 <;> subst h9 <;> rfl) eN ⟨rfl, rfl⟩ rfl (by decide))
  · have c0 : C1 m h H' := C1.of R.1 X'
    rw [c0.wL.st]
    refine k_take hst (c0.wL.mds hM) (c0.wL.mdl hL9) g er r8 (fun z1 => absurd (vP e1 e2 k4) (z1)) (fun p2 h' N' y1 y2 y3 mf eN => absurd (show (true : Bool) = false by obtain rfl := nJ e1 y1 (by omega) (by omega); exact e3.symm.trans y3) (by decide)) (fun p2 h' y1 y2 y3 mf => ?_) (fun k hk hz => kt_ge hk g hz)
    obtain rfl := nJ e1 y1 (by omega) (by omega)
    obtain rfl := nJ er9 er (by omega) (by omega)
    exact q2 _ _ (Jn.push R hB hD c0.wL er r8 C'.wL (by omega) mf eFp (fun _ _ => rfl) rfl (dN.z (kt_0 e2 g) (fun j hj => kt_z e2 g hj) |>.le (by omega) hD) rfl hL_wL)
theorem j_giveBackG {l : Launch} (hst : l.stackTraces = false) {h : Hp} {x m o : Nat} {B D : Int} (R : RJ h x m o B D) (hB : B + 19980 ≤ 16000000) (hD : D + 180 ≤ 1000000) {a0 a1 a2 : Int32} (hb : ¬ a2 = 0) {Q : Option Value → Hp → Prop} (q : ∀ (k : Int32) (h1 : Hp), hs h1 m = (10, 21) → (∀ Q2 : Option Value → Hp → Prop, (∀ (v : Int32) (h2 : Hp), Jn x m o (B + 19980) (D + 180) k v.toInt64 h2 → Q2 (some (.int v)) h2) → CX9_giveBack l [.ref m, .int a0, .int a1, .int a2] h1 Q2 (fun _ _ => False)) → Q (some (.int k)) h1) : CL_giveBack l [.ref x, .int a0, .int a1, .int a2, .ref o] h Q (fun _ _ => False) := by

  have C := R.2.2.2.2.2.1
  have hM := R.2.2.2.1
  have hL9 := R.2.2.2.2.1
  obtain ⟨σ, c0, c1, c2, c3, c4, W, g⟩ := C.2.1.1
  have hN := g.wf
  have k8 : c0 ≤ 1000 := by have := hN.1.2; omega
  have k4 : c1 ≤ 1000 := by have := hN.2.1.2; omega
  have k12 : c2 ≤ 1000 := by have := hN.2.2.1.2; omega
  have k13 : c3 ≤ 1000 := by have := hN.2.2.2.1.2; omega
  have k14 : c4 ≤ 1000 := by have := hN.2.2.2.2.1.2; omega
  obtain ⟨r, er, r8⟩ := R.rr
  have dN : DIr (hI h (m + 1)) D := R.2.2.2.2.2.2.1.1
  have dI : DI (hI h (m + 1)) c0 D := dN c0 hN.1.1 hN.1.2
  refine eL_giveBack hst (Nat.le_of_ble_eq_true rfl) (fun K => ?_)
  refine ⟨rfl, Nat.le_of_ble_eq_true rfl, C.s0, Nat.le_of_ble_eq_true rfl, Nat.le_of_ble_eq_true rfl, ?_⟩
  refine e_giveBackG hst C W g (by omega) hb (fun h1 n hn => ⟨_, List.Mem.head _, fun q9 => thr_l (Nat.le_of_ble_eq_true rfl) (Nat.le_of_ble_eq_true rfl) (q 1 _ (hM.1) (fun Q2 q2 => ?_))⟩) (fun h1 n hn => ⟨_, List.Mem.tail _ (List.Mem.head _), fun q9 => thr_l (Nat.le_of_ble_eq_true rfl) (Nat.le_of_ble_eq_true rfl) (q 2 _ (hM.1) (fun Q2 q2 => ?_))⟩) (fun p r' H' e1 e2 e3 er9 r9 C' X' => ret_l (R.hnL X').1 (Nat.le_of_ble_eq_true rfl) (Nat.le_of_ble_eq_true rfl) (q 0 _ (R.hnL X').2 (fun Q2 q2 => ?_)))
  · have c : C1 m h (hxn h n) := C1.rf
    have CC := C.hxn (n := n)
    rw [c.st]
    refine k_giveBackG hst (c.mds hM) (c.mdl hL9) hN er r8 hb (fun z1 => q2 _ _ (Jn.thr (k := 1) R hB hD c CC Mf.rf eF0 (fun _ _ => rfl) ⟨rfl, rfl⟩ rfl (by decide))) (fun z1 z2 => absurd (z1) (h1)) (fun p2 y1 y2 y3 => absurd (vP y1 y2 k8) (h1))
  · have c : C1 m h (hxn h n) := C1.rf
    have CC := C.hxn (n := n)
    rw [c.st]
    refine k_giveBackG hst (c.mds hM) (c.mdl hL9) hN er r8 hb (fun z1 => absurd (h1.1) (z1)) (fun z1 z2 => q2 _ _ (Jn.thr (k := 2) R hB hD c CC Mf.rf eF0 (fun _ _ => rfl) ⟨rfl, rfl⟩ rfl (by decide))) (fun p2 y1 y2 y3 => absurd (y3) (h1.2))
  · have c0 : C1 m h H' := C1.of R.1 X'
    rw [c0.wL.st]
    refine k_giveBackG hst (c0.wL.mds hM) (c0.wL.mdl hL9) hN er r8 hb (fun z1 => absurd (vP e1 e2 k8) (z1)) (fun z1 z2 => absurd (e3) (z2)) (fun p2 y1 y2 y3 => ?_)
    obtain rfl := nJ e1 y1 (by omega) (by omega)
    obtain rfl := nJ er9 er (by omega) (by omega)
    exact q2 _ _ (Jn.push R hB hD c0.wL er r8 C'.wL (by omega) Mf.rf eFp (fun _ _ => rfl) rfl (bkG_di g dI e2 e3 (by omega) |>.le (by omega) hD) rfl hL_wL)
theorem j_giveBackB {l : Launch} (hst : l.stackTraces = false) {h : Hp} {x m o : Nat} {B D : Int} (R : RJ h x m o B D) (hB : B + 19980 ≤ 16000000) (hD : D + 180 ≤ 1000000) {a0 a1 : Int32} {Q : Option Value → Hp → Prop} (q : ∀ (k : Int32) (h1 : Hp), hs h1 m = (10, 21) → (∀ Q2 : Option Value → Hp → Prop, (∀ (v : Int32) (h2 : Hp), Jn x m o (B + 19980) (D + 180) k v.toInt64 h2 → Q2 (some (.int v)) h2) → CX9_giveBack l [.ref m, .int a0, .int a1, .int 0] h1 Q2 (fun _ _ => False)) → Q (some (.int k)) h1) : CL_giveBack l [.ref x, .int a0, .int a1, .int 0, .ref o] h Q (fun _ _ => False) := by

  have C := R.2.2.2.2.2.1
  have hM := R.2.2.2.1
  have hL9 := R.2.2.2.2.1
  obtain ⟨σ, c0, c1, c2, c3, c4, W, g⟩ := C.2.1.1
  have hN := g.wf
  have k8 : c0 ≤ 1000 := by have := hN.1.2; omega
  have k4 : c1 ≤ 1000 := by have := hN.2.1.2; omega
  have k12 : c2 ≤ 1000 := by have := hN.2.2.1.2; omega
  have k13 : c3 ≤ 1000 := by have := hN.2.2.2.1.2; omega
  have k14 : c4 ≤ 1000 := by have := hN.2.2.2.2.1.2; omega
  obtain ⟨r, er, r8⟩ := R.rr
  have dN : DIr (hI h (m + 1)) D := R.2.2.2.2.2.2.1.1
  have dI : DI (hI h (m + 1)) c0 D := dN c0 hN.1.1 hN.1.2
  refine eL_giveBack hst (Nat.le_of_ble_eq_true rfl) (fun K => ?_)
  refine ⟨rfl, Nat.le_of_ble_eq_true rfl, C.s0, Nat.le_of_ble_eq_true rfl, Nat.le_of_ble_eq_true rfl, ?_⟩
  refine e_giveBackB hst C W g (fun h1 n hn => ⟨_, List.Mem.head _, fun q9 => thr_l (Nat.le_of_ble_eq_true rfl) (Nat.le_of_ble_eq_true rfl) (q 1 _ (hM.1) (fun Q2 q2 => ?_))⟩) (fun h1 n hn => ⟨_, List.Mem.tail _ (List.Mem.head _), fun q9 => thr_l (Nat.le_of_ble_eq_true rfl) (Nat.le_of_ble_eq_true rfl) (q 2 _ (hM.1) (fun Q2 q2 => ?_))⟩) (fun p r' H' e1 e2 e3 er9 r9 C' X' => ret_l (R.hnL X').1 (Nat.le_of_ble_eq_true rfl) (Nat.le_of_ble_eq_true rfl) (q 0 _ (R.hnL X').2 (fun Q2 q2 => ?_)))
  · have c : C1 m h (hxn h n) := C1.rf
    have CC := C.hxn (n := n)
    rw [c.st]
    refine k_giveBackB hst (c.mds hM) (c.mdl hL9) hN er r8 (fun z1 => q2 _ _ (Jn.thr (k := 1) R hB hD c CC Mf.rf eF0 (fun _ _ => rfl) ⟨rfl, rfl⟩ rfl (by decide))) (fun z1 z2 => absurd (z1) (h1)) (fun p2 y1 y2 y3 => absurd (vP y1 y2 k8) (h1))
  · have c : C1 m h (hxn h n) := C1.rf
    have CC := C.hxn (n := n)
    rw [c.st]
    refine k_giveBackB hst (c.mds hM) (c.mdl hL9) hN er r8 (fun z1 => absurd (h1.1) (z1)) (fun z1 z2 => q2 _ _ (Jn.thr (k := 2) R hB hD c CC Mf.rf eF0 (fun _ _ => rfl) ⟨rfl, rfl⟩ rfl (by decide))) (fun p2 y1 y2 y3 => absurd (y3) (h1.2))
  · have c0 : C1 m h H' := C1.of R.1 X'
    rw [c0.wL.st]
    refine k_giveBackB hst (c0.wL.mds hM) (c0.wL.mdl hL9) hN er r8 (fun z1 => absurd (vP e1 e2 k8) (z1)) (fun z1 z2 => absurd (e3) (z2)) (fun p2 y1 y2 y3 => ?_)
    obtain rfl := nJ e1 y1 (by omega) (by omega)
    obtain rfl := nJ er9 er (by omega) (by omega)
    exact q2 _ _ (Jn.push R hB hD c0.wL er r8 C'.wL (by omega) Mf.rf eFp (fun _ _ => rfl) rfl (dN.z (bkB_o ⟨by omega, by omega⟩) (fun j hj => bkB_z hj) |>.le (by omega) hD) rfl hL_wL)
theorem j_giveBack {l : Launch} (hst : l.stackTraces = false) {h : Hp} {x m o : Nat} {B D : Int} (R : RJ h x m o B D) (hB : B + 19980 ≤ 16000000) (hD : D + 180 ≤ 1000000) {a0 a1 a2 : Int32} {Q : Option Value → Hp → Prop} (q : ∀ (k : Int32) (h1 : Hp), hs h1 m = (10, 21) → (∀ Q2 : Option Value → Hp → Prop, (∀ (v : Int32) (h2 : Hp), Jn x m o (B + 19980) (D + 180) k v.toInt64 h2 → Q2 (some (.int v)) h2) → CX9_giveBack l [.ref m, .int a0, .int a1, .int a2] h1 Q2 (fun _ _ => False)) → Q (some (.int k)) h1) : CL_giveBack l [.ref x, .int a0, .int a1, .int a2, .ref o] h Q (fun _ _ => False) := by
  by_cases hb : a2 = 0
  · subst hb
    exact j_giveBackB hst R hB hD q
  · exact j_giveBackG hst R hB hD hb q
end JC

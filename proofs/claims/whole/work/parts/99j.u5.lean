section U5
theorem j_read {l : Launch} (hst : l.stackTraces = false) {h : Hp} {x m o : Nat} {B D : Int} (R : RJ h x m o B D) (hB : B + 19980 ≤ 16000000) (hD : D + 180 ≤ 1000000) {Q : Option Value → Hp → Prop} (q : ∀ (k : Int32) (h1 : Hp), hs h1 m = (10, 21) → (∀ Q2 : Option Value → Hp → Prop, (∀ (v : Int32) (h2 : Hp), Jn x m o (B + 19980) (D + 180) k v.toInt64 h2 → Q2 (some (.int v)) h2) → CX9_read l [.ref m] h1 Q2 (fun _ _ => False)) → Q (some (.int k)) h1) : CL_read l [.ref x, .ref o] h Q (fun _ _ => False) := by
  have C := R.2.2.2.2.2.1
  have hM := R.2.2.2.1
  have hL9 := R.2.2.2.2.1
  obtain ⟨σ, c0, c1, c2, c3, c4, W, g⟩ := C.2.1.1
  have hN := g.wf
  have k8 : c0 ≤ 1000 := by have := hN.1.2; omega
  obtain ⟨r, er, r8⟩ := R.rr
  have dN : DIr (hI h (m + 1)) D := R.2.2.2.2.2.2.1.1
  have dS := R.2.2.2.2.2.2.1.2.1
  have dH := R.2.2.2.2.2.2.1.2.2
  have dI : DI (hI h (m + 1)) c0 D := dN c0 hN.1.1 hN.1.2
  refine eL_read hst (Nat.le_of_ble_eq_true rfl) (fun K => ?_)
  refine ⟨rfl, Nat.le_of_ble_eq_true rfl, C.s0, Nat.le_of_ble_eq_true rfl, Nat.le_of_ble_eq_true rfl, ?_⟩
  obtain ⟨t9, t60, et, -, -⟩ := C.2.2.2.2.2.1
  refine e_read hst C W g hB et t60 (fun j H' e1 C' X' n hn => ⟨_, List.Mem.head _, fun q9 => thr_l (Nat.le_of_ble_eq_true rfl) (Nat.le_of_ble_eq_true rfl) (q 1 _ (R.hnL X').2 (fun Q2 q2 => ?_))⟩) (fun es i Mi ei H' e1 e2 C' X' n hn => ⟨_, List.Mem.tail _ (List.Mem.head _), fun q9 => thr_l (Nat.le_of_ble_eq_true rfl) (Nat.le_of_ble_eq_true rfl) (q 2 _ (R.hnL X').2 (fun Q2 q2 => ?_))⟩) (fun es M r' H' e1 e2 er9 r9 C' X' => ret_l (R.hnL X').1 (Nat.le_of_ble_eq_true rfl) (Nat.le_of_ble_eq_true rfl) (q 0 _ (R.hnL X').2 (fun Q2 q2 => ?_)))
  · have c : C1 m h (hxn H' n) := C1.of R.1 X'
    have c22 : hI (hxn H' n) (m + 22) = hI h (m + 22) := (c.2 _ (by omega)).1
    rw [c.st]
    refine k_read hst (c.mds hM) (c.mdl hL9) et t60 g dI hB hD er r8 (fun j2 F' y1 eF => ?_) (fun es2 i2 Mi2 ei2 h' F' N' y1 y2 mf eN eF => ?_) (fun es2 M2 h' F' y1 y2 mf eF => ?_)
    · rw [c22, e1] at y1
      obtain rfl : j = j2 := Sum.inr.inj y1
      exact q2 _ _ (Jn.thr (k := 1) R hB hD c C'.hxn Mf.rf (fun k hk => (eF k (by omega) (by omega)).trans (by revert k hk; exact (fun k hk => by rcases hk with h9 | h9 | h9 | h9 | h9 | h9 | h9 | h9 <;> subst h9 <;> rfl))) (fun _ _ => rfl) ⟨rfl, rfl⟩ ((eF 0 (by decide) (by decide)).trans rfl) (by decide))
    · rw [c22, e1] at y1
      cases y1
    · rw [c22, e1] at y1
      cases y1
  · have c : C1 m h (hxn H' n) := C1.of R.1 X'
    have c22 : hI (hxn H' n) (m + 22) = hI h (m + 22) := (c.2 _ (by omega)).1
    rw [c.st]
    refine k_read hst (c.mds hM) (c.mdl hL9) et t60 g dI hB hD er r8 (fun j2 F' y1 eF => ?_) (fun es2 i2 Mi2 ei2 h' F' N' y1 y2 mf eN eF => ?_) (fun es2 M2 h' F' y1 y2 mf eF => ?_)
    · rw [c22, e1] at y1
      cases y1
    · rw [c22, e1] at y1
      obtain rfl : es = es2 := Sum.inl.inj y1
      have y3 := Sum.inr.inj (e2.symm.trans y2)
      cases y3
      refine q2 _ _ (Jn.thr (k := 2) R hB hD c C'.hxn mf (fun k hk => (eF k (by omega) (by omega) (by omega) (by omega)).trans ?_) eN ⟨?_, ?_⟩ ((eF 0 (by decide) (by decide) (by decide) (by decide)).trans rfl) (by decide))
      · by_cases z : k = 19
        · subst z; rw [pk_us, pk_us]
        · rw [pk_un z, pk_un z, pk_un (by omega)]
          by_cases y : k = 16
          · subst y; rw [pk_us, enF_o (by decide) (by decide) (by decide), pk_us]
          · rw [pk_un y]
            exact enF_c (by rw [pk_un y, pk_un (by omega)])
      · rw [pk_un (by decide), enF_o (by decide) (by decide) (by decide), pk_un (by decide)]
      · rw [pk_un (by decide), enF_o (by decide) (by decide) (by decide), pk_un (by decide)]
    · rw [c22, e1] at y1
      obtain rfl : es = es2 := Sum.inl.inj y1
      exact absurd (e2.symm.trans y2) (fun z => by cases z)
  · have c0 : C1 m h H' := C1.of R.1 X'
    have c22 : hI (wL H' o 0 (Int32.toInt64 (nI es.length))) (m + 22) = hI h (m + 22) := (c0.2 _ (by omega)).1
    rw [c0.wL.st]
    refine k_read hst (c0.wL.mds hM) (c0.wL.mdl hL9) et t60 g dI hB hD er r8 (fun j2 F' y1 eF => ?_) (fun es2 i2 Mi2 ei2 h' F' N' y1 y2 mf eN eF => ?_) (fun es2 M2 h' F' y1 y2 mf eF => ?_)
    · rw [c22, e1] at y1
      cases y1
    · rw [c22, e1] at y1
      obtain rfl : es = es2 := Sum.inl.inj y1
      exact absurd (e2.symm.trans y2) (fun z => by cases z)
    · rw [c22, e1] at y1
      obtain rfl : es = es2 := Sum.inl.inj y1
      obtain rfl : M = M2 := Sum.inl.inj (e2.symm.trans y2)
      obtain rfl := nJ er9 er (by omega) (by omega)
      have hl := rd_len t60 e1
      obtain ⟨⟨x2, x3, x4, g9⟩, d9⟩ := run_di es g dI (pg_en 61 0 es e1) e2 (by omega) (by omega)
      have dM : DIr M (D + 180) := DIr.of g9.wf.1.1 g9.wf.1.2 (d9.le (by omega) hD)
      exact q2 _ _ (Jn.push R hB hD c0.wL er r8 C'.wL (by omega) mf (fun k hk => (eF k (by omega) (by omega)).trans (by revert k hk; exact (fun k hk => by rcases hk with h9 | h9 | h9 | h9 | h9 | h9 | h9 | h9 <;> subst h9 <;> rfl))) (fun _ _ => rfl) rfl dM ((eF 0 (by decide) (by decide)).trans rfl) hL_wL)
theorem j_clear {l : Launch} (hst : l.stackTraces = false) {h : Hp} {x m o : Nat} {B D : Int} (R : RJ h x m o B D) (hB : B + 19980 ≤ 16000000) (hD0 : D + 180 ≤ 1000000) {Q : Option Value → Hp → Prop} (q : ∀ (k : Int32) (h1 : Hp), hs h1 m = (10, 21) → (∀ Q2 : Option Value → Hp → Prop, (∀ h2 : Hp, RJ h2 x m o (B + 19980) (D + 180) → Q2 (some (.int k)) h2) → CX9_clear l [.ref m] h1 Q2 (fun _ _ => False)) → Q (some (.int k)) h1) : CX8_clear l [.ref x] h Q (fun _ _ => False) := by
  have C := R.2.2.2.2.2.1
  have hM := R.2.2.2.1
  have hL9 := R.2.2.2.2.1
  obtain ⟨σ, c0, c1, c2, c3, c4, W, g⟩ := C.2.1.1
  have hN := g.wf
  have k8 : c0 ≤ 1000 := by have := hN.1.2; omega
  obtain ⟨r, er, r8⟩ := R.rr
  have dN : DIr (hI h (m + 1)) D := R.2.2.2.2.2.2.1.1
  have dS := R.2.2.2.2.2.2.1.2.1
  have dH := R.2.2.2.2.2.2.1.2.2
  have dI : DI (hI h (m + 1)) c0 D := dN c0 hN.1.1 hN.1.2
  refine e_clear hst C W g (fun H' C' X' => q _ _ (R.hnL X').2 (fun Q2 q2 => ?_))
  have c0 : C1 m h H' := C1.of R.1 X'
  rw [c0.st]
  refine k_clear hst (c0.mds hM) (c0.mdl hL9) hN (fun N' e9 => q2 _ (RJ.up (R.set c0 C' Mg.rf (fun _ _ => rfl) (eFp (v := 0)) (fun j hj => e9 j hj) (fun j hj => congrFun (c0.2 (m + 2) (by omega)).1 j) ?_ (fun z => dS z) (fun r k z1 z2 z3 => ?_)) hB hD0))
  · intro c hc c8
    have : c = 0 := nIj (hc.symm.trans rfl) (by omega) (by decide)
    subst this
    have hD9 := dI.2.2
    have hD8 : 0 ≤ D := by have := dI.1; omega
    exact ⟨⟨by decide, hD8⟩, fun p hp => absurd hp (Nat.not_lt_zero p), hD9⟩
  · have := nIj (z1.symm.trans (show upd (hI h m) 5 0 5 = nI 0 from pk_us)) (by omega) (by decide)
    omega
theorem j_audit {l : Launch} (hst : l.stackTraces = false) {h : Hp} {x m o : Nat} {B D : Int} (R : RJ h x m o B D) (hB : B + 19980 ≤ 16000000) (hD0 : D + 180 ≤ 1000000) {Q : Option Value → Hp → Prop} (q : ∀ (k : Int32) (h1 : Hp), hs h1 m = (10, 21) → (∀ Q2 : Option Value → Hp → Prop, (∀ h2 : Hp, RJ h2 x m o (B + 19980) (D + 180) → Q2 (some (.int k)) h2) → CX9_audit l [.ref m] h1 Q2 (fun _ _ => False)) → Q (some (.int k)) h1) : CX8_audit l [.ref x] h Q (fun _ _ => False) := by
  have C := R.2.2.2.2.2.1
  have hM := R.2.2.2.1
  have hL9 := R.2.2.2.2.1
  obtain ⟨σ, c0, c1, c2, c3, c4, W, g⟩ := C.2.1.1
  have hN := g.wf
  have k8 : c0 ≤ 1000 := by have := hN.1.2; omega
  obtain ⟨r, er, r8⟩ := R.rr
  have dN : DIr (hI h (m + 1)) D := R.2.2.2.2.2.2.1.1
  have dS := R.2.2.2.2.2.2.1.2.1
  have dH := R.2.2.2.2.2.2.1.2.2
  have dI : DI (hI h (m + 1)) c0 D := dN c0 hN.1.1 hN.1.2
  refine e_audit hst C W g (q _ _ hM.1 (fun Q2 q2 => ?_))
  have c0 : C1 m h h := C1.rf
  rw [c0.st]
  exact k_audit hst (c0.mds hM) (c0.mdl hL9) hN (q2 _ (RJ.up (R.same c0 C Mf.rf eF0 (fun _ _ => rfl) ⟨rfl, rfl⟩) hB hD0))
theorem j_save {l : Launch} (hst : l.stackTraces = false) {h : Hp} {x m o : Nat} {B D : Int} (R : RJ h x m o B D) (hB : B + 19980 ≤ 16000000) (hD0 : D + 180 ≤ 1000000) {Q : Option Value → Hp → Prop} (q : ∀ (k : Int32) (h1 : Hp), hs h1 m = (10, 21) → (∀ Q2 : Option Value → Hp → Prop, (∀ h2 : Hp, RJ h2 x m o (B + 19980) (D + 180) → Q2 (some (.int k)) h2) → CX9_save l [.ref m] h1 Q2 (fun _ _ => False)) → Q (some (.int k)) h1) : CX8_save l [.ref x] h Q (fun _ _ => False) := by
  have C := R.2.2.2.2.2.1
  have hM := R.2.2.2.1
  have hL9 := R.2.2.2.2.1
  obtain ⟨σ, c0, c1, c2, c3, c4, W, g⟩ := C.2.1.1
  have hN := g.wf
  have k8 : c0 ≤ 1000 := by have := hN.1.2; omega
  obtain ⟨r, er, r8⟩ := R.rr
  have dN : DIr (hI h (m + 1)) D := R.2.2.2.2.2.2.1.1
  have dS := R.2.2.2.2.2.2.1.2.1
  have dH := R.2.2.2.2.2.2.1.2.2
  have dI : DI (hI h (m + 1)) c0 D := dN c0 hN.1.1 hN.1.2
  refine e_save hst C (fun H' C' X' => q _ _ (R.hnL X').2 (fun Q2 q2 => ?_))
  have c0 : C1 m h H' := C1.of R.1 X'
  rw [c0.st]
  refine k_save hst (c0.mds hM) (c0.mdl hL9) hN (q2 _ (RJ.up (R.set c0 C' (Mg.row (by omega) (by omega)) (fun a ha => hI_sRow_ne (by omega)) (fun k hk => ?_) (fun _ _ => rfl) (fun j hj => by rw [hI_sRow, cpr_lt hj]) dN (fun _ => dN) (fun r k z1 z2 z3 => dH r k z1 z2 z3)) hB hD0))
  revert k hk
  exact (fun k hk => by rcases hk with h9 | h9 | h9 | h9 | h9 | h9 | h9 | h9 <;> subst h9 <;> rfl)
theorem j_service {l : Launch} (hst : l.stackTraces = false) {h : Hp} {x m o : Nat} {B D : Int} (R : RJ h x m o B D) (hB : B + 19980 ≤ 16000000) (hD0 : D + 180 ≤ 1000000) {a0 : Int32} {Q : Option Value → Hp → Prop} (q : ∀ (k : Int32) (h1 : Hp), hs h1 m = (10, 21) → (∀ Q2 : Option Value → Hp → Prop, (∀ (v : UInt32) (h2 : Hp), RJ h2 x m o (B + 19980) (D + 180) → hI h2 m 0 = k → (k = 0 → hD h2 (o + 1) 0 = FP.f2d v ∧ FP.Core.val64 (FP.f2d v) ≠ .nan) → Q2 (some (.float v)) h2) → CX9_service l [.ref m, .int a0] h1 Q2 (fun _ _ => False)) → Q (some (.int k)) h1) : CL_service l [.ref x, .int a0, .ref (o + 1)] h Q (fun _ _ => False) := by
  have C := R.2.2.2.2.2.1
  have hM := R.2.2.2.1
  have hL9 := R.2.2.2.2.1
  obtain ⟨σ, c0, c1, c2, c3, c4, W, g⟩ := C.2.1.1
  have hN := g.wf
  have k8 : c0 ≤ 1000 := by have := hN.1.2; omega
  obtain ⟨r, er, r8⟩ := R.rr
  have dN : DIr (hI h (m + 1)) D := R.2.2.2.2.2.2.1.1
  have dS := R.2.2.2.2.2.2.1.2.1
  have dH := R.2.2.2.2.2.2.1.2.2
  have dI : DI (hI h (m + 1)) c0 D := dN c0 hN.1.1 hN.1.2
  refine eL_service hst (Nat.le_of_ble_eq_true rfl) (fun K => ?_)
  refine ⟨rfl, Nat.le_of_ble_eq_true rfl, C.s0, Nat.le_of_ble_eq_true rfl, Nat.le_of_ble_eq_true rfl, ?_⟩
  refine e_service hst C W g (fun h1 n hn => ⟨_, List.Mem.head _, fun q9 => thr_l (Nat.le_of_ble_eq_true rfl) (Nat.le_of_ble_eq_true rfl) (q 1 _ hM.1 (fun Q2 q2 => ?_))⟩) (fun ⟨p, w1, w2, w3⟩ n hn => ⟨_, List.Mem.tail _ (List.Mem.head _), fun q9 => thr_l (Nat.le_of_ble_eq_true rfl) (Nat.le_of_ble_eq_true rfl) (q 2 _ hM.1 (fun Q2 q2 => ?_))⟩) (fun p e1 e2 e3 => ?_)
  · have c : C1 m h (hxn h n) := C1.rf
    rw [c.st]
    refine k_service hst (c.mds hM) (c.mdl hL9) g (fun z1 => q2 _ _ (RJ.up (R.same c C.hxn Mf.rf eF0 (fun _ _ => rfl) ⟨rfl, rfl⟩) hB hD0) (by rw [st_F]; exact pk_us) (fun z => absurd z (by decide))) (fun p y1 y2 y3 => absurd (vP y1 y2 k8) h1) (fun p y1 y2 y3 => absurd (vP y1 y2 k8) h1)
  · have c : C1 m h (hxn h n) := C1.rf
    rw [c.st]
    refine k_service hst (c.mds hM) (c.mdl hL9) g (fun z1 => absurd (vP w1 w2 k8) z1) (fun p9 y1 y2 y3 => q2 _ _ (RJ.up (R.same c C.hxn Mf.rf eF0 (fun _ _ => rfl) ⟨rfl, rfl⟩) hB hD0) (by rw [st_F]; exact pk_us) (fun z => absurd z (by decide))) (fun p9 y1 y2 y3 => absurd (by obtain rfl := nJ w1 y1 (by omega) (by omega); exact w3) y3)
  · have hv : FP.Core.val64 (FP.f2d (s_sh (hI h (m + 1)) p)) ≠ .nan := (sm_f2d (sh_ok g e2 e3)).nn
    have ho := R.2.2.1.2
    refine ⟨vf_n64_of hv, congrArg Prod.fst ho, by rw [ho]; exact nI_in (c := 0) (by decide) (by decide), Nat.le_of_ble_eq_true rfl, Nat.le_of_ble_eq_true rfl, q 0 _ hM.1 (fun Q2 q2 => ?_)⟩
    have c0 : C1 m h h := C1.rf
    rw [c0.wD.st]
    refine k_service hst (c0.wD.mds hM) (c0.wD.mdl hL9) g (fun z1 => absurd (vP e1 e2 k8) z1) (fun p9 y1 y2 y3 => absurd y3 (by obtain rfl := nJ e1 y1 (by omega) (by omega); exact e3)) (fun p9 y1 y2 y3 => ?_)
    obtain rfl := nJ e1 y1 (by omega) (by omega)
    exact q2 _ _ (RJ.up (R.same c0.wD C.wD Mf.rf eF0 (fun _ _ => rfl) ⟨rfl, rfl⟩) hB hD0) (by rw [st_F]; exact pk_us) (fun _ => ⟨hD_wD, hv⟩)
theorem j_averageService {l : Launch} (hst : l.stackTraces = false) {h : Hp} {x m o : Nat} {B D : Int} (R : RJ h x m o B D) (hB : B + 19980 ≤ 16000000) (hD0 : D + 180 ≤ 1000000) {Q : Option Value → Hp → Prop} (q : ∀ (k : Int32) (h1 : Hp), hs h1 m = (10, 21) → (∀ Q2 : Option Value → Hp → Prop, (∀ (v : UInt64) (h2 : Hp), RJ h2 x m o (B + 19980) (D + 180) → hI h2 m 0 = k → (k = 0 → hD h2 (o + 1) 0 = v ∧ FP.Core.val64 v ≠ .nan) → Q2 (some (.double v)) h2) → CX9_averageService l [.ref m] h1 Q2 (fun _ _ => False)) → Q (some (.int k)) h1) : CL_averageService l [.ref x, .ref (o + 1)] h Q (fun _ _ => False) := by
  have C := R.2.2.2.2.2.1
  have hM := R.2.2.2.1
  have hL9 := R.2.2.2.2.1
  obtain ⟨σ, c0, c1, c2, c3, c4, W, g⟩ := C.2.1.1
  have hN := g.wf
  have k8 : c0 ≤ 1000 := by have := hN.1.2; omega
  obtain ⟨r, er, r8⟩ := R.rr
  have dN : DIr (hI h (m + 1)) D := R.2.2.2.2.2.2.1.1
  have dS := R.2.2.2.2.2.2.1.2.1
  have dH := R.2.2.2.2.2.2.1.2.2
  have dI : DI (hI h (m + 1)) c0 D := dN c0 hN.1.1 hN.1.2
  refine eL_averageService hst (Nat.le_of_ble_eq_true rfl) (fun K => ?_)
  refine ⟨rfl, Nat.le_of_ble_eq_true rfl, C.s0, Nat.le_of_ble_eq_true rfl, Nat.le_of_ble_eq_true rfl, ?_⟩
  refine e_averageService hst C W g (fun h1 n hn => ⟨_, List.Mem.head _, fun q9 => thr_l (Nat.le_of_ble_eq_true rfl) (Nat.le_of_ble_eq_true rfl) (q 1 _ hM.1 (fun Q2 q2 => ?_))⟩) (fun e1 => ?_)
  · have c : C1 m h (hxn h n) := C1.rf
    rw [c.st]
    exact k_averageService hst (c.mds hM) (c.mdl hL9) g (fun z1 => q2 _ _ (RJ.up (R.same c C.hxn Mf.rf eF0 (fun _ _ => rfl) ⟨rfl, rfl⟩) hB hD0) (by rw [st_F]; exact pk_us) (fun z => absurd z (by decide))) (fun y1 => absurd h1 (by omega))
  · have hv : FP.Core.val64 (FP.ddiv (s_sum (hI h (m + 1)) c0) (FP.i2d (nI (s_cnt (hI h (m + 1)) c0)))) ≠ .nan := (avg_ok g e1).nn
    have ho := R.2.2.1.2
    refine ⟨congrArg Prod.fst ho, by rw [ho]; exact nI_in (c := 0) (by decide) (by decide), Nat.le_of_ble_eq_true rfl, Nat.le_of_ble_eq_true rfl, q 0 _ hM.1 (fun Q2 q2 => ?_)⟩
    have c9 : C1 m h h := C1.rf
    rw [c9.wD.st]
    exact k_averageService hst (c9.wD.mds hM) (c9.wD.mdl hL9) g (fun z1 => absurd z1 (by omega)) (fun y1 => q2 _ _ (RJ.up (R.same c9.wD C.wD Mf.rf eF0 (fun _ _ => rfl) ⟨rfl, rfl⟩) hB hD0) (by rw [st_F]; exact pk_us) (fun _ => ⟨hD_wD, hv⟩))
theorem j_averageBits {l : Launch} (hst : l.stackTraces = false) {h : Hp} {x m o : Nat} {B D : Int} (R : RJ h x m o B D) (hB : B + 19980 ≤ 16000000) (hD0 : D + 180 ≤ 1000000) {Q : Option Value → Hp → Prop} (q : ∀ (k : Int32) (h1 : Hp), hs h1 m = (10, 21) → (∀ Q2 : Option Value → Hp → Prop, (∀ (v : Int64) (h2 : Hp), Jn x m o (B + 19980) (D + 180) k v h2 → Q2 (some (.long v)) h2) → CX9_averageBits l [.ref m] h1 Q2 (fun _ _ => False)) → Q (some (.int k)) h1) : CL_averageBits l [.ref x, .ref o] h Q (fun _ _ => False) := by
  have C := R.2.2.2.2.2.1
  have hM := R.2.2.2.1
  have hL9 := R.2.2.2.2.1
  obtain ⟨σ, c0, c1, c2, c3, c4, W, g⟩ := C.2.1.1
  have hN := g.wf
  have k8 : c0 ≤ 1000 := by have := hN.1.2; omega
  obtain ⟨r, er, r8⟩ := R.rr
  have dN : DIr (hI h (m + 1)) D := R.2.2.2.2.2.2.1.1
  have dS := R.2.2.2.2.2.2.1.2.1
  have dH := R.2.2.2.2.2.2.1.2.2
  have dI : DI (hI h (m + 1)) c0 D := dN c0 hN.1.1 hN.1.2
  refine eL_averageBits hst (Nat.le_of_ble_eq_true rfl) (fun K => ?_)
  refine ⟨rfl, Nat.le_of_ble_eq_true rfl, C.s0, Nat.le_of_ble_eq_true rfl, Nat.le_of_ble_eq_true rfl, ?_⟩
  refine e_averageBits hst C W g (fun h1 n hn => ⟨_, List.Mem.head _, fun q9 => thr_l (Nat.le_of_ble_eq_true rfl) (Nat.le_of_ble_eq_true rfl) (q 1 _ hM.1 (fun Q2 q2 => ?_))⟩) (fun e1 => ?_)
  · have c : C1 m h (hxn h n) := C1.rf
    rw [c.st]
    exact k_averageBits hst (c.mds hM) (c.mdl hL9) g (fun z1 => q2 _ _ (Jn.thr (k := 1) R hB hD0 c C.hxn Mf.rf eF0 (fun _ _ => rfl) ⟨rfl, rfl⟩ rfl (by decide))) (fun y1 => absurd h1 (by omega))
  · have ho := R.2.2.1.1
    refine ⟨congrArg Prod.fst ho, by rw [ho]; exact nI_in (c := 0) (by decide) (by decide), Nat.le_of_ble_eq_true rfl, Nat.le_of_ble_eq_true rfl, q 0 _ hM.1 (fun Q2 q2 => ?_)⟩
    have c9 : C1 m h h := C1.rf
    rw [c9.wL.st]
    exact k_averageBits hst (c9.wL.mds hM) (c9.wL.mdl hL9) g (fun z1 => absurd z1 (by omega)) (fun y1 => q2 _ _ (Jn.ret R hB hD0 c9.wL C.wL Mf.rf eF0 (fun _ _ => rfl) ⟨rfl, rfl⟩ rfl hL_wL))
end U5

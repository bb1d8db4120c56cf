section T2
/-- behind the answers of both: the comparison, then the next call -/
theorem tl_i {l : Launch} {sb sL : Nat} {K : Nat → FT} {x m o i : Nat} {B D : Int} {L0 : LV} {h0 : Hp} {u0 : Nat × Nat} (J : LJ l sb sL K x m o i B D L0 h0 u0) {L : LV} {h : Hp} {u : Nat × Nat} {k v : Int32} (hk : Lk L sb x m o i) (e6 : lget L 6 = some (.int k)) (jn : Jn x m o (B + 19980) (D + 180) k v.toInt64 h) (u1 : u.1 ≤ u0.1 + 5) (u2 : u.2 ≤ u0.2 + 30) {Kx Ky G : FT} (hG : ∀ L' u', o_iinc 5 5 (K 28) L' [] h u' → G L' [] h u') : o_istore 7 (o_aload 2 (o_callV 0 9 21 rmX9_thrown.cells rmX9_thrown.slots rmL_law.cells rmL_law.slots (CX9_thrown l) (fun _ _ => False) (o_iload 6 (o_icmp_eq (o_push (.int 0) Kx) (o_iload 6 (o_if_ne (o_aload 3 (o_push (.int 0) (o_laload (o_iload 7 (o_i2l (o_lcmp (o_if_eq (o_push (.int 0) Ky) G))))))) G)))))) L [.int v] h u := by
  obtain ⟨hst, -, -, -, -, ⟨w1, w2⟩, kk⟩ := J
  have hk7 := hk.s1 (k := 7) (by decide) (.int v)
  have e67 : lget (lset1 L 7 (.int v)) 6 = some (.int k) := lget_o1 e6 nci (by decide)
  have fin : ∀ u' : Nat × Nat, u'.1 ≤ u0.1 + 5 → u'.2 ≤ u0.2 + 30 → G (lset1 L 7 (.int v)) [] h u' := fun u' a b => hG _ _ (inc_of hk7.2.2.2.2.2 (kk _ _ _ hk7.inc jn.1 a b))
  refine al_of hk7.2.2.1 ?_
  refine ⟨rfl, Nat.le_of_ble_eq_true rfl, jn.1.2.2.2.1.1, Nat.le_trans u1 w1, Nat.le_trans u2 w2, ?_⟩
  refine c_thrown hst jn.1.2.2.2.1 ?_
  refine il_of e67 ?_
  refine ⟨fun _ => ?_, fun z => absurd jn.2.1 z⟩
  refine il_of e67 ?_
  refine ⟨fun z => fin _ u1 u2, fun z => ?_⟩
  refine al_of hk7.2.2.2.1 ?_
  have ho := jn.1.2.2.1.1
  refine ⟨congrArg Prod.fst ho, by rw [ho]; exact nI_in (c := 0) (by decide) (by decide), ?_⟩
  refine il_of lget_s1 ?_
  refine ⟨fun _ => fin _ u1 u2, fun z2 => absurd ?_ z2⟩
  rw [show hL h o (0 : Int32).toNatClampNeg = v.toInt64 from jn.2.2 z]
  exact lcmp_self _
end T2

section CALLS
-- new things
def o_new (ci N mc ms : Nat) (f : FT) : FT := fun L S h u => u.1 + 1 ≤ mc ∧ u.2 + N ≤ ms ∧ f L (.ref (hn h) :: S) (al h (ci + 1, N)) (u.1 + 1, u.2 + N)
def o_newa (k mc ms : Nat) (f : FT) : FT := fun L S h u => match S with
  | .int n :: S => ¬ n < 0 ∧ n.toNatClampNeg ≤ 1000 ∧ u.1 + 1 ≤ mc ∧ u.2 + n.toNatClampNeg ≤ ms ∧ f L (.ref (hn h) :: S) (al h (k, n.toNatClampNeg)) (u.1 + 1, u.2 + n.toNatClampNeg)
  | _ => False
theorem hs_al {h : Hp} {q : Nat × Nat} : hs (al h q) (hn h) = q := if_pos rfl
theorem hI_al {h : Hp} {q : Nat × Nat} : hI (al h q) (hn h) = fun _ => 0 := funext fun j => if_pos rfl
theorem hR_al {h : Hp} {q : Nat × Nat} : hR (al h q) (hn h) = fun _ => 0 := funext fun j => if_pos rfl
theorem hL_al {h : Hp} {q : Nat × Nat} : hL (al h q) (hn h) = fun _ => 0 := funext fun j => if_pos rfl
theorem hD_al {h : Hp} {q : Nat × Nat} : hD (al h q) (hn h) = fun _ => 0 := funext fun j => if_pos rfl
theorem r_new {E : ME} {own : String} {cc : ByteArray} {nL : Nat} {rm : Room} (hE : EnvOk E own cc nL rm) {pc : Nat} {f : FT} {idx ci N : Nat} {C : String} {T : u_T} (d : decode cc pc = .ok (.new idx, 3)) (hci : ci + 1 < 20) (hc : cls[ci]? = some (C, T, N)) (hin : ∀ w ∈ u_ws C T N, w ∈ TB) (ty : Nat → FieldType) (hty : ∀ k, k < N → parseFieldDescriptor (T k).2.2.1 = some (ty k)) (hdv : ∀ h a j, j < N → (∀ j, hI h a j = 0) → (∀ j, hR h a j = 0) → defaultValue (ty j) = fv h ci a j)
    (w1 : Cond.classLink own idx C ∈ TB) (w2 : Cond.instantiable C N ∈ TB) (w3 : Cond.initialized C ∈ TB) (hf : At E (pc + 3) f) : At E pc (o_new ci N rm.cells rm.slots f) := by
  intro L S h u q
  obtain ⟨p, l, e, R, s, m, args, below, meth, c, Qm, D, dA, A⟩ := E
  obtain ⟨kx, kb, kl, kown, kts, klk, kR, kW, kA, kst⟩ := hE
  intro H locs cells slots ls yl yR yS yc ys
  subst kR
  obtain ⟨q1, q2, q3⟩ := q
  have hKn := kW.1.1 ci _ hc
  refine W.newcK kx kb kown (kts _ w1) (kts _ w2) (kts _ w3) rfl d (by omega) (by omega) hKn.2.1 rfl fun H1 kC hkC e1 z1 o1 => ?_
  have hz : hn h = H.size := yR.1.symm
  refine W.eq (g2 := F0 m (pc + 3) ls (.ref (hn h) :: S)) (by rw [hz]) ?_
  refine hf _ _ _ _ q3 H1 locs (cells + 1) (slots + N) ls yl (yR.push z1 o1 (kA _ (by rw [hz]; exact yS.1)) ?_) ⟨Nat.le_trans yS.1 (by omega), fun x h1 h2 => (o1 x (Nat.lt_of_lt_of_le h1 yS.1)).trans (yS.2.1 x h1 h2), yS.2.2⟩ (by show cells + 1 ≤ u.1 + 1; omega) (by show slots + N ≤ u.2 + N; omega)
  refine CellOk.obj hs_al hci hc rfl ?_
  rw [hz]
  refine (u_born ty kts hin hKn hkC e1 hty).to (fun j hj => ?_)
  rw [← hz]
  exact hdv _ _ j hj (fun j => congrFun hI_al j) (fun j => congrFun hR_al j)
theorem r_newa {E : ME} {own : String} {cc : ByteArray} {nL : Nat} {rm : Room} (hE : EnvOk E own cc nL rm) {pc : Nat} {f : FT} {k t : Nat} {at9 : ArrayType} (d : decode cc pc = .ok (.newarray at9, 2)) (hk : 20 ≤ k) (hk2 : k ≤ 24) (ht : ATY[t]? = some (k, newarray.typeOf at9)) (w1 : Cond.arrayClass (newarray.typeOf at9) ∈ TB) (hb8 : componentBytes (newarray.typeOf at9) ≤ 8) (hdv : ∀ h a j, (∀ j, hI h a j = 0) → (∀ j, hL h a j = 0) → (∀ j, hD h a j = 0) → defaultValue (newarray.typeOf at9) = av h k a j) (hf : At E (pc + 2) f) : At E pc (o_newa k rm.cells rm.slots f) := by
  intro L S h u q
  unfold o_newa at q
  split at q
  · rename_i n S
    obtain ⟨p, l, e, R, s, m, args, below, meth, c, Qm, D, dA, A⟩ := E
    obtain ⟨kx, kb, kl, kown, kts, klk, kR, kW, kA, kst⟩ := hE
    intro H locs cells slots ls yl yR yS yc ys
    subst kR
    obtain ⟨q0, q9, q1, q2, q3⟩ := q
    have hbb : n.toNatClampNeg * componentBytes (newarray.typeOf at9) ≤ 536870912 := Nat.le_trans (Nat.mul_le_mul q9 hb8) (by decide)
    refine va_newaK kx kb (kts _ w1) rfl d rfl q0 rfl hbb (by omega) (by omega) rfl fun H1 cA e1 z1 o1 hAr hNm => ?_
    have hz : hn h = H.size := yR.1.symm
    have hcA : cA = dA k := by
      have h9 := (kW.arr ht).2
      have h8 : s.vm.findClass ("[" ++ (newarray.typeOf at9).toString) = some (dA k) := by cases at9 <;> exact h9
      exact Option.some.inj (hNm.symm.trans h8)
    refine W.eq (g2 := F0 m (pc + 2) ls (.ref (hn h) :: S)) (by rw [hz]) ?_
    refine hf _ _ _ _ q3 H1 locs (cells + 1) (slots + n.toNatClampNeg) ls yl (yR.push z1 o1 (kA _ (by rw [hz]; exact yS.1)) ?_) ⟨Nat.le_trans yS.1 (by omega), fun x h1 h2 => (o1 x (Nat.lt_of_lt_of_le h1 yS.1)).trans (yS.2.1 x h1 h2), yS.2.2⟩ (by show cells + 1 ≤ u.1 + 1; omega) (by show slots + _ ≤ u.2 + _; omega)
    refine CellOk.arr (k := k) (by rw [hs_al]) hk ?_
    rw [hs_al, hz, e1, hcA]
    congr 2
    funext j
    rw [← hz]
    exact hdv _ _ j (fun j => congrFun hI_al j) (fun j => congrFun hL_al j) (fun j => congrFun hD_al j)
  · exact q.elim
theorem r_newq {E : ME} {own : String} {cc : ByteArray} {nL : Nat} {rm : Room} (hE : EnvOk E own cc nL rm) {pc : Nat} {f : FT} {k t idx : Nat} {C : String} (d : decode cc pc = .ok (.anewarray idx, 3)) (hk : 25 ≤ k) (ht : ATY[t]? = some (k, .object C)) (w1 : Cond.classLink own idx C ∈ TB) (w2 : C ∈ AOS) (hf : At E (pc + 3) f) : At E pc (o_newa k rm.cells rm.slots f) := by
  intro L S h u q
  unfold o_newa at q
  split at q
  · rename_i n S
    obtain ⟨p, l, e, R, s, m, args, below, meth, c, Qm, D, dA, A⟩ := E
    obtain ⟨kx, kb, kl, kown, kts, klk, kR, kW, kA, kst⟩ := hE
    intro H locs cells slots ls yl yR yS yc ys
    subst kR
    obtain ⟨q0, q9, q1, q2, q3⟩ := q
    have hbb : n.toNatClampNeg * 4 ≤ 536870912 := Nat.le_trans (Nat.mul_le_mul_right 4 q9) (by decide)
    have hao : (Cond.arrayOver (.object C)).before args s = true := va_AO.use (kW.2.1.2.1 C w2)
    refine W.anew kx kb kown (kts _ w1) hao rfl d rfl q0 hbb (by omega) (by omega) fun cA kA9 comp f1 f2 f3 f4 => ?_
    generalize hH1 : H.push ({ cls := cA, slots := Array.replicate n.toNatClampNeg .null, vm := .none } : Cell) = H1
    have z1 : H1.size = H.size + 1 := by rw [← hH1, Array.size_push]
    have e1 : H1[H.size]? = some (arrV cA n.toNatClampNeg (fun _ => .null)) := by rw [← hH1, Array.getElem?_push_size, ← arrV_new]
    have o1 : ∀ q : Nat, q < H.size → H1[q]? = H[q]? := fun q hq => by rw [← hH1, Array.getElem?_push, if_neg (Nat.ne_of_lt hq)]
    have hz : hn h = H.size := yR.1.symm
    have hcA : cA = dA k := by
      obtain ⟨_, _, _, _, _, h8⟩ := (kW.arr ht).2
      exact Option.some.inj (f1.symm.trans h8)
    refine W.eq (g2 := F0 m (pc + 3) ls (.ref (hn h) :: S)) (by rw [hz]) ?_
    refine hf _ _ _ _ q3 H1 locs (cells + 1) (slots + n.toNatClampNeg) ls yl (yR.push z1 o1 (kA _ (by rw [hz]; exact yS.1)) ?_) ⟨Nat.le_trans yS.1 (by omega), fun x h1 h2 => (o1 x (Nat.lt_of_lt_of_le h1 yS.1)).trans (yS.2.1 x h1 h2), yS.2.2⟩ (by show cells + 1 ≤ u.1 + 1; omega) (by show slots + _ ≤ u.2 + _; omega)
    refine CellOk.arr (k := k) (by rw [hs_al]) (by omega) ?_
    rw [hs_al, hz, e1, hcA]
    congr 2
    funext j
    rw [← hz, av_ref hk, hR_al]
    rfl
  · exact q.elim
def o_oinit (f : FT) : FT := fun L S h u => match S with
    | [.ref _] => f L [] h u
    | _ => False
theorem r_objInit {E : ME} {own : String} {cc : ByteArray} {nL : Nat} {rm : Room} (hE : EnvOk E own cc nL rm) {pc : Nat} {f : FT} {idx : Nat} (d : decode cc pc = .ok (.invokespecial idx, 3)) (w1 : Cond.methodLink own idx Lib.objectInit ∈ TB) (w2 : Cond.instanceMethod Lib.objectInit ∈ TB) (w3 : Cond.code Lib.objectInit ⟨#[0xb1]⟩ 1 none ∈ TB) (hr1 : 1 ≤ rm.frames) (hr2 : 12 ≤ rm.locals) (hf : At E (pc + 3) f) : At E pc (o_oinit f) := by
  intro L S h u q
  unfold o_oinit at q
  split at q
  · rename_i a
    obtain ⟨p, l, e, R, s, m, args, below, meth, c, Qm, D, dA, A⟩ := E
    obtain ⟨kx, kb, kl, kown, kts, klk, kR, kW, kA, kst⟩ := hE
    intro H locs cells slots ls yl yR yS yc ys
    subst kR
    exact W.objInit kx kb kown (kts _ w1) (kts _ w2) (kts _ w3) rfl yl.1 rfl d hr1 (by show 2 * 0 + 0 + 12 ≤ _; omega) (hf _ _ _ _ q H locs cells slots ls yl yR yS yc ys)
  · exact q.elim
-- contracts
def QcOf (D : va_G) (dA : Nat → ClassId) (h0 : Hp) (Qr : Option Value → Hp → Prop) : Array Value → State → Outcome → State → Prop := fun _ st o t => (∃ v h', o = .returned v ∧ Qr v h' ∧ Rp D dA (Af h0) t.heap h') ∧ va_F (Af h0) st t
def XcOf (D : va_G) (dA : Nat → ClassId) (h0 : Hp) (Xr : String → Hp → Prop) : String → State → State → Prop := fun E st t => (∃ h', Xr E h' ∧ Rp D dA (Af h0) t.heap h') ∧ va_F (Af h0) st t
def PcOf (D : va_G) (dA : Nat → ClassId) (h : Hp) (av : List Value) : Array Value → State → Prop := va_Pc av (fun U => Wd D dA (Af h) U ∧ Rp D dA (Af h) U.heap h)
def Ct (l : Launch) (y : MethodName) (hd : Cond) (rm : Room) (av : List Value) (h : Hp) (Qr : Option Value → Hp → Prop) (Xr : String → Hp → Prop) : Prop :=
  ∀ (D : va_G) (dA : Nat → ClassId), vx_Met l y (hd :: TB) rm (PcOf D dA h av) (QcOf D dA h Qr) (XcOf D dA h Xr) rm.cells rm.slots (Af h)
def MEnv (E : ME) (y : MethodName) (h0 : Hp) (Qr : Option Value → Hp → Prop) (Xr : String → Hp → Prop) (ret : Option FieldType) (tb : List ExceptionTableEntry) : Prop := match E with
  | (_, _, _, R, s, _, args, below, meth, c, Qm, D, dA, A) => Qm = vx_MQ below (QcOf D dA h0 Qr) (XcOf D dA h0 Xr) args s R.cells R.slots (Af h0) ∧ A = Af h0 ∧ meth.sig.returnType = ret ∧ s.heap.size = hn h0 ∧ c.exceptionTable.toList = tb ∧ meth.name = y.name
theorem Ct_of {l : Launch} (hst : l.stackTraces = false) {y : MethodName} {b : ByteArray} {nL : Nat} {ret : Option FieldType} {rm : Room} {av : List Value} {h : Hp} {Qr : Option Value → Hp → Prop} {Xr : String → Hp → Prop} (hy : plainName y.cls = true) (hl : (lg_sl av).length ≤ nL)
    (body : ∀ E : ME, E.2.1 = l → EnvOk E y.cls b nL rm → MEnv E y h Qr Xr ret [] → G E 0 (lv_args 0 av) [] h (0, 0)) : Ct l y (.code y b nL ret) rm av h Qr Xr := by
  intro D dA
  refine vx_ofW (cc := b) (maxL := nL) (ret := ret) hy rfl ?_
  intro p e s m args below meth c s₁ B hml ht hP
  obtain ⟨rfl, hW, hRp⟩ := hP
  have hts := atoms_spec (ws := Cond.code y b nL ret :: TB) B.pre
  have ht0 : c.exceptionTable.toList = [] := List.eq_nil_iff_forall_not_mem.mpr (fun x hx => ht x hx)
  have hG := body (p, l, e, rm, s, m, av.toArray, below, meth, c, vx_MQ below (QcOf D dA h Qr) (XcOf D dA h Xr) av.toArray s rm.cells rm.slots (Af h), D, dA, Af h) rfl
    ⟨B.exec, B.bytes, hml, findClass_of_methodNamed B.named, fun w hw => hts w (List.mem_cons_of_mem _ hw), B.notSynchronized, rfl, hW, fun q hq => Or.inr (by rw [← hRp.1]; exact hq), hst⟩
    ⟨rfl, rfl, B.returns, hRp.1, ht0, (name_of_methodNamed B.named B.method).1⟩
  rw [lg_entry_eq]
  exact hG s.heap [] 0 0 _ (by rw [hml]; exact lv_entry av hl) hRp va_S.rf (Nat.le_refl _) (Nat.le_refl _)
theorem Ct_ofH {l : Launch} (hst : l.stackTraces = false) {y : MethodName} {b : ByteArray} {nL : Nat} {ret : Option FieldType} {hh : List (Nat × Nat × Nat × Nat)} {rm : Room} {av : List Value} {h : Hp} {Qr : Option Value → Hp → Prop} {Xr : String → Hp → Prop} (hy : plainName y.cls = true) (hl : (lg_sl av).length ≤ nL)
    (body : ∀ E : ME, E.2.1 = l → EnvOk E y.cls b nL rm → MEnv E y h Qr Xr ret (tableOf hh) → G E 0 (lv_args 0 av) [] h (0, 0)) : Ct l y (.codeWith y b nL ret hh) rm av h Qr Xr := by
  intro D dA
  refine vx_ofWH (cc := b) (maxL := nL) (ret := ret) (hh := hh) hy rfl ?_
  intro p e s m args below meth c s₁ B hml hP
  obtain ⟨rfl, hW, hRp⟩ := hP
  have hts := atoms_spec (ws := Cond.codeWith y b nL ret hh :: TB) B.pre
  have ht0 : c.exceptionTable.toList = tableOf hh := vx_table (x := y) B (hts _ List.mem_cons_self)
  have hG := body (p, l, e, rm, s, m, av.toArray, below, meth, c, vx_MQ below (QcOf D dA h Qr) (XcOf D dA h Xr) av.toArray s rm.cells rm.slots (Af h), D, dA, Af h) rfl
    ⟨B.exec, B.bytes, hml, findClass_of_methodNamed B.named, fun w hw => hts w (List.mem_cons_of_mem _ hw), B.notSynchronized, rfl, hW, fun q hq => Or.inr (by rw [← hRp.1]; exact hq), hst⟩
    ⟨rfl, rfl, B.returns, hRp.1, ht0, (name_of_methodNamed B.named B.method).1⟩
  rw [lg_entry_eq]
  exact hG s.heap [] 0 0 _ (by rw [hml]; exact lv_entry av hl) hRp va_S.rf (Nat.le_refl _) (Nat.le_refl _)
theorem Rp.narrow {D : va_G} {dA : Nat → ClassId} {A B : Nat → Prop} {H : Heap} {h : Hp} (R0 : Rp D dA A H h) (hAB : ∀ q, A q → B q) : Rp D dA B H h := ⟨R0.1, fun a ha => ⟨hAB a (R0.2 a ha).1, (R0.2 a ha).2⟩⟩
theorem Rp.self {D : va_G} {dA : Nat → ClassId} {A : Nat → Prop} {H : Heap} {h : Hp} (R0 : Rp D dA A H h) : Rp D dA (Af h) H h := ⟨R0.1, fun a ha => ⟨Or.inl ha, (R0.2 a ha).2⟩⟩
-- ends
def o_iret (mc ms : Nat) (Qr : Option Value → Hp → Prop) : FT := fun _ S h u => match S with
  | [.int v] => u.1 ≤ mc ∧ u.2 ≤ ms ∧ Qr (some (.int v)) h
  | _ => False
def o_zret (mc ms : Nat) (Qr : Option Value → Hp → Prop) : FT := fun _ S h u => match S with
  | [.int v] => u.1 ≤ mc ∧ u.2 ≤ ms ∧ (v = 0 ∨ v = 1) ∧ Qr (some (.int v)) h
  | _ => False
def o_lret (mc ms : Nat) (Qr : Option Value → Hp → Prop) : FT := fun _ S h u => match S with
  | [.long v] => u.1 ≤ mc ∧ u.2 ≤ ms ∧ Qr (some (.long v)) h
  | _ => False
def o_fret (mc ms : Nat) (Qr : Option Value → Hp → Prop) : FT := fun _ S h u => match S with
  | [.float v] => u.1 ≤ mc ∧ u.2 ≤ ms ∧ Qr (some (.float v)) h
  | _ => False
def o_dret (mc ms : Nat) (Qr : Option Value → Hp → Prop) : FT := fun _ S h u => match S with
  | [.double v] => u.1 ≤ mc ∧ u.2 ≤ ms ∧ Qr (some (.double v)) h
  | _ => False
def o_vret (mc ms : Nat) (Qr : Option Value → Hp → Prop) : FT := fun _ S h u => match S with
  | [] => u.1 ≤ mc ∧ u.2 ≤ ms ∧ Qr none h
  | _ => False
theorem r_iret {E : ME} {own : String} {cc : ByteArray} {nL : Nat} {rm : Room} (hE : EnvOk E own cc nL rm) {y : MethodName} {h0 : Hp} {Qr : Option Value → Hp → Prop} {Xr : String → Hp → Prop} {tb : List ExceptionTableEntry} (hM : MEnv E y h0 Qr Xr (some .int) tb) {pc : Nat} (d : decode cc pc = .ok (.ireturn, 1)) : At E pc (o_iret rm.cells rm.slots Qr) := by
  intro L S h u q
  unfold o_iret at q
  split at q
  · rename_i v
    obtain ⟨p, l, e, R, s, m, args, below, meth, c, Qm, D, dA, A⟩ := E
    obtain ⟨kx, kb, kl, kown, kts, klk, kR, kW, kA, kst⟩ := hE
    obtain ⟨m1, m2, m3, m4, m5, -⟩ := hM
    intro H locs cells slots ls yl yR yS yc ys
    subst kR; subst m1; subst m2
    obtain ⟨q1, q2, q3⟩ := q
    refine W.widen (k := R.cells) (n := R.slots) (by omega) (by omega) (vx_ret ?_)
    exact W.iret kx kb m3 (fun t ht hW => ⟨⟨_, h, rfl, q3, by rw [ht]; exact yR⟩, yS.F ht⟩) yS.2.2 d
  · exact q.elim
theorem r_zret {E : ME} {own : String} {cc : ByteArray} {nL : Nat} {rm : Room} (hE : EnvOk E own cc nL rm) {y : MethodName} {h0 : Hp} {Qr : Option Value → Hp → Prop} {Xr : String → Hp → Prop} {tb : List ExceptionTableEntry} (hM : MEnv E y h0 Qr Xr (some .boolean) tb) {pc : Nat} (d : decode cc pc = .ok (.ireturn, 1)) : At E pc (o_zret rm.cells rm.slots Qr) := by
  intro L S h u q
  unfold o_zret at q
  split at q
  · rename_i v
    obtain ⟨p, l, e, R, s, m, args, below, meth, c, Qm, D, dA, A⟩ := E
    obtain ⟨kx, kb, kl, kown, kts, klk, kR, kW, kA, kst⟩ := hE
    obtain ⟨m1, m2, m3, m4, m5, -⟩ := hM
    intro H locs cells slots ls yl yR yS yc ys
    subst kR; subst m1; subst m2
    obtain ⟨q1, q2, q4, q3⟩ := q
    refine W.widen (k := R.cells) (n := R.slots) (by omega) (by omega) (vx_ret ?_)
    exact W.zret kx kb m3 (by rcases q4 with e9 | e9 <;> subst e9 <;> rfl) (fun t ht hW => ⟨⟨_, h, rfl, q3, by rw [ht]; exact yR⟩, yS.F ht⟩) yS.2.2 d
  · exact q.elim
theorem r_vret {E : ME} {own : String} {cc : ByteArray} {nL : Nat} {rm : Room} (hE : EnvOk E own cc nL rm) {y : MethodName} {h0 : Hp} {Qr : Option Value → Hp → Prop} {Xr : String → Hp → Prop} {tb : List ExceptionTableEntry} (hM : MEnv E y h0 Qr Xr none tb) {pc : Nat} (d : decode cc pc = .ok (.return_, 1)) : At E pc (o_vret rm.cells rm.slots Qr) := by
  intro L S h u q
  unfold o_vret at q
  split at q
  · obtain ⟨p, l, e, R, s, m, args, below, meth, c, Qm, D, dA, A⟩ := E
    obtain ⟨kx, kb, kl, kown, kts, klk, kR, kW, kA, kst⟩ := hE
    obtain ⟨m1, m2, m3, m4, m5, -⟩ := hM
    intro H locs cells slots ls yl yR yS yc ys
    subst kR; subst m1; subst m2
    obtain ⟨q1, q2, q3⟩ := q
    refine W.widen (k := R.cells) (n := R.slots) (by omega) (by omega) (vx_ret ?_)
    exact W.vret kx kb m3 (fun t ht hW => ⟨⟨_, h, rfl, q3, by rw [ht]; exact yR⟩, yS.F ht⟩) yS.2.2 d
  · exact q.elim
theorem r_lret {E : ME} {own : String} {cc : ByteArray} {nL : Nat} {rm : Room} (hE : EnvOk E own cc nL rm) {y : MethodName} {h0 : Hp} {Qr : Option Value → Hp → Prop} {Xr : String → Hp → Prop} {tb : List ExceptionTableEntry} (hM : MEnv E y h0 Qr Xr (some .long) tb) {pc : Nat} (d : decode cc pc = .ok (.lreturn, 1)) : At E pc (o_lret rm.cells rm.slots Qr) := by
  intro L S h u q
  unfold o_lret at q
  split at q
  · rename_i v
    obtain ⟨p, l, e, R, s, m, args, below, meth, c, Qm, D, dA, A⟩ := E
    obtain ⟨kx, kb, kl, kown, kts, klk, kR, kW, kA, kst⟩ := hE
    obtain ⟨m1, m2, m3, m4, m5, -⟩ := hM
    intro H locs cells slots ls yl yR yS yc ys
    subst kR; subst m1; subst m2
    obtain ⟨q1, q2, q3⟩ := q
    refine W.widen (k := R.cells) (n := R.slots) (by omega) (by omega) (vx_ret ?_)
    exact W.lret kx kb m3 (fun t ht hW => ⟨⟨_, h, rfl, q3, by rw [ht]; exact yR⟩, yS.F ht⟩) yS.2.2 d
  · exact q.elim
theorem r_fret {E : ME} {own : String} {cc : ByteArray} {nL : Nat} {rm : Room} (hE : EnvOk E own cc nL rm) {y : MethodName} {h0 : Hp} {Qr : Option Value → Hp → Prop} {Xr : String → Hp → Prop} {tb : List ExceptionTableEntry} (hM : MEnv E y h0 Qr Xr (some .float) tb) {pc : Nat} (d : decode cc pc = .ok (.freturn, 1)) : At E pc (o_fret rm.cells rm.slots Qr) := by
  intro L S h u q
  unfold o_fret at q
  split at q
  · rename_i v
    obtain ⟨p, l, e, R, s, m, args, below, meth, c, Qm, D, dA, A⟩ := E
    obtain ⟨kx, kb, kl, kown, kts, klk, kR, kW, kA, kst⟩ := hE
    obtain ⟨m1, m2, m3, m4, m5, -⟩ := hM
    intro H locs cells slots ls yl yR yS yc ys
    subst kR; subst m1; subst m2
    obtain ⟨q1, q2, q3⟩ := q
    refine W.widen (k := R.cells) (n := R.slots) (by omega) (by omega) (vx_ret ?_)
    exact W.fret kx kb m3 (fun t ht hW => ⟨⟨_, h, rfl, q3, by rw [ht]; exact yR⟩, yS.F ht⟩) yS.2.2 d
  · exact q.elim
theorem r_dret {E : ME} {own : String} {cc : ByteArray} {nL : Nat} {rm : Room} (hE : EnvOk E own cc nL rm) {y : MethodName} {h0 : Hp} {Qr : Option Value → Hp → Prop} {Xr : String → Hp → Prop} {tb : List ExceptionTableEntry} (hM : MEnv E y h0 Qr Xr (some .double) tb) {pc : Nat} (d : decode cc pc = .ok (.dreturn, 1)) : At E pc (o_dret rm.cells rm.slots Qr) := by
  intro L S h u q
  unfold o_dret at q
  split at q
  · rename_i v
    obtain ⟨p, l, e, R, s, m, args, below, meth, c, Qm, D, dA, A⟩ := E
    obtain ⟨kx, kb, kl, kown, kts, klk, kR, kW, kA, kst⟩ := hE
    obtain ⟨m1, m2, m3, m4, m5, -⟩ := hM
    intro H locs cells slots ls yl yR yS yc ys
    subst kR; subst m1; subst m2
    obtain ⟨q1, q2, q3⟩ := q
    refine W.widen (k := R.cells) (n := R.slots) (by omega) (by omega) (vx_ret ?_)
    exact W.dret kx kb m3 (fun t ht hW => ⟨⟨_, h, rfl, q3, by rw [ht]; exact yR⟩, yS.F ht⟩) yS.2.2 d
  · exact q.elim
-- calls
theorem AOA_moved {ty : FieldType} {u U : State} (hvm : u.vm.Alike U.vm) (h : (Cond.arrayOver (.array ty)).before #[] u = true) : (Cond.arrayOver (.array ty)).before #[] U = true := by
  have h9 : (Cond.arrayOver (.array ty)).holds #[] u none u [] = true := h
  simp only [Cond.holds, Cond.value, beq_iff_eq] at h9
  cases hc : u.vm.findClass (FieldType.array ty).toString with
  | none => simp [hc] at h9
  | some comp =>
    simp only [hc, Option.bind_some, Option.bind_eq_some_iff, Option.map_eq_some_iff] at h9
    obtain ⟨c, hi, k, hk, hb⟩ := h9
    obtain ⟨k', hk', he⟩ := hvm.2.2 _ _ hk
    have hi2 : (U.vm.classes.findIdx? fun (x : Class) => match x.kind with | .array component _ => component == comp | _ => false) = some c := by
      have h1 := va_idx_bare u.vm comp
      have h2 := va_idx_bare U.vm comp
      have h3 : u.vm.bare = U.vm.bare := by first | exact hvm.bare_eq | exact hvm.bare_eq.symm
      rw [h3] at h1
      exact h2.symm.trans (h1.trans hi)
    have f1 : U.vm.findClass (FieldType.array ty).toString = some comp := by rw [hvm.findClass]; exact hc
    have f2 : U.vm.findClass ("[" ++ (FieldType.array ty).toString) = u.vm.findClass ("[" ++ (FieldType.array ty).toString) := by rw [hvm.findClass]
    unfold Cond.before Cond.holds
    simp only [Cond.value]
    rw [f1, Option.bind_some]
    refine (congrArg (fun o : Option Nat => (o.bind (fun c => (U.vm.classes[c]?).map fun (k : Class) => match k.kind with | .array _ ty' => decide (ty' = FieldType.array ty) && decide (U.vm.findClass ("[" ++ (FieldType.array ty).toString) = some c) | _ => false) == some true)) hi2).trans ?_
    simp only [Option.bind_some, hk', Option.map_some, beq_iff_eq, Option.some.injEq]
    rw [he, f2]
    exact hb
theorem NBk.warm {s U : State} (hW : s.WarmedH U.vm) (h : NBk s) : NBk U := by
  obtain ⟨h1, h2, h3, h4, h5⟩ := h
  refine ⟨fun q hq => va_Nw.warmM hW (h1 q hq), fun C hC => (h2 C hC).moved hW.alike, fun q hq => ?_, fun q hq => (h4 q hq).moved hW.alike, AOA_moved hW.alike h5⟩
  obtain ⟨sa, h9⟩ := h3 q hq
  exact ⟨sa, h9.warm hW⟩
theorem NBk.same {s U : State} (hv : s.vm = U.vm) (h : NBk s) : NBk U := by
  obtain ⟨h1, h2, h3, h4, h5⟩ := h
  have ha : s.vm.Alike U.vm := by rw [hv]; exact Vm.Alike.refl _
  refine ⟨fun q hq => va_Nw.same rfl hv (h1 q hq), fun C hC => (h2 C hC).moved ha, fun q hq => ?_, fun q hq => (h4 q hq).moved ha, AOA_moved ha h5⟩
  obtain ⟨sa, h9⟩ := h3 q hq
  exact ⟨sa, h9.same hv.symm⟩
theorem blind_ok {D : va_G} {dA : Nat → ClassId} {h : Hp} {av : List Value} : FrameBlind (PcOf D dA h av) := by
  intro a U g mk q
  obtain ⟨e, ⟨w1, w2, w3, w4, w5⟩, r⟩ := q
  exact ⟨e, ⟨va_K.moved (u := U) (U := U.calling g mk a) (Vm.Alike.refl U.vm) w1, NBk.same (s := U) (U := U.calling g mk a) rfl w2, vx_Zq.moved (u := U) (U := U.calling g mk a) (Vm.Alike.refl U.vm) w3, vx_Zq.moved (u := U) (U := U.calling g mk a) (Vm.Alike.refl U.vm) w4, w5⟩, r⟩
theorem Af_sub {D : va_G} {dA : Nat → ClassId} {A : Nat → Prop} {s : State} {H : Heap} {h : Hp} {locs : List Loc} (yR : Rp D dA A H h) (yS : va_S A s.heap H locs) (kA : ∀ q, s.heap.size ≤ q → A q) : ∀ q, Af h q → A q := by
  intro q hq
  rcases hq with h1 | h1
  · exact (yR.2 q h1).1
  · exact kA q (Nat.le_trans yS.1 (by rw [yR.1]; exact h1))
theorem pre_ok {D : va_G} {dA : Nat → ClassId} {A : Nat → Prop} {s : State} {H : Heap} {h : Hp} {locs : List Loc} (kW : Wd D dA A s) (yR : Rp D dA A H h) (yS : va_S A s.heap H locs) (kA : ∀ q, s.heap.size ≤ q → A q) {U : State} (hU : U.heap = H) (hW : s.WarmedH U.vm) : Wd D dA (Af h) U ∧ Rp D dA (Af h) U.heap h := by
  obtain ⟨w1, w2, w3, w4, w5⟩ := kW
  have hsub := Af_sub yR yS kA
  rw [hU]
  refine ⟨⟨w1.moved hW.alike, w2.warm hW, ?_, ?_, fun z => w5 (hsub _ z)⟩, yR.self⟩
  · exact ((w3.moved hW.alike).kept (fun a h1 h2 => by rw [hU]; exact yS.2.1 a h1 h2)).narrow hsub
  · exact ((w4.moved hW.alike).kept (fun a h1 h2 => by rw [hU]; exact yS.2.1 a h1 h2)).narrow hsub
theorem call_go {p : Program} {l : Launch} {e : Env} {R : Room} {s : State} {m : MethodId} {args : Array Value} {below : List Frame} {meth : Method} {c : Code} {H : Heap} {locs : List Loc} {cells slots mc ms : Nat} {Q : State → Prop} {pc : Nat} {ls : Array Slot} {st0 rest : List Value} {D : va_G} {dA : Nat → ClassId} {A : Nat → Prop} {h : Hp} {Qr : Option Value → Hp → Prop} {Xr : String → Hp → Prop} {aa : Array Value}
    (hr : vx_Run p l e R s m args below meth c H locs cells slots mc ms (F0 m pc ls st0) rest (QcOf D dA h Qr aa) (XcOf D dA h Xr) (Af h)) (yS : va_S A s.heap H locs) (hsub : ∀ q, Af h q → A q)
    (kx : ∀ (E : String) (ce : Cell) (q9 : Addr) (h' : Hp) (H1 : Heap) (locs1 : List Loc), Xr E h' → Rp D dA A H1 h' → va_S A s.heap H1 locs1 → H1[q9]? = some ce → ce.vm = .none → s.vm.findClass E = some ce.cls → vx_W p l e R s m args below meth c H1 locs1 (cells + mc) (slots + ms) Q (F0 m pc ls rest) q9)
    (kk : ∀ (v : Option Value) (h' : Hp) (H1 : Heap) (locs1 : List Loc), Qr v h' → Rp D dA A H1 h' → va_S A s.heap H1 locs1 → W p l e R s m args below meth c H1 locs1 (cells + mc) (slots + ms) Q (F0 m (pc + 3) ls (v.toList ++ rest))) : W p l e R s m args below meth c H locs cells slots Q (F0 m pc ls st0) := by
  intro T hT X
  rcases hr T hT X with ⟨v, st₀, t, T', L, h0, X', hL, e1, e2, ⟨⟨v', h', hv, q1, q2⟩, hF⟩, st⟩ | ⟨q, st₀, t, T', L, E, ce, h0, X', hL, e1, e2, ⟨⟨h', q1, q2⟩, hF⟩, hce, hcv, hcl, st⟩
  · cases hv
    obtain ⟨k1, k2, k3⟩ := vx_keep h0 e1 yS (fun q _ z => hsub q z) hsub hL hF
    obtain ⟨t2, a1, b1⟩ := kk v h' T'.heap (locs ++ L) q1 (by rw [e1]; exact q2.narrow hsub) k3 T' rfl X'
    exact ⟨t2, st t2 a1, b1⟩
  · obtain ⟨k1, k2, k3⟩ := vx_keep h0 e1 yS (fun q _ z => hsub q z) hsub hL hF
    obtain ⟨t2, a1, b1⟩ := kx E ce q h' T'.heap (locs ++ L) q1 (by rw [e1]; exact q2.narrow hsub) k3 (by rw [e1]; exact hce) hcv hcl T' rfl X'
    exact ⟨t2, st.trans a1, b1⟩
/-- what a thrown thing does that no row of this method's table takes -/
def XOk (E : ME) (rm : Room) (Xr : String → Hp → Prop) : Prop := match E with
  | (p, l, e, R, s, m, args, below, meth, c, Qm, D, dA, A) => ∀ (pc : Nat) (ls : Array Slot) (rest : List Value) (En : String) (ce : Cell) (q9 : Addr) (H : Heap) (h : Hp) (locs : List Loc) (cells slots : Nat), Xr En h → Rp D dA A H h → va_S A s.heap H locs → H[q9]? = some ce → ce.vm = .none → s.vm.findClass En = some ce.cls → cells ≤ rm.cells → slots ≤ rm.slots → vx_W p l e R s m args below meth c H locs cells slots Qm (F0 m pc ls rest) q9
theorem XOk_none {E : ME} {rm : Room} : XOk E rm (fun _ _ => False) := by
  obtain ⟨p, l, e, R, s, m, args, below, meth, c, Qm, D, dA, A⟩ := E
  intro pc ls rest En ce q9 H h locs cells slots hx
  exact hx.elim
theorem XOk_out {E : ME} {own : String} {cc : ByteArray} {nL : Nat} {rm : Room} (hE : EnvOk E own cc nL rm) {y : MethodName} {h0 : Hp} {Qr : Option Value → Hp → Prop} {Xr : String → Hp → Prop} {ret : Option FieldType} (hM : MEnv E y h0 Qr Xr ret []) : XOk E rm Xr := by
  obtain ⟨p, l, e, R, s, m, args, below, meth, c, Qm, D, dA, A⟩ := E
  obtain ⟨kx, kb, kl, kown, kts, klk, kR, kW, kA, kst⟩ := hE
  obtain ⟨m1, m2, m3, m4, m5, -⟩ := hM
  intro pc ls rest En ce q9 H h locs cells slots hx yR yS hce hcv hcl hc hs'
  subst kR; subst m1; subst m2
  refine vx_out (fun x hx9 => by rw [m5] at hx9; cases hx9) klk hce hcv hcl (fun t ht hW => ⟨⟨h, hx, by rw [ht]; exact yR⟩, yS.F ht⟩) yS.2.2 hc hs'
abbrev SpT : Type := List Value → Hp → (Option Value → Hp → Prop) → (String → Hp → Prop) → Prop
/-- a call of a method of an object of class ci with n arguments -/
def o_callV (n ci N mc ms MC MS : Nat) (sp : SpT) (Xr : String → Hp → Prop) (f : FT) : FT := fun L S h u => match (S.take (n + 1)).reverse with
  | .ref b :: As => As.length = n ∧ ((S.drop (n + 1)).map fun v => v.category).sum ≤ 8 ∧ hs h b = (ci + 1, N) ∧ u.1 + mc ≤ MC ∧ u.2 + ms ≤ MS ∧ sp (.ref b :: As) h (fun v h' => f L (v.toList ++ S.drop (n + 1)) h' (u.1 + mc, u.2 + ms)) Xr
  | _ => False
def o_callS (n mc ms MC MS : Nat) (sp : SpT) (Xr : String → Hp → Prop) (f : FT) : FT := fun L S h u => (S.take n).length = n ∧ ((S.drop n).map fun v => v.category).sum ≤ 8 ∧ u.1 + mc ≤ MC ∧ u.2 + ms ≤ MS ∧ sp (S.take n).reverse h (fun v h' => f L (v.toList ++ S.drop n) h' (u.1 + mc, u.2 + ms)) Xr
theorem GoodTB {ws : List Cond} (h : ∀ w ∈ ws, w ∈ TB) : GoodIn TB ws := fun w hw => ⟨h w hw, good_of_word (List.all_eq_true.mp TB_good w (h w hw))⟩
theorem in_c {w : Cond} {l : List Cond} (h : w ∈ TB) (k : ∀ x ∈ l, x ∈ TB) : ∀ x ∈ w :: l, x ∈ TB := fun x hx => (List.mem_cons.mp hx).elim (fun e => by rw [e]; exact h) (k x)
theorem r_callV {E : ME} {own : String} {cc : ByteArray} {nL : Nat} {rm : Room} (hE : EnvOk E own cc nL rm) {pc : Nat} {f : FT} {idx ci N n : Nat} {C : String} {T : u_T} {y : MethodName} {bytes : ByteArray} {maxL : Nat} {ret : Option FieldType} {rm' : Room} {Xr : String → Hp → Prop} (d : decode cc pc = .ok (.invokevirtual idx, 3)) (hci : ci + 1 < 20) (hc : cls[ci]? = some (C, T, N))
    (w1 : Cond.methodLink own idx y ∈ TB) (w2 : Cond.instanceMethod y ∈ TB) (w3 : Cond.selects C y y ∈ TB) (w4 : Cond.initialized C ∈ TB) (w5 : Cond.code y bytes maxL ret ∈ TB)
    (hd : y.cls = C ∧ y.cls ≠ "java/lang/invoke/MethodHandle" ∧ y.cls ≠ "java/lang/invoke/VarHandle" ∧ (parseMethodDescriptor y.desc).map (fun d => d.parameters.length) = some n) (hR9 : rm'.frames + 1 ≤ rm.frames ∧ 8 + (maxL + 11) + rm'.locals ≤ rm.locals) (hX : XOk E rm Xr) (hf : At E (pc + 3) f) : At E pc (o_callV n ci N rm'.cells rm'.slots rm.cells rm.slots (Ct E.2.1 y (.code y bytes maxL ret) rm') Xr f) := by
  intro L S h u q
  unfold o_callV at q
  split at q
  · rename_i b As hAs
    obtain ⟨p, l, e, R, s, m, args, below, meth, c, Qm, D, dA, A⟩ := E
    obtain ⟨kx, kb, kl, kown, kts, klk, kR, kW, kA, kst⟩ := hE
    intro H locs cells slots ls yl yR yS yc ys
    subst kR
    obtain ⟨q1, q2, q3, q4, q5, q6⟩ := q
    have hst : S = As.reverse ++ .ref b :: S.drop (n + 1) := by
      have h1 := List.take_append_drop (n + 1) S
      have h2 : S.take (n + 1) = As.reverse ++ [.ref b] := by rw [← List.reverse_reverse (S.take (n + 1)), hAs]; simp
      rw [h2] at h1
      simpa using h1.symm
    have hsub := Af_sub yR yS kA
    obtain ⟨-, qq, g1, g2, cellB, c1, c2, c3, -⟩ := yR.ob q3 hci
    have hcls := (kW.1.1 ci _ hc).2.1
    have hrun := vx_runV (e := e) (below := below) (meth := meth) (locs := locs) (As := As) (rest := S.drop (n + 1)) (g := F0 m pc ls S) ⟨kx, kb, kl, kown, kts⟩ (q6 D dA) (cwV n kts (GoodTB (in_c w1 (in_c w2 (in_c w3 (in_c w4 (in_c w5 (fun x hx => hx))))))) rfl rfl rfl hd hR9) ⟨blind_ok, ⟨cellB, c1, by rw [c3]; rfl, by rw [c2]; exact hcls⟩, fun U hU hW => ⟨rfl, pre_ok kW yR yS kA hU hW⟩⟩ rfl q1 (by show ls.size = nL; rw [yl.1, kl]) hst (lv_room q2) d (cells := cells) (slots := slots) ⟨by omega, by omega⟩
    refine call_go hrun yS hsub (fun En ce q9 h' H1 locs1 hx zR zS hce hcv hcl => hX pc ls _ En ce q9 H1 h' locs1 _ _ hx zR zS hce hcv hcl (by omega) (by omega)) (fun v h' H1 locs1 hq zR zS => ?_)
    exact hf _ _ _ _ hq H1 locs1 _ _ ls yl zR zS (by show cells + _ ≤ u.1 + _; omega) (by show slots + _ ≤ u.2 + _; omega)
  · exact q.elim
theorem r_callS {E : ME} {own : String} {cc : ByteArray} {nL : Nat} {rm : Room} (hE : EnvOk E own cc nL rm) {pc : Nat} {f : FT} {idx n : Nat} {y : MethodName} {bytes : ByteArray} {maxL : Nat} {ret : Option FieldType} {rm' : Room} {Xr : String → Hp → Prop} (d : decode cc pc = .ok (.invokestatic idx, 3))
    (w1 : Cond.methodLink own idx y ∈ TB) (w2 : Cond.static y ∈ TB) (w4 : Cond.initialized y.cls ∈ TB) (w5 : Cond.code y bytes maxL ret ∈ TB)
    (hd : y.cls ≠ "java/lang/invoke/MethodHandle" ∧ y.cls ≠ "java/lang/invoke/VarHandle" ∧ (parseMethodDescriptor y.desc).map (fun d => d.parameters.length) = some n) (hR9 : rm'.frames + 1 ≤ rm.frames ∧ 8 + (maxL + 11) + rm'.locals ≤ rm.locals) (hX : XOk E rm Xr) (hf : At E (pc + 3) f) : At E pc (o_callS n rm'.cells rm'.slots rm.cells rm.slots (Ct E.2.1 y (.code y bytes maxL ret) rm') Xr f) := by
  intro L S h u q
  obtain ⟨p, l, e, R, s, m, args, below, meth, c, Qm, D, dA, A⟩ := E
  obtain ⟨kx, kb, kl, kown, kts, klk, kR, kW, kA, kst⟩ := hE
  intro H locs cells slots ls yl yR yS yc ys
  subst kR
  obtain ⟨q1, q2, q4, q5, q6⟩ := q
  have hst : S = (S.take n).reverse.reverse ++ S.drop n := by rw [List.reverse_reverse, List.take_append_drop]
  have hsub := Af_sub yR yS kA
  have hrun := vx_runS (e := e) (below := below) (meth := meth) (locs := locs) (As := (S.take n).reverse) (rest := S.drop n) (g := F0 m pc ls S) ⟨kx, kb, kl, kown, kts⟩ (q6 D dA) ⟨callB_of n kts (GoodTB (in_c w5 (fun x hx => hx))) rfl rfl rfl (kts _ w4) (kts _ w1) hd hR9, kts _ w2⟩ ⟨blind_ok, fun U hU hW => ⟨rfl, pre_ok kW yR yS kA hU hW⟩⟩ rfl (by rw [List.length_reverse]; exact q1) (by show ls.size = nL; rw [yl.1, kl]) hst (lv_room q2) d (cells := cells) (slots := slots) ⟨by omega, by omega⟩
  refine call_go hrun yS hsub (fun En ce q9 h' H1 locs1 hx zR zS hce hcv hcl => hX pc ls _ En ce q9 H1 h' locs1 _ _ hx zR zS hce hcv hcl (by omega) (by omega)) (fun v h' H1 locs1 hq zR zS => ?_)
  exact hf _ _ _ _ hq H1 locs1 _ _ ls yl zR zS (by show cells + _ ≤ u.1 + _; omega) (by show slots + _ ≤ u.2 + _; omega)
end CALLS

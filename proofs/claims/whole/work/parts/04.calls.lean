section CALLS
-- new things
def o_new (ci N mc ms : Nat) (f : FT) : FT := fun L S h u => u.1 + 1 ≤ mc ∧ u.2 + N ≤ ms ∧ f L (.ref (hn h) :: S) (al h (ci + 1, N)) (u.1 + 1, u.2 + N)
def o_newa (k mc ms : Nat) (f : FT) : FT := fun L S h u => match S with
  | .int n :: S => ¬ n < 0 ∧ n.toNatClampNeg ≤ 1000 ∧ u.1 + 1 ≤ mc ∧ u.2 + n.toNatClampNeg ≤ ms ∧ f L (.ref (hn h) :: S) (al h (k, n.toNatClampNeg)) (u.1 + 1, u.2 + n.toNatClampNeg)
  | _ => False
theorem hs_al {h : Hp} {q : Nat × Nat} : hs (al h q) (hn h) = q := if_pos rfl
theorem hI_al {h : Hp} {q : Nat × Nat} : hI (al h q) (hn h) = fun _ => 0 := funext fun j => if_pos rfl
theorem hR_al {h : Hp} {q : Nat × Nat} : hR (al h q) (hn h) = fun _ => 0 := funext fun j => if_pos rfl
theorem hL_al {h : Hp} {q : Nat × Nat} : hL (al h q) (hn h) = fun _ => 0 := funext fun j => if_pos rfl
theorem hD_al {h : Hp} {q : Nat × Nat} : hD (al h q) (hn h) = fun _ => 0 := funext fun j => if_pos rfl
theorem r_new {E : ME} {own : String} {cc : ByteArray} {nL : Nat} {rm : Room} (hE : EnvOk E own cc nL rm) {pc : Nat} {f : FT} {idx ci N : Nat} {C : String} {T : u_T} (d : decode cc pc = .ok (.new idx, 3)) (hci : ci + 1 < 20) (hc : cls[ci]? = some (C, T, N)) (hin : ∀ w ∈ u_ws C T N, w ∈ TB) (ty : Nat → FieldType) (hty : ∀ k, k < N → parseFieldDescriptor (T k).2.2.1 = some (ty k)) (hdv : ∀ h a j, j < N → (∀ j, hI h a j = 0) → (∀ j, hR h a j = 0) → defaultValue (ty j) = fv h ci a j)
    (w1 : Cond.classLink own idx C ∈ TB) (w2 : Cond.instantiable C N ∈ TB) (w3 : Cond.initialized C ∈ TB) (hf : At E (pc + 3) f) : At E pc (o_new ci N rm.cells rm.slots f) := by
  intro L S h u q
  obtain ⟨p, l, e, R, s, m, args, below, meth, c, Qm, D, dA, A⟩ := E
  obtain ⟨kx, kb, kl, kown, kts, klk, kR, kW, kA, kst⟩ := hE
  intro H locs cells slots ls yl yR yS yc ys
  subst kR
  obtain ⟨q1, q2, q3⟩ := q
  have hKn := kW.1.1 ci _ hc
  refine W.newcK kx kb kown (kts _ w1) (kts _ w2) (kts _ w3) rfl d (by omega) (by omega) hKn.2.1 rfl fun H1 kC hkC e1 z1 o1 => ?_
  have hz : hn h = H.size := yR.1.symm
  refine W.eq (g2 := F0 m (pc + 3) ls (.ref (hn h) :: S)) (by rw [hz]) ?_
  refine hf _ _ _ _ q3 H1 locs (cells + 1) (slots + N) ls yl (yR.push z1 o1 (kA _ (by rw [hz]; exact yS.1)) ?_) ⟨Nat.le_trans yS.1 (by omega), fun x h1 h2 => (o1 x (Nat.lt_of_lt_of_le h1 yS.1)).trans (yS.2.1 x h1 h2), yS.2.2⟩ (by show cells + 1 ≤ u.1 + 1; omega) (by show slots + N ≤ u.2 + N; omega)
  refine CellOk.obj hs_al hci hc rfl ?_
  rw [hz]
  refine (u_born ty kts hin hKn hkC e1 hty).to (fun j hj => ?_)
  rw [← hz]
  exact hdv _ _ j hj (fun j => congrFun hI_al j) (fun j => congrFun hR_al j)
theorem r_newa {E : ME} {own : String} {cc : ByteArray} {nL : Nat} {rm : Room} (hE : EnvOk E own cc nL rm) {pc : Nat} {f : FT} {k t : Nat} {at9 : ArrayType} (d : decode cc pc = .ok (.newarray at9, 2)) (hk : 20 ≤ k) (hk2 : k ≤ 24) (ht : ATY[t]? = some (k, newarray.typeOf at9)) (w1 : Cond.arrayClass (newarray.typeOf at9) ∈ TB) (hb8 : componentBytes (newarray.typeOf at9) ≤ 8) (hdv : ∀ h a j, (∀ j, hI h a j = 0) → (∀ j, hL h a j = 0) → (∀ j, hD h a j = 0) → defaultValue (newarray.typeOf at9) = av h k a j) (hf : At E (pc + 2) f) : At E pc (o_newa k rm.cells rm.slots f) := by
  intro L S h u q
  unfold o_newa at q
  split at q
  · rename_i n S
    obtain ⟨p, l, e, R, s, m, args, below, meth, c, Qm, D, dA, A⟩ := E
    obtain ⟨kx, kb, kl, kown, kts, klk, kR, kW, kA, kst⟩ := hE
    intro H locs cells slots ls yl yR yS yc ys
    subst kR
    obtain ⟨q0, q9, q1, q2, q3⟩ := q
    have hbb : n.toNatClampNeg * componentBytes (newarray.typeOf at9) ≤ 536870912 := Nat.le_trans (Nat.mul_le_mul q9 hb8) (by decide)
    refine va_newaK kx kb (kts _ w1) rfl d rfl q0 rfl hbb (by omega) (by omega) rfl fun H1 cA e1 z1 o1 hAr hNm => ?_
    have hz : hn h = H.size := yR.1.symm
    have hcA : cA = dA k := by
      have h9 := (kW.arr ht).2
      have h8 : s.vm.findClass ("[" ++ (newarray.typeOf at9).toString) = some (dA k) := by cases at9 <;> exact h9
      exact Option.some.inj (hNm.symm.trans h8)
    refine W.eq (g2 := F0 m (pc + 2) ls (.ref (hn h) :: S)) (by rw [hz]) ?_
    refine hf _ _ _ _ q3 H1 locs (cells + 1) (slots + n.toNatClampNeg) ls yl (yR.push z1 o1 (kA _ (by rw [hz]; exact yS.1)) ?_) ⟨Nat.le_trans yS.1 (by omega), fun x h1 h2 => (o1 x (Nat.lt_of_lt_of_le h1 yS.1)).trans (yS.2.1 x h1 h2), yS.2.2⟩ (by show cells + 1 ≤ u.1 + 1; omega) (by show slots + _ ≤ u.2 + _; omega)
    refine CellOk.arr (k := k) (by rw [hs_al]) hk ?_
    rw [hs_al, hz, e1, hcA]
    congr 2
    funext j
    rw [← hz]
    exact hdv _ _ j (fun j => congrFun hI_al j) (fun j => congrFun hL_al j) (fun j => congrFun hD_al j)
  · exact q.elim
theorem r_newq {E : ME} {own : String} {cc : ByteArray} {nL : Nat} {rm : Room} (hE : EnvOk E own cc nL rm) {pc : Nat} {f : FT} {k t idx : Nat} {C : String} (d : decode cc pc = .ok (.anewarray idx, 3)) (hk : 25 ≤ k) (ht : ATY[t]? = some (k, .object C)) (w1 : Cond.classLink own idx C ∈ TB) (w2 : C ∈ AOS) (hf : At E (pc + 3) f) : At E pc (o_newa k rm.cells rm.slots f) := by
  intro L S h u q
  unfold o_newa at q
  split at q
  · rename_i n S
    obtain ⟨p, l, e, R, s, m, args, below, meth, c, Qm, D, dA, A⟩ := E
    obtain ⟨kx, kb, kl, kown, kts, klk, kR, kW, kA, kst⟩ := hE
    intro H locs cells slots ls yl yR yS yc ys
    subst kR
    obtain ⟨q0, q9, q1, q2, q3⟩ := q
    have hbb : n.toNatClampNeg * 4 ≤ 536870912 := Nat.le_trans (Nat.mul_le_mul_right 4 q9) (by decide)
    have hao : (Cond.arrayOver (.object C)).before args s = true := va_AO.use (kW.2.1.2.2.1 C w2)
    refine W.anew kx kb kown (kts _ w1) hao rfl d rfl q0 hbb (by omega) (by omega) fun cA kA9 comp f1 f2 f3 f4 => ?_
    generalize hH1 : H.push ({ cls := cA, slots := Array.replicate n.toNatClampNeg .null, vm := .none } : Cell) = H1
    have z1 : H1.size = H.size + 1 := by rw [← hH1, Array.size_push]
    have e1 : H1[H.size]? = some (arrV cA n.toNatClampNeg (fun _ => .null)) := by rw [← hH1, Array.getElem?_push_size, ← arrV_new]
    have o1 : ∀ q : Nat, q < H.size → H1[q]? = H[q]? := fun q hq => by rw [← hH1, Array.getElem?_push, if_neg (Nat.ne_of_lt hq)]
    have hz : hn h = H.size := yR.1.symm
    have hcA : cA = dA k := by
      obtain ⟨_, _, _, _, _, h8⟩ := (kW.arr ht).2
      exact Option.some.inj (f1.symm.trans h8)
    refine W.eq (g2 := F0 m (pc + 3) ls (.ref (hn h) :: S)) (by rw [hz]) ?_
    refine hf _ _ _ _ q3 H1 locs (cells + 1) (slots + n.toNatClampNeg) ls yl (yR.push z1 o1 (kA _ (by rw [hz]; exact yS.1)) ?_) ⟨Nat.le_trans yS.1 (by omega), fun x h1 h2 => (o1 x (Nat.lt_of_lt_of_le h1 yS.1)).trans (yS.2.1 x h1 h2), yS.2.2⟩ (by show cells + 1 ≤ u.1 + 1; omega) (by show slots + _ ≤ u.2 + _; omega)
    refine CellOk.arr (k := k) (by rw [hs_al]) (by omega) ?_
    rw [hs_al, hz, e1, hcA]
    congr 2
    funext j
    rw [← hz, av_ref hk, hR_al]
    rfl
  · exact q.elim
def o_oinit (f : FT) : FT := fun L S h u => match S with
    | [.ref _] => f L [] h u
    | _ => False
theorem r_objInit {E : ME} {own : String} {cc : ByteArray} {nL : Nat} {rm : Room} (hE : EnvOk E own cc nL rm) {pc : Nat} {f : FT} {idx : Nat} (d : decode cc pc = .ok (.invokespecial idx, 3)) (w1 : Cond.methodLink own idx Lib.objectInit ∈ TB) (w2 : Cond.instanceMethod Lib.objectInit ∈ TB) (w3 : Cond.code Lib.objectInit ⟨#[0xb1]⟩ 1 none ∈ TB) (hr1 : 1 ≤ rm.frames) (hr2 : 12 ≤ rm.locals) (hf : At E (pc + 3) f) : At E pc (o_oinit f) := by
  intro L S h u q
  unfold o_oinit at q
  split at q
  · rename_i a
    obtain ⟨p, l, e, R, s, m, args, below, meth, c, Qm, D, dA, A⟩ := E
    obtain ⟨kx, kb, kl, kown, kts, klk, kR, kW, kA, kst⟩ := hE
    intro H locs cells slots ls yl yR yS yc ys
    subst kR
    exact W.objInit kx kb kown (kts _ w1) (kts _ w2) (kts _ w3) rfl yl.1 rfl d hr1 (by show 2 * 0 + 0 + 12 ≤ _; omega) (hf _ _ _ _ q H locs cells slots ls yl yR yS yc ys)
  · exact q.elim
-- contracts
def QcOf (D : va_G) (dA : Nat → ClassId) (h0 : Hp) (Qr : Option Value → Hp → Prop) : Array Value → State → Outcome → State → Prop := fun _ st o t => (∃ v h', o = .returned v ∧ Qr v h' ∧ Rp D dA (Af h0) t.heap h') ∧ va_F (Af h0) st t
def XcOf (D : va_G) (dA : Nat → ClassId) (h0 : Hp) (Xr : String → Hp → Prop) : String → State → State → Prop := fun E st t => (∃ h', Xr E h' ∧ Rp D dA (Af h0) t.heap h') ∧ va_F (Af h0) st t
def PcOf (D : va_G) (dA : Nat → ClassId) (h : Hp) (av : List Value) : Array Value → State → Prop := va_Pc av (fun U => Wd D dA (Af h) U ∧ Rp D dA (Af h) U.heap h)
def Ct (l : Launch) (y : MethodName) (hd : Cond) (rm : Room) (av : List Value) (h : Hp) (Qr : Option Value → Hp → Prop) (Xr : String → Hp → Prop) : Prop :=
  ∀ (D : va_G) (dA : Nat → ClassId), vx_Met l y (hd :: TB) rm (PcOf D dA h av) (QcOf D dA h Qr) (XcOf D dA h Xr) rm.cells rm.slots (Af h)
def MEnv (E : ME) (y : MethodName) (h0 : Hp) (Qr : Option Value → Hp → Prop) (Xr : String → Hp → Prop) (ret : Option FieldType) (tb : List ExceptionTableEntry) : Prop := match E with
  | (_, _, _, R, s, _, args, below, meth, c, Qm, D, dA, A) => Qm = vx_MQ below (QcOf D dA h0 Qr) (XcOf D dA h0 Xr) args s R.cells R.slots (Af h0) ∧ A = Af h0 ∧ meth.sig.returnType = ret ∧ s.heap.size = hn h0 ∧ c.exceptionTable.toList = tb ∧ meth.name = y.name
theorem Ct_of {l : Launch} (hst : l.stackTraces = false) {y : MethodName} {b : ByteArray} {nL : Nat} {ret : Option FieldType} {rm : Room} {av : List Value} {h : Hp} {Qr : Option Value → Hp → Prop} {Xr : String → Hp → Prop} (hy : plainName y.cls = true) (hl : (lg_sl av).length ≤ nL)
    (body : ∀ E : ME, E.2.1 = l → EnvOk E y.cls b nL rm → MEnv E y h Qr Xr ret [] → G E 0 (lv_args 0 av) [] h (0, 0)) : Ct l y (.code y b nL ret) rm av h Qr Xr := by
  intro D dA
  refine vx_ofW (cc := b) (maxL := nL) (ret := ret) hy rfl ?_
  intro p e s m args below meth c s₁ B hml ht hP
  obtain ⟨rfl, hW, hRp⟩ := hP
  have hts := atoms_spec (ws := Cond.code y b nL ret :: TB) B.pre
  have ht0 : c.exceptionTable.toList = [] := List.eq_nil_iff_forall_not_mem.mpr (fun x hx => ht x hx)
  have hG := body (p, l, e, rm, s, m, av.toArray, below, meth, c, vx_MQ below (QcOf D dA h Qr) (XcOf D dA h Xr) av.toArray s rm.cells rm.slots (Af h), D, dA, Af h) rfl
    ⟨B.exec, B.bytes, hml, findClass_of_methodNamed B.named, fun w hw => hts w (List.mem_cons_of_mem _ hw), B.notSynchronized, rfl, hW, fun q hq => Or.inr (by rw [← hRp.1]; exact hq), hst⟩
    ⟨rfl, rfl, B.returns, hRp.1, ht0, (name_of_methodNamed B.named B.method).1⟩
  rw [lg_entry_eq]
  exact hG s.heap [] 0 0 _ (by rw [hml]; exact lv_entry av hl) hRp va_S.rf (Nat.le_refl _) (Nat.le_refl _)
theorem Ct_ofH {l : Launch} (hst : l.stackTraces = false) {y : MethodName} {b : ByteArray} {nL : Nat} {ret : Option FieldType} {hh : List (Nat × Nat × Nat × Nat)} {rm : Room} {av : List Value} {h : Hp} {Qr : Option Value → Hp → Prop} {Xr : String → Hp → Prop} (hy : plainName y.cls = true) (hl : (lg_sl av).length ≤ nL)
    (body : ∀ E : ME, E.2.1 = l → EnvOk E y.cls b nL rm → MEnv E y h Qr Xr ret (tableOf hh) → G E 0 (lv_args 0 av) [] h (0, 0)) : Ct l y (.codeWith y b nL ret hh) rm av h Qr Xr := by
  intro D dA
  refine vx_ofWH (cc := b) (maxL := nL) (ret := ret) (hh := hh) hy rfl ?_
  intro p e s m args below meth c s₁ B hml hP
  obtain ⟨rfl, hW, hRp⟩ := hP
  have hts := atoms_spec (ws := Cond.codeWith y b nL ret hh :: TB) B.pre
  have ht0 : c.exceptionTable.toList = tableOf hh := vx_table (x := y) B (hts _ List.mem_cons_self)
  have hG := body (p, l, e, rm, s, m, av.toArray, below, meth, c, vx_MQ below (QcOf D dA h Qr) (XcOf D dA h Xr) av.toArray s rm.cells rm.slots (Af h), D, dA, Af h) rfl
    ⟨B.exec, B.bytes, hml, findClass_of_methodNamed B.named, fun w hw => hts w (List.mem_cons_of_mem _ hw), B.notSynchronized, rfl, hW, fun q hq => Or.inr (by rw [← hRp.1]; exact hq), hst⟩
    ⟨rfl, rfl, B.returns, hRp.1, ht0, (name_of_methodNamed B.named B.method).1⟩
  rw [lg_entry_eq]
  exact hG s.heap [] 0 0 _ (by rw [hml]; exact lv_entry av hl) hRp va_S.rf (Nat.le_refl _) (Nat.le_refl _)
theorem Rp.narrow {D : va_G} {dA : Nat → ClassId} {A B : Nat → Prop} {H : Heap} {h : Hp} (R0 : Rp D dA A H h) (hAB : ∀ q, A q → B q) : Rp D dA B H h := ⟨R0.1, fun a ha => ⟨hAB a (R0.2 a ha).1, (R0.2 a ha).2⟩⟩
theorem Rp.self {D : va_G} {dA : Nat → ClassId} {A : Nat → Prop} {H : Heap} {h : Hp} (R0 : Rp D dA A H h) : Rp D dA (Af h) H h := ⟨R0.1, fun a ha => ⟨Or.inl ha, (R0.2 a ha).2⟩⟩
-- ends
def o_iret (mc ms : Nat) (Qr : Option Value → Hp → Prop) : FT := fun _ S h u => match S with
  | [.int v] => u.1 ≤ mc ∧ u.2 ≤ ms ∧ Qr (some (.int v)) h
  | _ => False
def o_zret (mc ms : Nat) (Qr : Option Value → Hp → Prop) : FT := fun _ S h u => match S with
  | [.int v] => u.1 ≤ mc ∧ u.2 ≤ ms ∧ (v = 0 ∨ v = 1) ∧ Qr (some (.int v)) h
  | _ => False
def o_lret (mc ms : Nat) (Qr : Option Value → Hp → Prop) : FT := fun _ S h u => match S with
  | [.long v] => u.1 ≤ mc ∧ u.2 ≤ ms ∧ Qr (some (.long v)) h
  | _ => False
def o_fret (mc ms : Nat) (Qr : Option Value → Hp → Prop) : FT := fun _ S h u => match S with
  | [.float v] => u.1 ≤ mc ∧ u.2 ≤ ms ∧ Qr (some (.float v)) h
  | _ => False
def o_dret (mc ms : Nat) (Qr : Option Value → Hp → Prop) : FT := fun _ S h u => match S with
  | [.double v] => u.1 ≤ mc ∧ u.2 ≤ ms ∧ Qr (some (.double v)) h
  | _ => False
def o_vret (mc ms : Nat) (Qr : Option Value → Hp → Prop) : FT := fun _ S h u => match S with
  | [] => u.1 ≤ mc ∧ u.2 ≤ ms ∧ Qr none h
  | _ => False
theorem r_iret {E : ME} {own : String} {cc : ByteArray} {nL : Nat} {rm : Room} (hE : EnvOk E own cc nL rm) {y : MethodName} {h0 : Hp} {Qr : Option Value → Hp → Prop} {Xr : String → Hp → Prop} {tb : List ExceptionTableEntry} (hM : MEnv E y h0 Qr Xr (some .int) tb) {pc : Nat} (d : decode cc pc = .ok (.ireturn, 1)) : At E pc (o_iret rm.cells rm.slots Qr) := by
  intro L S h u q
  unfold o_iret at q
  split at q
  · rename_i v
    obtain ⟨p, l, e, R, s, m, args, below, meth, c, Qm, D, dA, A⟩ := E
    obtain ⟨kx, kb, kl, kown, kts, klk, kR, kW, kA, kst⟩ := hE
    obtain ⟨m1, m2, m3, m4, m5, -⟩ := hM
    intro H locs cells slots ls yl yR yS yc ys
    subst kR; subst m1; subst m2
    obtain ⟨q1, q2, q3⟩ := q
    refine W.widen (k := R.cells) (n := R.slots) (by omega) (by omega) (vx_ret ?_)
    exact W.iret kx kb m3 (fun t ht hW => ⟨⟨_, h, rfl, q3, by rw [ht]; exact yR⟩, yS.F ht⟩) yS.2.2 d
  · exact q.elim
theorem r_zret {E : ME} {own : String} {cc : ByteArray} {nL : Nat} {rm : Room} (hE : EnvOk E own cc nL rm) {y : MethodName} {h0 : Hp} {Qr : Option Value → Hp → Prop} {Xr : String → Hp → Prop} {tb : List ExceptionTableEntry} (hM : MEnv E y h0 Qr Xr (some .boolean) tb) {pc : Nat} (d : decode cc pc = .ok (.ireturn, 1)) : At E pc (o_zret rm.cells rm.slots Qr) := by
  intro L S h u q
  unfold o_zret at q
  split at q
  · rename_i v
    obtain ⟨p, l, e, R, s, m, args, below, meth, c, Qm, D, dA, A⟩ := E
    obtain ⟨kx, kb, kl, kown, kts, klk, kR, kW, kA, kst⟩ := hE
    obtain ⟨m1, m2, m3, m4, m5, -⟩ := hM
    intro H locs cells slots ls yl yR yS yc ys
    subst kR; subst m1; subst m2
    obtain ⟨q1, q2, q4, q3⟩ := q
    refine W.widen (k := R.cells) (n := R.slots) (by omega) (by omega) (vx_ret ?_)
    exact W.zret kx kb m3 (by rcases q4 with e9 | e9 <;> subst e9 <;> rfl) (fun t ht hW => ⟨⟨_, h, rfl, q3, by rw [ht]; exact yR⟩, yS.F ht⟩) yS.2.2 d
  · exact q.elim
theorem r_vret {E : ME} {own : String} {cc : ByteArray} {nL : Nat} {rm : Room} (hE : EnvOk E own cc nL rm) {y : MethodName} {h0 : Hp} {Qr : Option Value → Hp → Prop} {Xr : String → Hp → Prop} {tb : List ExceptionTableEntry} (hM : MEnv E y h0 Qr Xr none tb) {pc : Nat} (d : decode cc pc = .ok (.return_, 1)) : At E pc (o_vret rm.cells rm.slots Qr) := by
  intro L S h u q
  unfold o_vret at q
  split at q
  · obtain ⟨p, l, e, R, s, m, args, below, meth, c, Qm, D, dA, A⟩ := E
    obtain ⟨kx, kb, kl, kown, kts, klk, kR, kW, kA, kst⟩ := hE
    obtain ⟨m1, m2, m3, m4, m5, -⟩ := hM
    intro H locs cells slots ls yl yR yS yc ys
    subst kR; subst m1; subst m2
    obtain ⟨q1, q2, q3⟩ := q
    refine W.widen (k := R.cells) (n := R.slots) (by omega) (by omega) (vx_ret ?_)
    exact W.vret kx kb m3 (fun t ht hW => ⟨⟨_, h, rfl, q3, by rw [ht]; exact yR⟩, yS.F ht⟩) yS.2.2 d
  · exact q.elim
theorem r_lret {E : ME} {own : String} {cc : ByteArray} {nL : Nat} {rm : Room} (hE : EnvOk E own cc nL rm) {y : MethodName} {h0 : Hp} {Qr : Option Value → Hp → Prop} {Xr : String → Hp → Prop} {tb : List ExceptionTableEntry} (hM : MEnv E y h0 Qr Xr (some .long) tb) {pc : Nat} (d : decode cc pc = .ok (.lreturn, 1)) : At E pc (o_lret rm.cells rm.slots Qr) := by
  intro L S h u q
  unfold o_lret at q
  split at q
  · rename_i v
    obtain ⟨p, l, e, R, s, m, args, below, meth, c, Qm, D, dA, A⟩ := E
    obtain ⟨kx, kb, kl, kown, kts, klk, kR, kW, kA, kst⟩ := hE
    obtain ⟨m1, m2, m3, m4, m5, -⟩ := hM
    intro H locs cells slots ls yl yR yS yc ys
    subst kR; subst m1; subst m2
    obtain ⟨q1, q2, q3⟩ := q
    refine W.widen (k := R.cells) (n := R.slots) (by omega) (by omega) (vx_ret ?_)
    exact W.lret kx kb m3 (fun t ht hW => ⟨⟨_, h, rfl, q3, by rw [ht]; exact yR⟩, yS.F ht⟩) yS.2.2 d
  · exact q.elim
theorem r_fret {E : ME} {own : String} {cc : ByteArray} {nL : Nat} {rm : Room} (hE : EnvOk E own cc nL rm) {y : MethodName} {h0 : Hp} {Qr : Option Value → Hp → Prop} {Xr : String → Hp → Prop} {tb : List ExceptionTableEntry} (hM : MEnv E y h0 Qr Xr (some .float) tb) {pc : Nat} (d : decode cc pc = .ok (.freturn, 1)) : At E pc (o_fret rm.cells rm.slots Qr) := by
  intro L S h u q
  unfold o_fret at q
  split at q
  · rename_i v
    obtain ⟨p, l, e, R, s, m, args, below, meth, c, Qm, D, dA, A⟩ := E
    obtain ⟨kx, kb, kl, kown, kts, klk, kR, kW, kA, kst⟩ := hE
    obtain ⟨m1, m2, m3, m4, m5, -⟩ := hM
    intro H locs cells slots ls yl yR yS yc ys
    subst kR; subst m1; subst m2
    obtain ⟨q1, q2, q3⟩ := q
    refine W.widen (k := R.cells) (n := R.slots) (by omega) (by omega) (vx_ret ?_)
    exact W.fret kx kb m3 (fun t ht hW => ⟨⟨_, h, rfl, q3, by rw [ht]; exact yR⟩, yS.F ht⟩) yS.2.2 d
  · exact q.elim
theorem r_dret {E : ME} {own : String} {cc : ByteArray} {nL : Nat} {rm : Room} (hE : EnvOk E own cc nL rm) {y : MethodName} {h0 : Hp} {Qr : Option Value → Hp → Prop} {Xr : String → Hp → Prop} {tb : List ExceptionTableEntry} (hM : MEnv E y h0 Qr Xr (some .double) tb) {pc : Nat} (d : decode cc pc = .ok (.dreturn, 1)) : At E pc (o_dret rm.cells rm.slots Qr) := by
  intro L S h u q
  unfold o_dret at q
  split at q
  · rename_i v
    obtain ⟨p, l, e, R, s, m, args, below, meth, c, Qm, D, dA, A⟩ := E
    obtain ⟨kx, kb, kl, kown, kts, klk, kR, kW, kA, kst⟩ := hE
    obtain ⟨m1, m2, m3, m4, m5, -⟩ := hM
    intro H locs cells slots ls yl yR yS yc ys
    subst kR; subst m1; subst m2
    obtain ⟨q1, q2, q3⟩ := q
    refine W.widen (k := R.cells) (n := R.slots) (by omega) (by omega) (vx_ret ?_)
    exact W.dret kx kb m3 (fun t ht hW => ⟨⟨_, h, rfl, q3, by rw [ht]; exact yR⟩, yS.F ht⟩) yS.2.2 d
  · exact q.elim
-- calls
theorem AOA_moved {ty : FieldType} {u U : State} (hvm : u.vm.Alike U.vm) (h : (Cond.arrayOver (.array ty)).before #[] u = true) : (Cond.arrayOver (.array ty)).before #[] U = true := by
  have h9 : (Cond.arrayOver (.array ty)).holds #[] u none u [] = true := h
  simp only [Cond.holds, Cond.value, beq_iff_eq] at h9
  cases hc : u.vm.findClass (FieldType.array ty).toString with
  | none => simp [hc] at h9
  | some comp =>
    simp only [hc, Option.bind_some, Option.bind_eq_some_iff, Option.map_eq_some_iff] at h9
    obtain ⟨c, hi, k, hk, hb⟩ := h9
    obtain ⟨k', hk', he⟩ := hvm.2.2 _ _ hk
    have hi2 : (U.vm.classes.findIdx? fun (x : Class) => match x.kind with | .array component _ => component == comp | _ => false) = some c := by
      have h1 := va_idx_bare u.vm comp
      have h2 := va_idx_bare U.vm comp
      have h3 : u.vm.bare = U.vm.bare := by first | exact hvm.bare_eq | exact hvm.bare_eq.symm
      rw [h3] at h1
      exact h2.symm.trans (h1.trans hi)
    have f1 : U.vm.findClass (FieldType.array ty).toString = some comp := by rw [hvm.findClass]; exact hc
    have f2 : U.vm.findClass ("[" ++ (FieldType.array ty).toString) = u.vm.findClass ("[" ++ (FieldType.array ty).toString) := by rw [hvm.findClass]
    unfold Cond.before Cond.holds
    simp only [Cond.value]
    rw [f1, Option.bind_some]
    refine (congrArg (fun o : Option Nat => (o.bind (fun c => (U.vm.classes[c]?).map fun (k : Class) => match k.kind with | .array _ ty' => decide (ty' = FieldType.array ty) && decide (U.vm.findClass ("[" ++ (FieldType.array ty).toString) = some c) | _ => false) == some true)) hi2).trans ?_
    simp only [Option.bind_some, hk', Option.map_some, beq_iff_eq, Option.some.injEq]
    rw [he, f2]
    exact hb
theorem NBk.warm {s U : State} (hW : s.WarmedH U.vm) (h : NBk s) : NBk U := by
  obtain ⟨h0, h1, h2, h3, h4, h5⟩ := h
  refine ⟨⟨fun X hX => (h0.1 X hX).moved hW.alike, fun x hx9 => va_Nw.warmD hW (h0.2 x hx9)⟩, fun q hq => va_Nw.warmM hW (h1 q hq), fun C hC => (h2 C hC).moved hW.alike, fun q hq => ?_, fun q hq => (h4 q hq).moved hW.alike, AOA_moved hW.alike h5⟩
  obtain ⟨sa, h9⟩ := h3 q hq
  exact ⟨sa, h9.warm hW⟩
theorem NBk.same {s U : State} (hv : s.vm = U.vm) (h : NBk s) : NBk U := by
  obtain ⟨h0, h1, h2, h3, h4, h5⟩ := h
  have ha : s.vm.Alike U.vm := by rw [hv]; exact Vm.Alike.refl _
  refine ⟨⟨fun X hX => (h0.1 X hX).moved ha, fun x hx9 => va_Nw.same rfl hv (h0.2 x hx9)⟩, fun q hq => va_Nw.same rfl hv (h1 q hq), fun C hC => (h2 C hC).moved ha, fun q hq => ?_, fun q hq => (h4 q hq).moved ha, AOA_moved ha h5⟩
  obtain ⟨sa, h9⟩ := h3 q hq
  exact ⟨sa, h9.same hv.symm⟩
theorem blind_ok {D : va_G} {dA : Nat → ClassId} {h : Hp} {av : List Value} : FrameBlind (PcOf D dA h av) := by
  intro a U g mk q
  obtain ⟨e, ⟨w1, w2, w3, w4, w5⟩, r⟩ := q
  exact ⟨e, ⟨va_K.moved (u := U) (U := U.calling g mk a) (Vm.Alike.refl U.vm) w1, NBk.same (s := U) (U := U.calling g mk a) rfl w2, vx_Zq.moved (u := U) (U := U.calling g mk a) (Vm.Alike.refl U.vm) w3, vx_Zq.moved (u := U) (U := U.calling g mk a) (Vm.Alike.refl U.vm) w4, w5⟩, r⟩
theorem Af_sub {D : va_G} {dA : Nat → ClassId} {A : Nat → Prop} {s : State} {H : Heap} {h : Hp} {locs : List Loc} (yR : Rp D dA A H h) (yS : va_S A s.heap H locs) (kA : ∀ q, s.heap.size ≤ q → A q) : ∀ q, Af h q → A q := by
  intro q hq
  rcases hq with h1 | h1
  · exact (yR.2 q h1).1
  · exact kA q (Nat.le_trans yS.1 (by rw [yR.1]; exact h1))
theorem pre_ok {D : va_G} {dA : Nat → ClassId} {A : Nat → Prop} {s : State} {H : Heap} {h : Hp} {locs : List Loc} (kW : Wd D dA A s) (yR : Rp D dA A H h) (yS : va_S A s.heap H locs) (kA : ∀ q, s.heap.size ≤ q → A q) {U : State} (hU : U.heap = H) (hW : s.WarmedH U.vm) : Wd D dA (Af h) U ∧ Rp D dA (Af h) U.heap h := by
  obtain ⟨w1, w2, w3, w4, w5⟩ := kW
  have hsub := Af_sub yR yS kA
  rw [hU]
  refine ⟨⟨w1.moved hW.alike, w2.warm hW, ?_, ?_, fun z => w5 (hsub _ z)⟩, yR.self⟩
  · exact ((w3.moved hW.alike).kept (fun a h1 h2 => by rw [hU]; exact yS.2.1 a h1 h2)).narrow hsub
  · exact ((w4.moved hW.alike).kept (fun a h1 h2 => by rw [hU]; exact yS.2.1 a h1 h2)).narrow hsub
theorem call_go {p : Program} {l : Launch} {e : Env} {R : Room} {s : State} {m : MethodId} {args : Array Value} {below : List Frame} {meth : Method} {c : Code} {H : Heap} {locs : List Loc} {cells slots mc ms : Nat} {Q : State → Prop} {pc : Nat} {ls : Array Slot} {st0 rest : List Value} {D : va_G} {dA : Nat → ClassId} {A : Nat → Prop} {h : Hp} {Qr : Option Value → Hp → Prop} {Xr : String → Hp → Prop} {aa : Array Value}
    (hr : vx_Run p l e R s m args below meth c H locs cells slots mc ms (F0 m pc ls st0) rest (QcOf D dA h Qr aa) (XcOf D dA h Xr) (Af h)) (yS : va_S A s.heap H locs) (hsub : ∀ q, Af h q → A q)
    (kx : ∀ (E : String) (ce : Cell) (q9 : Addr) (h' : Hp) (H1 : Heap) (locs1 : List Loc), Xr E h' → Rp D dA A H1 h' → va_S A s.heap H1 locs1 → H1[q9]? = some ce → ce.vm = .none → s.vm.findClass E = some ce.cls → vx_W p l e R s m args below meth c H1 locs1 (cells + mc) (slots + ms) Q (F0 m pc ls rest) q9)
    (kk : ∀ (v : Option Value) (h' : Hp) (H1 : Heap) (locs1 : List Loc), Qr v h' → Rp D dA A H1 h' → va_S A s.heap H1 locs1 → W p l e R s m args below meth c H1 locs1 (cells + mc) (slots + ms) Q (F0 m (pc + 3) ls (v.toList ++ rest))) : W p l e R s m args below meth c H locs cells slots Q (F0 m pc ls st0) := by
  intro T hT X
  rcases hr T hT X with ⟨v, st₀, t, T', L, h0, X', hL, e1, e2, ⟨⟨v', h', hv, q1, q2⟩, hF⟩, st⟩ | ⟨q, st₀, t, T', L, E, ce, h0, X', hL, e1, e2, ⟨⟨h', q1, q2⟩, hF⟩, hce, hcv, hcl, st⟩
  · cases hv
    obtain ⟨k1, k2, k3⟩ := vx_keep h0 e1 yS (fun q _ z => hsub q z) hsub hL hF
    obtain ⟨t2, a1, b1⟩ := kk v h' T'.heap (locs ++ L) q1 (by rw [e1]; exact q2.narrow hsub) k3 T' rfl X'
    exact ⟨t2, st t2 a1, b1⟩
  · obtain ⟨k1, k2, k3⟩ := vx_keep h0 e1 yS (fun q _ z => hsub q z) hsub hL hF
    obtain ⟨t2, a1, b1⟩ := kx E ce q h' T'.heap (locs ++ L) q1 (by rw [e1]; exact q2.narrow hsub) k3 (by rw [e1]; exact hce) hcv hcl T' rfl X'
    exact ⟨t2, st.trans a1, b1⟩
/-- what a thrown thing does that no row of this method's table takes -/
def XOk (E : ME) (rm : Room) (Xr : String → Hp → Prop) : Prop := match E with
  | (p, l, e, R, s, m, args, below, meth, c, Qm, D, dA, A) => ∀ (pc : Nat) (ls : Array Slot) (rest : List Value) (En : String) (ce : Cell) (q9 : Addr) (H : Heap) (h : Hp) (locs : List Loc) (cells slots : Nat), Xr En h → Rp D dA A H h → va_S A s.heap H locs → H[q9]? = some ce → ce.vm = .none → s.vm.findClass En = some ce.cls → cells ≤ rm.cells → slots ≤ rm.slots → vx_W p l e R s m args below meth c H locs cells slots Qm (F0 m pc ls rest) q9
theorem XOk_none {E : ME} {rm : Room} : XOk E rm (fun _ _ => False) := by
  obtain ⟨p, l, e, R, s, m, args, below, meth, c, Qm, D, dA, A⟩ := E
  intro pc ls rest En ce q9 H h locs cells slots hx
  exact hx.elim
theorem XOk_out {E : ME} {own : String} {cc : ByteArray} {nL : Nat} {rm : Room} (hE : EnvOk E own cc nL rm) {y : MethodName} {h0 : Hp} {Qr : Option Value → Hp → Prop} {Xr : String → Hp → Prop} {ret : Option FieldType} (hM : MEnv E y h0 Qr Xr ret []) : XOk E rm Xr := by
  obtain ⟨p, l, e, R, s, m, args, below, meth, c, Qm, D, dA, A⟩ := E
  obtain ⟨kx, kb, kl, kown, kts, klk, kR, kW, kA, kst⟩ := hE
  obtain ⟨m1, m2, m3, m4, m5, -⟩ := hM
  intro pc ls rest En ce q9 H h locs cells slots hx yR yS hce hcv hcl hc hs'
  subst kR; subst m1; subst m2
  refine vx_out (fun x hx9 => by rw [m5] at hx9; cases hx9) klk hce hcv hcl (fun t ht hW => ⟨⟨h, hx, by rw [ht]; exact yR⟩, yS.F ht⟩) yS.2.2 hc hs'
abbrev SpT : Type := List Value → Hp → (Option Value → Hp → Prop) → (String → Hp → Prop) → Prop
/-- a call of a method of an object of class ci with n arguments -/
def o_callV (n ci N mc ms MC MS : Nat) (sp : SpT) (Xr : String → Hp → Prop) (f : FT) : FT := fun L S h u => match (S.take (n + 1)).reverse with
  | .ref b :: As => As.length = n ∧ ((S.drop (n + 1)).map fun v => v.category).sum ≤ 8 ∧ hs h b = (ci + 1, N) ∧ u.1 + mc ≤ MC ∧ u.2 + ms ≤ MS ∧ sp (.ref b :: As) h (fun v h' => f L (v.toList ++ S.drop (n + 1)) h' (u.1 + mc, u.2 + ms)) Xr
  | _ => False
def o_callS (n mc ms MC MS : Nat) (sp : SpT) (Xr : String → Hp → Prop) (f : FT) : FT := fun L S h u => (S.take n).length = n ∧ ((S.drop n).map fun v => v.category).sum ≤ 8 ∧ u.1 + mc ≤ MC ∧ u.2 + ms ≤ MS ∧ sp (S.take n).reverse h (fun v h' => f L (v.toList ++ S.drop n) h' (u.1 + mc, u.2 + ms)) Xr
theorem GoodTB {ws : List Cond} (h : ∀ w ∈ ws, w ∈ TB) : GoodIn TB ws := fun w hw => ⟨h w hw, good_of_word (List.all_eq_true.mp TB_good w (h w hw))⟩
theorem in_c {w : Cond} {l : List Cond} (h : w ∈ TB) (k : ∀ x ∈ l, x ∈ TB) : ∀ x ∈ w :: l, x ∈ TB := fun x hx => (List.mem_cons.mp hx).elim (fun e => by rw [e]; exact h) (k x)
theorem r_callV {E : ME} {own : String} {cc : ByteArray} {nL : Nat} {rm : Room} (hE : EnvOk E own cc nL rm) {pc : Nat} {f : FT} {idx ci N n : Nat} {C : String} {T : u_T} {y : MethodName} {bytes : ByteArray} {maxL : Nat} {ret : Option FieldType} {rm' : Room} {Xr : String → Hp → Prop} (d : decode cc pc = .ok (.invokevirtual idx, 3)) (hci : ci + 1 < 20) (hc : cls[ci]? = some (C, T, N))
    (w1 : Cond.methodLink own idx y ∈ TB) (w2 : Cond.instanceMethod y ∈ TB) (w3 : Cond.selects C y y ∈ TB) (w4 : Cond.initialized C ∈ TB) (w5 : Cond.code y bytes maxL ret ∈ TB)
    (hd : y.cls = C ∧ y.cls ≠ "java/lang/invoke/MethodHandle" ∧ y.cls ≠ "java/lang/invoke/VarHandle" ∧ (parseMethodDescriptor y.desc).map (fun d => d.parameters.length) = some n) (hR9 : rm'.frames + 1 ≤ rm.frames ∧ 8 + (maxL + 11) + rm'.locals ≤ rm.locals) (hX : XOk E rm Xr) (hf : At E (pc + 3) f) : At E pc (o_callV n ci N rm'.cells rm'.slots rm.cells rm.slots (Ct E.2.1 y (.code y bytes maxL ret) rm') Xr f) := by
  intro L S h u q
  unfold o_callV at q
  split at q
  · rename_i b As hAs
    obtain ⟨p, l, e, R, s, m, args, below, meth, c, Qm, D, dA, A⟩ := E
    obtain ⟨kx, kb, kl, kown, kts, klk, kR, kW, kA, kst⟩ := hE
    intro H locs cells slots ls yl yR yS yc ys
    subst kR
    obtain ⟨q1, q2, q3, q4, q5, q6⟩ := q
    have hst : S = As.reverse ++ .ref b :: S.drop (n + 1) := by
      have h1 := List.take_append_drop (n + 1) S
      have h2 : S.take (n + 1) = As.reverse ++ [.ref b] := by rw [← List.reverse_reverse (S.take (n + 1)), hAs]; simp
      rw [h2] at h1
      simpa using h1.symm
    have hsub := Af_sub yR yS kA
    obtain ⟨-, qq, g1, g2, cellB, c1, c2, c3, -⟩ := yR.ob q3 hci
    have hcls := (kW.1.1 ci _ hc).2.1
    have hrun := vx_runV (e := e) (below := below) (meth := meth) (locs := locs) (As := As) (rest := S.drop (n + 1)) (g := F0 m pc ls S) ⟨kx, kb, kl, kown, kts⟩ (q6 D dA) (cwV n kts (GoodTB (in_c w1 (in_c w2 (in_c w3 (in_c w4 (in_c w5 (fun x hx => hx))))))) rfl rfl rfl hd hR9) ⟨blind_ok, ⟨cellB, c1, by rw [c3]; rfl, by rw [c2]; exact hcls⟩, fun U hU hW => ⟨rfl, pre_ok kW yR yS kA hU hW⟩⟩ rfl q1 (by show ls.size = nL; rw [yl.1, kl]) hst (lv_room q2) d (cells := cells) (slots := slots) ⟨by omega, by omega⟩
    refine call_go hrun yS hsub (fun En ce q9 h' H1 locs1 hx zR zS hce hcv hcl => hX pc ls _ En ce q9 H1 h' locs1 _ _ hx zR zS hce hcv hcl (by omega) (by omega)) (fun v h' H1 locs1 hq zR zS => ?_)
    exact hf _ _ _ _ hq H1 locs1 _ _ ls yl zR zS (by show cells + _ ≤ u.1 + _; omega) (by show slots + _ ≤ u.2 + _; omega)
  · exact q.elim
theorem r_callS {E : ME} {own : String} {cc : ByteArray} {nL : Nat} {rm : Room} (hE : EnvOk E own cc nL rm) {pc : Nat} {f : FT} {idx n : Nat} {y : MethodName} {bytes : ByteArray} {maxL : Nat} {ret : Option FieldType} {rm' : Room} {Xr : String → Hp → Prop} (d : decode cc pc = .ok (.invokestatic idx, 3))
    (w1 : Cond.methodLink own idx y ∈ TB) (w2 : Cond.static y ∈ TB) (w4 : Cond.initialized y.cls ∈ TB) (w5 : Cond.code y bytes maxL ret ∈ TB)
    (hd : y.cls ≠ "java/lang/invoke/MethodHandle" ∧ y.cls ≠ "java/lang/invoke/VarHandle" ∧ (parseMethodDescriptor y.desc).map (fun d => d.parameters.length) = some n) (hR9 : rm'.frames + 1 ≤ rm.frames ∧ 8 + (maxL + 11) + rm'.locals ≤ rm.locals) (hX : XOk E rm Xr) (hf : At E (pc + 3) f) : At E pc (o_callS n rm'.cells rm'.slots rm.cells rm.slots (Ct E.2.1 y (.code y bytes maxL ret) rm') Xr f) := by
  intro L S h u q
  obtain ⟨p, l, e, R, s, m, args, below, meth, c, Qm, D, dA, A⟩ := E
  obtain ⟨kx, kb, kl, kown, kts, klk, kR, kW, kA, kst⟩ := hE
  intro H locs cells slots ls yl yR yS yc ys
  subst kR
  obtain ⟨q1, q2, q4, q5, q6⟩ := q
  have hst : S = (S.take n).reverse.reverse ++ S.drop n := by rw [List.reverse_reverse, List.take_append_drop]
  have hsub := Af_sub yR yS kA
  have hrun := vx_runS (e := e) (below := below) (meth := meth) (locs := locs) (As := (S.take n).reverse) (rest := S.drop n) (g := F0 m pc ls S) ⟨kx, kb, kl, kown, kts⟩ (q6 D dA) ⟨callB_of n kts (GoodTB (in_c w5 (fun x hx => hx))) rfl rfl rfl (kts _ w4) (kts _ w1) hd hR9, kts _ w2⟩ ⟨blind_ok, fun U hU hW => ⟨rfl, pre_ok kW yR yS kA hU hW⟩⟩ rfl (by rw [List.length_reverse]; exact q1) (by show ls.size = nL; rw [yl.1, kl]) hst (lv_room q2) d (cells := cells) (slots := slots) ⟨by omega, by omega⟩
  refine call_go hrun yS hsub (fun En ce q9 h' H1 locs1 hx zR zS hce hcv hcl => hX pc ls _ En ce q9 H1 h' locs1 _ _ hx zR zS hce hcv hcl (by omega) (by omega)) (fun v h' H1 locs1 hq zR zS => ?_)
  exact hf _ _ _ _ hq H1 locs1 _ _ ls yl zR zS (by show cells + _ ≤ u.1 + _; omega) (by show slots + _ ≤ u.2 + _; omega)
-- constructors' calls
theorem Met_of {l : Launch} {y : MethodName} {hd : Cond} {rm : Room} {av : List Value} {h : Hp} {Qr : Option Value → Hp → Prop} (hC : Ct l y hd rm av h Qr (fun _ _ => False)) (D : va_G) (dA : Nat → ClassId) : Met l y (hd :: TB) rm (PcOf D dA h av) (QcOf D dA h Qr) rm.cells rm.slots (Af h) := by
  refine Jvm.Free.MetFree.mono (hC D dA) (fun a s z => z) (fun _ _ _ _ _ z => z) (fun a s o s' _ z => ?_)
  rcases z with z | ⟨q, e, E, ce, L, ⟨⟨h', f, -⟩, -⟩, -⟩
  · exact z
  · exact f.elim
theorem run_to {p : Program} {l : Launch} {e : Env} {R : Room} {s : State} {m : MethodId} {args : Array Value} {below : List Frame} {meth : Method} {c : Code} {H : Heap} {locs : List Loc} {cells slots mc ms : Nat} {g : JFrame} {rest : List Value} {Qa : State → Outcome → State → Prop} {free : Addr → Prop} {XC : String → State → State → Prop} (h : va_Run p l e R s m args below meth c H locs cells slots mc ms g rest Qa free) : vx_Run p l e R s m args below meth c H locs cells slots mc ms g rest Qa XC free := fun T hT X => Or.inl (h T hT X)
/-- a constructor's call: n arguments beside the object -/
def o_callI (n mc ms MC MS : Nat) (sp : SpT) (f : FT) : FT := fun L S h u => match (S.take (n + 1)).reverse with
  | .ref b :: As => As.length = n ∧ ((S.drop (n + 1)).map fun v => v.category).sum ≤ 8 ∧ u.1 + mc ≤ MC ∧ u.2 + ms ≤ MS ∧ sp (.ref b :: As) h (fun v h' => f L (v.toList ++ S.drop (n + 1)) h' (u.1 + mc, u.2 + ms)) (fun _ _ => False)
  | _ => False
theorem st_split {S As : List Value} {b n : Nat} (hAs : (S.take (n + 1)).reverse = .ref b :: As) : S = As.reverse ++ .ref b :: S.drop (n + 1) := by
  have h1 := List.take_append_drop (n + 1) S
  have h2 : S.take (n + 1) = As.reverse ++ [.ref b] := by rw [← List.reverse_reverse (S.take (n + 1)), hAs]; simp
  rw [h2] at h1
  simpa using h1.symm
theorem r_callI {E : ME} {own : String} {cc : ByteArray} {nL : Nat} {rm : Room} (hE : EnvOk E own cc nL rm) {pc : Nat} {f : FT} {idx n : Nat} {y : MethodName} {bytes : ByteArray} {maxL : Nat} {rm' : Room} (d : decode cc pc = .ok (.invokespecial idx, 3))
    (w1 : Cond.methodLink own idx y ∈ TB) (w2 : Cond.instanceMethod y ∈ TB) (w4 : Cond.initialized y.cls ∈ TB) (w5 : Cond.code y bytes maxL none ∈ TB) (hy1 : y.name = "<init>")
    (hd : y.cls ≠ "java/lang/invoke/MethodHandle" ∧ y.cls ≠ "java/lang/invoke/VarHandle" ∧ (parseMethodDescriptor y.desc).map (fun d => d.parameters.length) = some n) (hR9 : rm'.frames + 1 ≤ rm.frames ∧ 8 + (maxL + 11) + rm'.locals ≤ rm.locals) (hf : At E (pc + 3) f) : At E pc (o_callI n rm'.cells rm'.slots rm.cells rm.slots (Ct E.2.1 y (.code y bytes maxL none) rm') f) := by
  intro L S h u q
  unfold o_callI at q
  split at q
  · rename_i b As hAs
    obtain ⟨p, l, e, R, s, m, args, below, meth, c, Qm, D, dA, A⟩ := E
    obtain ⟨kx, kb, kl, kown, kts, klk, kR, kW, kA, kst⟩ := hE
    intro H locs cells slots ls yl yR yS yc ys
    subst kR
    obtain ⟨q1, q2, q4, q5, q6⟩ := q
    have hsub := Af_sub yR yS kA
    have hrun := va_runI (e := e) (below := below) (meth := meth) (locs := locs) (As := As) (rest := S.drop (n + 1)) (g := F0 m pc ls S) ⟨kx, kb, kl, kown, kts⟩ (Met_of q6 D dA) (cwI n kts (GoodTB (in_c w5 (fun x hx => hx))) rfl rfl rfl (kts _ w4) (kts _ w1) (kts _ w2) hy1 hd hR9) ⟨blind_ok, fun U hU hW => ⟨rfl, pre_ok kW yR yS kA hU hW⟩⟩ rfl q1 (by show ls.size = nL; rw [yl.1, kl]) (st_split hAs) (lv_room q2) d (cells := cells) (slots := slots) ⟨by omega, by omega⟩
    refine call_go (Xr := fun _ _ => False) (run_to hrun) yS hsub (fun En ce q9 h' H1 locs1 hx => hx.elim) (fun v h' H1 locs1 hq zR zS => ?_)
    exact hf _ _ _ _ hq H1 locs1 _ _ ls yl zR zS (by show cells + _ ≤ u.1 + _; omega) (by show slots + _ ≤ u.2 + _; omega)
  · exact q.elim
theorem r_callIN {E : ME} {own : String} {cc : ByteArray} {nL : Nat} {rm : Room} (hE : EnvOk E own cc nL rm) {pc : Nat} {f : FT} {idx n : Nat} {y : MethodName} {bytes : ByteArray} {maxL : Nat} {rm' : Room} (d : decode cc pc = .ok (.invokespecial idx, 3))
    (w1 : (own, idx, y) ∈ NESTS) (w2 : Cond.instanceMethod y ∈ TB) (w4 : Cond.initialized y.cls ∈ TB) (w5 : Cond.code y bytes maxL none ∈ TB) (hy1 : y.name = "<init>")
    (hd : y.cls ≠ "java/lang/invoke/MethodHandle" ∧ y.cls ≠ "java/lang/invoke/VarHandle" ∧ (parseMethodDescriptor y.desc).map (fun d => d.parameters.length) = some n) (hR9 : rm'.frames + 1 ≤ rm.frames ∧ 8 + (maxL + 11) + rm'.locals ≤ rm.locals) (hf : At E (pc + 3) f) : At E pc (o_callI n rm'.cells rm'.slots rm.cells rm.slots (Ct E.2.1 y (.code y bytes maxL none) rm') f) := by
  intro L S h u q
  unfold o_callI at q
  split at q
  · rename_i b As hAs
    obtain ⟨p, l, e, R, s, m, args, below, meth, c, Qm, D, dA, A⟩ := E
    obtain ⟨kx, kb, kl, kown, kts, klk, kR, kW, kA, kst⟩ := hE
    intro H locs cells slots ls yl yR yS yc ys
    subst kR
    obtain ⟨q1, q2, q4, q5, q6⟩ := q
    have hsub := Af_sub yR yS kA
    have hrun := va_runIN (e := e) (below := below) (meth := meth) (locs := locs) (As := As) (rest := S.drop (n + 1)) (g := F0 m pc ls S) ⟨kx, kb, kl, kown, kts⟩ (Met_of q6 D dA) ⟨va_cnB n kts (GoodTB (in_c w5 (fun x hx => hx))) rfl rfl rfl (kW.2.1.2.1 _ w1) (kts _ w4) hd hR9, hy1, kts _ w2⟩ ⟨blind_ok, fun U hU hW => ⟨rfl, pre_ok kW yR yS kA hU hW⟩⟩ rfl q1 (by show ls.size = nL; rw [yl.1, kl]) (st_split hAs) (lv_room q2) d (cells := cells) (slots := slots) ⟨by omega, by omega⟩
    refine call_go (Xr := fun _ _ => False) (run_to hrun) yS hsub (fun En ce q9 h' H1 locs1 hx => hx.elim) (fun v h' H1 locs1 hq zR zS => ?_)
    exact hf _ _ _ _ hq H1 locs1 _ _ ls yl zR zS (by show cells + _ ≤ u.1 + _; omega) (by show slots + _ ≤ u.2 + _; omega)
  · exact q.elim
-- throws
def o_throw (cl : String) (mc ms : Nat) (Xr : String → Hp → Prop) : FT := fun _ S h u => match S with
  | [] => u.1 + 1 ≤ mc ∧ u.2 + 6 ≤ ms ∧ ∀ n, hn h ≤ n → Xr cl (hxn h n)
  | _ => False
theorem r_throw {E : ME} {own : String} {cc : ByteArray} {nL : Nat} {rm : Room} (hE : EnvOk E own cc nL rm) {y : MethodName} {h0 : Hp} {Qr : Option Value → Hp → Prop} {Xr : String → Hp → Prop} {ret : Option FieldType} (hM : MEnv E y h0 Qr Xr ret []) {pc ik is ic : Nat} {cl text : String} {names : List String}
    (d : (decode cc pc = .ok (.new ik, 3) ∧ decode cc (pc + 3) = .ok (.dup, 1)) ∧ ((decode cc (pc + 4) = .ok (.ldc is, 2) ∧ decode cc (pc + 6) = .ok (.invokespecial ic, 3) ∧ decode cc (pc + 9) = .ok (.athrow, 1)) ∨ (decode cc (pc + 4) = .ok (.ldc_w is, 3) ∧ decode cc (pc + 7) = .ok (.invokespecial ic, 3) ∧ decode cc (pc + 10) = .ok (.athrow, 1))))
    (hcls : Bundle.fit cl = true) (hnames : ∀ n ∈ names, Bundle.fit n = true) (w1 : Cond.classLink own ik cl ∈ TB) (w2 : Cond.initialized cl ∈ TB) (w3 : (own, is, text) ∈ STRS) (w4 : ∀ w ∈ vx_atS own ic cl names, w ∈ TB ∨ w = Cond.castable cl cl ∨ ∃ x ∈ DECS, w = Cond.declares x) (w6 : cl ∈ CSS) (w5 : ∀ w ∈ Cond.classLink own ik cl :: Cond.initialized cl :: vx_atS own ic cl names, vx_ot w = true)
    (hr1 : names.length + 3 < rm.frames) (hr2 : 13 * (names.length + 1) + 43 ≤ rm.locals) : At E pc (o_throw cl rm.cells rm.slots Xr) := by
  intro L S h u q
  unfold o_throw at q
  split at q
  · obtain ⟨p, l, e, R, s, m, args, below, meth, c, Qm, D, dA, A⟩ := E
    obtain ⟨kx, kb, kl, kown, kts, klk, kR, kW, kA, kst⟩ := hE
    obtain ⟨m1, m2, m3, m4, m5, -⟩ := hM
    intro H locs cells slots ls yl yR yS yc ys
    subst kR; subst m1; subst m2
    obtain ⟨q1, q2, q3⟩ := q
    obtain ⟨sa, hsa⟩ := kW.2.1.2.2.2.1 _ w3
    have hx : ∀ t : State, s.vm.Alike t.vm → H.size ≤ t.heap.size → (∀ q : Nat, q < H.size → t.heap[q]? = H[q]?) → XcOf D dA h0 Xr cl s t := by
      intro t _ hz hq
      refine ⟨⟨hxn h t.heap.size, q3 _ (by rw [← yR.1]; exact hz), yR.grow hz hq⟩, Nat.le_trans yS.1 hz, fun q h1 h2 => ?_⟩
      rw [hq q (Nat.lt_of_lt_of_le h1 yS.1)]
      exact yS.2.1 q h1 h2
    obtain ⟨⟨d0, d3⟩, ⟨d4, d6, d9⟩ | ⟨d4, d6, d9⟩⟩ := d
    · exact vx_throwS (names := names) kx kb kst kown hcls hnames (kts _ w1) (kts _ w2) hsa (fun w hw => (w4 w hw).elim (kts _) (fun z9 => z9.elim (fun e9 => by rw [e9]; exact va_Cs.use (kW.2.1.1.1 _ w6)) (fun ⟨x, hx9, e9⟩ => by rw [e9]; exact va_Nw.use rfl (kW.2.1.1.2 _ hx9)))) w5 kW.2.2.1 kW.2.2.2.1 yS yl.1 d0 d3 d4 d6 d9 (fun x hx9 => by rw [m5] at hx9; cases hx9) hr1 (by show 0 + _ ≤ _; omega) (by omega) (by omega) klk hx yS.2.2 (by omega) (by omega)
    · exact vx_throwSW (names := names) kx kb kst kown hcls hnames (kts _ w1) (kts _ w2) hsa (fun w hw => (w4 w hw).elim (kts _) (fun z9 => z9.elim (fun e9 => by rw [e9]; exact va_Cs.use (kW.2.1.1.1 _ w6)) (fun ⟨x, hx9, e9⟩ => by rw [e9]; exact va_Nw.use rfl (kW.2.1.1.2 _ hx9)))) w5 kW.2.2.1 kW.2.2.2.1 yS yl.1 d0 d3 d4 d6 d9 (fun x hx9 => by rw [m5] at hx9; cases hx9) hr1 (by show 0 + _ ≤ _; omega) (by omega) (by omega) klk hx yS.2.2 (by omega) (by omega)
  · exact q.elim
-- switches
def tsP : List FT → Int → Int32 → FT
  | [], _, _ => fun _ _ _ _ => True
  | f :: fs, lo, x => fun L S h u => (x.toInt = lo → f L S h u) ∧ tsP fs (lo + 1) x L S h u
def o_tsw (lo : Int) (fs : List FT) (fd : FT) : FT := fun L S h u => match S with
  | .int x :: S => tsP fs lo x L S h u ∧ (x.toInt < lo ∨ lo + fs.length ≤ x.toInt → fd L S h u)
  | _ => False
def TsOk (E : ME) (pc : Nat) : List Int → List FT → Prop
  | [], [] => True
  | o :: os, f :: fs => (∃ tgt : Nat, (pc : Int) + o = (tgt : Int) ∧ At E tgt f) ∧ TsOk E pc os fs
  | _, _ => False
theorem TsOk_at {E : ME} {pc : Nat} : ∀ {os : List Int} {fs : List FT}, TsOk E pc os fs → os.length = fs.length ∧ ∀ (k : Nat) (lo : Int) (x : Int32) (L : LV) (S : List Value) (h : Hp) (u : Nat × Nat), tsP fs lo x L S h u → x.toInt = lo + k → k < fs.length → ∃ (o : Int) (tgt : Nat) (f : FT), os[k]? = some o ∧ (pc : Int) + o = (tgt : Int) ∧ At E tgt f ∧ f L S h u
  | [], [], _ => ⟨rfl, fun k lo x L S h u _ _ hk => absurd hk (Nat.not_lt_zero _)⟩
  | o :: os, f :: fs, ⟨⟨tgt, h1, h2⟩, h3⟩ => by
    obtain ⟨i1, i2⟩ := TsOk_at h3
    refine ⟨by rw [List.length_cons, List.length_cons, i1], fun k lo x L S h u q hx hk => ?_⟩
    cases k with
    | zero => exact ⟨o, tgt, f, rfl, h1, h2, q.1 (by simpa using hx)⟩
    | succ k =>
      obtain ⟨o', t', f', j1, j2, j3, j4⟩ := i2 k (lo + 1) x L S h u q.2 (by rw [hx]; push_cast; omega) (by simpa using hk)
      exact ⟨o', t', f', j1, j2, j3, j4⟩
  | [], _ :: _, h => h.elim
  | _ :: _, [], h => h.elim
theorem r_tsw {E : ME} {own : String} {cc : ByteArray} {nL : Nat} {rm : Room} (hE : EnvOk E own cc nL rm) {pc : Nat} {lo hi dflt : Int} {offs : List Int} {len : Nat} {fs : List FT} {fd : FT} {tgt : Nat} (d : decode cc pc = .ok (.tableswitch dflt lo hi offs.toArray, len)) (hhi : hi + 1 = lo + offs.length) (hts : TsOk E pc offs fs) (ht : (pc : Int) + dflt = (tgt : Int)) (hd : At E tgt fd) : At E pc (o_tsw lo fs fd) := by
  intro L S h u q
  unfold o_tsw at q
  split at q
  · rename_i x S
    obtain ⟨t1, t2⟩ := TsOk_at hts
    by_cases hx : x.toInt < lo ∨ lo + fs.length ≤ x.toInt
    · have g := hd _ _ _ _ (q.2 hx)
      obtain ⟨p, l, e, R, s, m, args, below, meth, c, Qm, D, dA, A⟩ := E
      obtain ⟨kx, kb, kl, kown, kts, klk, kR, kW, kA, kst⟩ := hE
      intro H locs cells slots ls yl yR yS yc ys
      exact lv_tableOut kx kb d (by omega) ht (g H locs cells slots ls yl yR yS yc ys)
    · obtain ⟨o, t', f', j1, j2, j3, j4⟩ := t2 (x.toInt - lo).toNat lo x L S h u q.1 (by omega) (by omega)
      have g := j3 _ _ _ _ j4
      obtain ⟨p, l, e, R, s, m, args, below, meth, c, Qm, D, dA, A⟩ := E
      obtain ⟨kx, kb, kl, kown, kts, klk, kR, kW, kA, kst⟩ := hE
      intro H locs cells slots ls yl yR yS yc ys
      exact lv_tableIn kx kb d (by omega) (by omega) (by simpa using j1) j2 (g H locs cells slots ls yl yR yS yc ys)
  · exact q.elim
def lkP : List (Int × FT) → Int32 → FT → FT
  | [], _, fd => fd
  | (k, f) :: fs, x, fd => fun L S h u => (x.toInt = k → f L S h u) ∧ (¬ x.toInt = k → lkP fs x fd L S h u)
def o_lsw (fs : List (Int × FT)) (fd : FT) : FT := fun L S h u => match S with
  | .int x :: S => lkP fs x fd L S h u
  | _ => False
def LkOk (E : ME) (pc : Nat) (dflt : Int) (fd : FT) : List (Int × Int) → List (Int × FT) → Prop
  | [], [] => ∃ tgt : Nat, (pc : Int) + dflt = (tgt : Int) ∧ At E tgt fd
  | o :: os, f :: fs => o.1 = f.1 ∧ (∃ tgt : Nat, (pc : Int) + o.2 = (tgt : Int) ∧ At E tgt f.2) ∧ LkOk E pc dflt fd os fs
  | _, _ => False
theorem LkOk_at {E : ME} {pc : Nat} {dflt : Int} {fd : FT} : ∀ {os : List (Int × Int)} {fs : List (Int × FT)}, LkOk E pc dflt fd os fs → ∀ (x : Int32) (L : LV) (S : List Value) (h : Hp) (u : Nat × Nat), lkP fs x fd L S h u → ∃ (tgt : Nat) (f : FT), (pc : Int) + Op.lookupswitch.offset os dflt x.toInt = (tgt : Int) ∧ At E tgt f ∧ f L S h u
  | [], [], ⟨tgt, h1, h2⟩ => fun x L S h u q => ⟨tgt, fd, h1, h2, q⟩
  | o :: os, f :: fs, ⟨h0, ⟨tgt, h1, h2⟩, h3⟩ => by
    intro x L S h u q
    obtain ⟨k, f⟩ := f
    by_cases hx : x.toInt = k
    · refine ⟨tgt, f, ?_, h2, q.1 hx⟩
      rw [← h1]
      congr 1
      obtain ⟨a, b⟩ := o
      simp [Op.lookupswitch.offset, show a = k from h0, hx]
    · obtain ⟨t', f', j1, j2, j3⟩ := LkOk_at h3 x L S h u (q.2 hx)
      refine ⟨t', f', ?_, j2, j3⟩
      rw [← j1]
      congr 1
      obtain ⟨a, b⟩ := o
      have hne : ¬ (k = x.toInt) := fun z => hx z.symm
      simp [Op.lookupswitch.offset, show a = k from h0, hne]
  | [], _ :: _, h => h.elim
  | _ :: _, [], h => h.elim
theorem r_lsw {E : ME} {own : String} {cc : ByteArray} {nL : Nat} {rm : Room} (hE : EnvOk E own cc nL rm) {pc : Nat} {dflt : Int} {ps : List (Int × Int)} {len : Nat} {fs : List (Int × FT)} {fd : FT} (d : decode cc pc = .ok (.lookupswitch dflt ps.toArray, len)) (hp : (ps.zip (ps.drop 1)).all (fun (a, next) => a.1 < next.1) = true) (hts : LkOk E pc dflt fd ps fs) : At E pc (o_lsw fs fd) := by
  intro L S h u q
  unfold o_lsw at q
  split at q
  · rename_i x S
    obtain ⟨t', f', j1, j2, j3⟩ := LkOk_at hts x L S h u q
    have g := j2 _ _ _ _ j3
    obtain ⟨p, l, e, R, s, m, args, below, meth, c, Qm, D, dA, A⟩ := E
    obtain ⟨kx, kb, kl, kown, kts, klk, kR, kW, kA, kst⟩ := hE
    intro H locs cells slots ls yl yR yS yc ys
    exact lv_lookup kx kb d (by simpa using hp) rfl (by simpa using j1) (g H locs cells slots ls yl yR yS yc ys)
  · exact q.elim
-- natives
def o_acopy (f : FT) : FT := fun L S h u => match S with
  | .int n :: .int dp :: .ref b :: .int sp :: .ref a :: S => (hs h a).1 = 20 ∧ (hs h b).1 = 20 ∧ ¬ sp < 0 ∧ ¬ dp < 0 ∧ ¬ n < 0 ∧ sp.toNatClampNeg + n.toNatClampNeg ≤ (hs h a).2 ∧ dp.toNatClampNeg + n.toNatClampNeg ≤ (hs h b).2 ∧ (S.map fun v => v.category).sum ≤ 8 ∧ f L S (cpI h a sp.toNatClampNeg b dp.toNatClampNeg n.toNatClampNeg) u
  | _ => False
theorem nn32 (z : Int32) (hz : ¬ z < 0) : z.toInt = (z.toNatClampNeg : Int) := by
  have hz0 : (0 : Int) ≤ z.toInt := by
    have := Int32.not_lt.mp hz
    simpa using Int32.le_iff_toInt_le.mp this
  show z.toInt = ((z.toInt.toNat : Nat) : Int)
  omega
theorem r_acopy {E : ME} {own : String} {cc : ByteArray} {nL : Nat} {rm : Room} (hE : EnvOk E own cc nL rm) {pc : Nat} {f : FT} {idx : Nat} (d : decode cc pc = .ok (.invokestatic idx, 3)) (w1 : Cond.methodLink own idx arraycopyName ∈ TB) (w2 : Cond.native arraycopyName ∈ TB) (w3 : Cond.static arraycopyName ∈ TB) (w4 : Cond.initialized "java/lang/System" ∈ TB) (hr1 : 1 ≤ rm.frames) (hr2 : 8 + (nativeFrameWords "java/lang/System" "arraycopy" 5 + 11) ≤ rm.locals) (hf : At E (pc + 3) f) : At E pc (o_acopy f) := by
  intro L S h u q
  unfold o_acopy at q
  split at q
  · rename_i n dp b sp a S
    obtain ⟨p, l, e, R, s, m, args, below, meth, c, Qm, D, dA, A⟩ := E
    obtain ⟨kx, kb, kl, kown, kts, klk, kR, kW, kA, kst⟩ := hE
    intro H locs cells slots ls yl yR yS yc ys
    subst kR
    obtain ⟨q1, q2, h1, h2, h3, h4, h5, q8, q9⟩ := q
    obtain ⟨-, g0⟩ := yR.ar q1 (by decide)
    obtain ⟨gA, g1⟩ := yR.ar q2 (by decide)
    have i0 : (fun j => av h 20 a j) = fun j => Value.int (hI h a j) := funext fun j => av_int (by decide)
    have i1 : (fun j => av h 20 b j) = fun j => Value.int (hI h b j) := funext fun j => av_int (by decide)
    rw [i0] at g0
    rw [i1] at g1
    have hty := (kW.arr (t := 0) (k := 20) (ty := .int) rfl).1
    generalize hcA : dA 20 = cA at g0 g1 hty
    generalize hN0 : (hs h a).2 = N0 at g0 h4
    generalize hN1 : (hs h b).2 = N1 at g1 h5
    have hc0 : H[a]? = some (vp_cell cA (N0, .inl (hI h a))) := g0
    have hc1 : H[b]? = some (vp_cell cA (N1, .inl (hI h b))) := g1
    obtain ⟨-, k0, hk0, cm0, hkk0⟩ := hty N0 (fun j => .int (hI h a j))
    intro T hT X
    obtain ⟨vm', X', step⟩ := X.arraycopy kx kown (kts _ w1) (kts _ w2) (kts _ w3) (kts _ w4) (src := a) (dst := b) (cs := vp_cell cA (N0, .inl (hI h a))) (cd := vp_cell cA (N1, .inl (hI h b))) (srcPos := sp) (destPos := dp) (n := n) (by rw [hT]; exact hc0) (by rw [hT]; exact hc1)
      (fun _ h => by cases h) (fun _ h => by cases h) (fun h => by cases h) (fun h => by cases h) hk0 hk0 hkk0 hkk0 (by simp [refKind]) h1 h2 h3
      (by rw [nn32 sp h1, nn32 n h3]; show ¬ _ > ((arrV cA N0 (fun j => .int (hI h a j))).slots.size : Int); rw [arrV_size]; omega)
      (by rw [nn32 dp h2, nn32 n h3]; show ¬ _ > ((arrV cA N1 (fun j => .int (hI h b j))).slots.size : Int); rw [arrV_size]; omega)
      (fun vm₁ _ i hi => by
        have e : (vp_cell cA (N0, .inl (hI h a))).slots.getD (sp.toNatClampNeg + i) .null = .int (hI h a (sp.toNatClampNeg + i)) := by
          show (arrV cA N0 (fun j => .int (hI h a j))).slots.getD _ _ = _
          rw [Array.getD_eq_getD_getElem?, arrV_read _ _ (by omega)]
          rfl
        refine ⟨?_, ?_⟩
        · rw [e]
          rfl
        · rw [e]
          exact trivial)
      (g := F0 m pc ls (.int n :: .int dp :: .ref b :: .int sp :: .ref a :: S)) rfl (by show ls.size = _; rw [yl.1]) (rest := S) rfl (by rw [kb]; exact d) hr1 (by show 2 * 0 + _ + _ ≤ _; omega)
    have e1 : copied (vp_cell cA (N0, .inl (hI h a))) (vp_cell cA (N1, .inl (hI h b))) sp dp n = vp_cell cA (N1, .inl (va_cpy (hI h a) (hI h b) sp.toNatClampNeg dp.toNatClampNeg n.toNatClampNeg)) := va_copied (fun z => .int z) cA cA (hI h a) (hI h b) h4
    rw [e1] at X' step
    have hl : b < H.size := (Array.getElem?_eq_some_iff.mp hc1).1
    generalize hcell : vp_cell cA (N1, .inl (va_cpy (hI h a) (hI h b) sp.toNatClampNeg dp.toNatClampNeg n.toNatClampNeg)) = cell9 at X' step
    have hheap : ((T.setVm vm').setCell b cell9).heap = H.setIfInBounds b cell9 := by rw [← hT]; rfl
    have oq : ∀ q : Nat, q ≠ b → (H.setIfInBounds b cell9)[q]? = H[q]? := fun q hq => by simp [Array.getElem?_setIfInBounds, Ne.symm hq]
    obtain ⟨t, a1, b1⟩ := hf _ _ _ _ q9 (H.setIfInBounds b cell9) _ cells slots ls yl (yR.set (a0 := b) (by simp) oq rfl rfl (fun x hx => ag_cpI hx) (CellOk.arr q2 (by decide) (by
        show (H.setIfInBounds b cell9)[b]? = some _
        have i2 : (fun j => av (cpI h a sp.toNatClampNeg b dp.toNatClampNeg n.toNatClampNeg) 20 b j) = fun j => Value.int (va_cpy (hI h a) (hI h b) sp.toNatClampNeg dp.toNatClampNeg n.toNatClampNeg j) := funext fun j => by
          rw [av_int (by decide)]
          exact congrArg Value.int (congrFun (show hI (cpI h a sp.toNatClampNeg b dp.toNatClampNeg n.toNatClampNeg) b = _ from if_pos rfl) j)
        rw [i2, hcA]
        show _ = some (arrV cA (hs h b).2 _)
        rw [hN1]
        simp [Array.getElem?_setIfInBounds, hl, ← hcell]
        rfl))) ⟨by simp; exact yS.1, fun q g1 g2 => by
        rw [oq q (fun e => g2 (by rw [e]; exact gA))]
        exact yS.2.1 q g1 g2, fun q hq => by
        rcases List.mem_append.mp hq with h | h
        · exact yS.2.2 q h
        · obtain ⟨z, -, hz⟩ := List.mem_map.mp h
          rw [← hz]
          exact gA⟩ yc ys _ hheap X'
    exact ⟨t, step t a1, b1⟩
  · exact q.elim
def o_f2raw (f : FT) : FT := fun L S h u => match S with
  | .float x :: S => (S.map fun v => v.category).sum ≤ 8 ∧ f L (.int x.toInt32 :: S) h u
  | _ => False
theorem r_f2raw {E : ME} {own : String} {cc : ByteArray} {nL : Nat} {rm : Room} (hE : EnvOk E own cc nL rm) {pc : Nat} {f : FT} {idx : Nat} (d : decode cc pc = .ok (.invokestatic idx, 3)) (w1 : Cond.methodLink own idx ⟨"java/lang/Float", "floatToRawIntBits", "(F)I"⟩ ∈ TB) (w2 : Cond.native ⟨"java/lang/Float", "floatToRawIntBits", "(F)I"⟩ ∈ TB) (w3 : Cond.static ⟨"java/lang/Float", "floatToRawIntBits", "(F)I"⟩ ∈ TB) (w4 : Cond.initialized "java/lang/Float" ∈ TB) (hr1 : 1 ≤ rm.frames) (hr2 : 8 + 15 ≤ rm.locals) (hf : At E (pc + 3) f) : At E pc (o_f2raw f) := by
  intro L S h u q
  unfold o_f2raw at q
  split at q
  · rename_i x S
    obtain ⟨p, l, e, R, s, m, args, below, meth, c, Qm, D, dA, A⟩ := E
    obtain ⟨kx, kb, kl, kown, kts, klk, kR, kW, kA, kst⟩ := hE
    intro H locs cells slots ls yl yR yS yc ys
    subst kR
    exact vn_f2i kx kb yl.1.symm kown (kts _ w1) (kts _ w2) (kts _ w3) (kts _ w4) hr1 (by have := q.1; omega) d (hf _ _ _ _ q.2 H locs cells slots ls yl yR yS yc ys)
  · exact q.elim
def o_d2raw (f : FT) : FT := fun L S h u => match S with
  | .double x :: S => (S.map fun v => v.category).sum ≤ 8 ∧ f L (.long x.toInt64 :: S) h u
  | _ => False
theorem r_d2raw {E : ME} {own : String} {cc : ByteArray} {nL : Nat} {rm : Room} (hE : EnvOk E own cc nL rm) {pc : Nat} {f : FT} {idx : Nat} (d : decode cc pc = .ok (.invokestatic idx, 3)) (w1 : Cond.methodLink own idx ⟨"java/lang/Double", "doubleToRawLongBits", "(D)J"⟩ ∈ TB) (w2 : Cond.native ⟨"java/lang/Double", "doubleToRawLongBits", "(D)J"⟩ ∈ TB) (w3 : Cond.static ⟨"java/lang/Double", "doubleToRawLongBits", "(D)J"⟩ ∈ TB) (w4 : Cond.initialized "java/lang/Double" ∈ TB) (hr1 : 1 ≤ rm.frames) (hr2 : 8 + 15 ≤ rm.locals) (hf : At E (pc + 3) f) : At E pc (o_d2raw f) := by
  intro L S h u q
  unfold o_d2raw at q
  split at q
  · rename_i x S
    obtain ⟨p, l, e, R, s, m, args, below, meth, c, Qm, D, dA, A⟩ := E
    obtain ⟨kx, kb, kl, kown, kts, klk, kR, kW, kA, kst⟩ := hE
    intro H locs cells slots ls yl yR yS yc ys
    subst kR
    exact vn_d2l kx kb yl.1.symm kown (kts _ w1) (kts _ w2) (kts _ w3) (kts _ w4) hr1 (by have := q.1; omega) d (hf _ _ _ _ q.2 H locs cells slots ls yl yR yS yc ys)
  · exact q.elim
def o_lcmp (f : FT) : FT := fun L S h u => match S with
  | .long y :: .long x :: S => f L (.int (lg_cmp x y) :: S) h u
  | _ => False
theorem r_lcmp {E : ME} {own : String} {cc : ByteArray} {nL : Nat} {rm : Room} (hE : EnvOk E own cc nL rm) {pc : Nat} {f : FT} (d : decode cc pc = .ok (.lcmp, 1)) (hf : At E (pc + 1) f) : At E pc (o_lcmp f) := by
  intro L S h u q
  unfold o_lcmp at q
  split at q
  · rename_i y x S
    obtain ⟨p, l, e, R, s, m, args, below, meth, c, Qm, D, dA, A⟩ := E
    obtain ⟨kx, kb, kl, kown, kts, klk, kR, kW, kA, kst⟩ := hE
    intro H locs cells slots ls yl yR yS yc ys
    refine W.lcmp kx kb d ?_
    exact hf _ _ _ _ q H locs cells slots ls yl yR yS yc ys
  · exact q.elim
theorem r_fconst0 {E : ME} {own : String} {cc : ByteArray} {nL : Nat} {rm : Room} (hE : EnvOk E own cc nL rm) {pc : Nat} {f : FT} (d : decode cc pc = .ok (.fconst 0, 1)) (hf : At E (pc + 1) f) : At E pc (o_push (.float 0) f) := by
  intro L S h u q
  obtain ⟨p, l, e, R, s, m, args, below, meth, c, Qm, D, dA, A⟩ := E
  obtain ⟨kx, kb, kl, kown, kts, klk, kR, kW, kA, kst⟩ := hE
  intro H locs cells slots ls yl yR yS yc ys
  exact lv_fconst0 kx kb d (hf _ _ _ _ q H locs cells slots ls yl yR yS yc ys)
theorem r_fconst1 {E : ME} {own : String} {cc : ByteArray} {nL : Nat} {rm : Room} (hE : EnvOk E own cc nL rm) {pc : Nat} {f : FT} (d : decode cc pc = .ok (.fconst 1, 1)) (hf : At E (pc + 1) f) : At E pc (o_push (.float 1065353216) f) := by
  intro L S h u q
  obtain ⟨p, l, e, R, s, m, args, below, meth, c, Qm, D, dA, A⟩ := E
  obtain ⟨kx, kb, kl, kown, kts, klk, kR, kW, kA, kst⟩ := hE
  intro H locs cells slots ls yl yR yS yc ys
  exact lv_fconst1 kx kb d (hf _ _ _ _ q H locs cells slots ls yl yR yS yc ys)
theorem r_fconst2 {E : ME} {own : String} {cc : ByteArray} {nL : Nat} {rm : Room} (hE : EnvOk E own cc nL rm) {pc : Nat} {f : FT} (d : decode cc pc = .ok (.fconst 2, 1)) (hf : At E (pc + 1) f) : At E pc (o_push (.float 1073741824) f) := by
  intro L S h u q
  obtain ⟨p, l, e, R, s, m, args, below, meth, c, Qm, D, dA, A⟩ := E
  obtain ⟨kx, kb, kl, kown, kts, klk, kR, kW, kA, kst⟩ := hE
  intro H locs cells slots ls yl yR yS yc ys
  exact lv_fconst2 kx kb d (hf _ _ _ _ q H locs cells slots ls yl yR yS yc ys)
theorem r_dconst0 {E : ME} {own : String} {cc : ByteArray} {nL : Nat} {rm : Room} (hE : EnvOk E own cc nL rm) {pc : Nat} {f : FT} (d : decode cc pc = .ok (.dconst 0, 1)) (hf : At E (pc + 1) f) : At E pc (o_push (.double 0) f) := by
  intro L S h u q
  obtain ⟨p, l, e, R, s, m, args, below, meth, c, Qm, D, dA, A⟩ := E
  obtain ⟨kx, kb, kl, kown, kts, klk, kR, kW, kA, kst⟩ := hE
  intro H locs cells slots ls yl yR yS yc ys
  exact lv_dconst0 kx kb d (hf _ _ _ _ q H locs cells slots ls yl yR yS yc ys)
theorem r_dconst1 {E : ME} {own : String} {cc : ByteArray} {nL : Nat} {rm : Room} (hE : EnvOk E own cc nL rm) {pc : Nat} {f : FT} (d : decode cc pc = .ok (.dconst 1, 1)) (hf : At E (pc + 1) f) : At E pc (o_push (.double 4607182418800017408) f) := by
  intro L S h u q
  obtain ⟨p, l, e, R, s, m, args, below, meth, c, Qm, D, dA, A⟩ := E
  obtain ⟨kx, kb, kl, kown, kts, klk, kR, kW, kA, kst⟩ := hE
  intro H locs cells slots ls yl yR yS yc ys
  exact lv_dconst1 kx kb d (hf _ _ _ _ q H locs cells slots ls yl yR yS yc ys)
theorem r_ldcwf {E : ME} {own : String} {cc : ByteArray} {nL : Nat} {rm : Room} (hE : EnvOk E own cc nL rm) {pc : Nat} {f : FT} {i : Nat} {v : UInt32} (d : decode cc pc = .ok (.ldc_w i, 3)) (hw : Cond.constantFloat own i v ∈ TB) (hf : At E (pc + 3) f) : At E pc (o_push (.float v) f) := by
  intro L S h u q
  obtain ⟨p, l, e, R, s, m, args, below, meth, c, Qm, D, dA, A⟩ := E
  obtain ⟨kx, kb, kl, kown, kts, klk, kR, kW, kA, kst⟩ := hE
  intro H locs cells slots ls yl yR yS yc ys
  intro T hT X
  obtain ⟨k, cf, hk, hcf, hcp⟩ := Cond.constantFloat_spec kown (kts _ hw)
  obtain ⟨k', hk', he⟩ := X.warmed.alike.2.2 _ _ hk
  obtain ⟨t, a1, b1⟩ := hf _ _ _ _ q H locs cells slots ls yl yR yS yc ys T hT X
  refine ⟨t, ?_, b1⟩
  jvm_step X.here [kx, kb, d, ldc_w.wp_float (s := T) (f := F0 m pc ls S) X.here.top hk' (by rw [he]; exact hcf) hcp]
  exact a1
-- the script
def o_sload (b L0 : Nat) (xs : Nat → Int32) (f : FT) : FT := fun L S h u => match S with
  | .int i :: .ref a :: S => a = b ∧ vp_in i L0 ∧ f L (.int (xs i.toNatClampNeg) :: S) h u
  | _ => False
def o_slen (b L0 : Nat) (f : FT) : FT := fun L S h u => match S with
  | .ref a :: S => a = b ∧ f L (.int (Int32.ofNat L0) :: S) h u
  | _ => False
def ScrOk (E : ME) (b L0 : Nat) (xs : Nat → Int32) : Prop := match E with
  | (_, _, _, _, s, _, _, _, _, _, _, _, _, A) => va_X b L0 xs s s.heap ∧ b < s.heap.size ∧ ¬ A b
theorem r_sload {E : ME} {own : String} {cc : ByteArray} {nL : Nat} {rm : Room} (hE : EnvOk E own cc nL rm) {b L0 : Nat} {xs : Nat → Int32} (hX : ScrOk E b L0 xs) {pc : Nat} {f : FT} (d : decode cc pc = .ok (.iaload, 1)) (hf : At E (pc + 1) f) : At E pc (o_sload b L0 xs f) := by
  intro L S h u q
  unfold o_sload at q
  split at q
  · rename_i i a S
    obtain ⟨p, l, e, R, s, m, args, below, meth, c, Qm, D, dA, A⟩ := E
    obtain ⟨kx, kb, kl, kown, kts, klk, kR, kW, kA, kst⟩ := hE
    obtain ⟨x1, x2, x3⟩ := hX
    intro H locs cells slots ls yl yR yS yc ys
    obtain ⟨q1, q2, q3⟩ := q
    subst q1
    exact va_sld kx kb x1 x2 x3 yS q2 d (hf _ _ _ _ q3 H locs cells slots ls yl yR yS yc ys)
  · exact q.elim
theorem r_slen {E : ME} {own : String} {cc : ByteArray} {nL : Nat} {rm : Room} (hE : EnvOk E own cc nL rm) {b L0 : Nat} {xs : Nat → Int32} (hX : ScrOk E b L0 xs) {pc : Nat} {f : FT} (d : decode cc pc = .ok (.arraylength, 1)) (hf : At E (pc + 1) f) : At E pc (o_slen b L0 f) := by
  intro L S h u q
  unfold o_slen at q
  split at q
  · rename_i a S
    obtain ⟨p, l, e, R, s, m, args, below, meth, c, Qm, D, dA, A⟩ := E
    obtain ⟨kx, kb, kl, kown, kts, klk, kR, kW, kA, kst⟩ := hE
    obtain ⟨x1, x2, x3⟩ := hX
    intro H locs cells slots ls yl yR yS yc ys
    obtain ⟨q1, q3⟩ := q
    subst q1
    exact va_slen kx kb x1 x2 x3 yS d (hf _ _ _ _ q3 H locs cells slots ls yl yR yS yc ys)
  · exact q.elim
-- a call whose throws are caught here, and the call of such a method
def HOk (E : ME) (own : String) (pc : Nat) : List String → List ExceptionTableEntry → List (String × FT) → Prop
  | _, [], [] => True
  | seen, x :: xs, g :: gs => covers x pc = true ∧ x.catchType ≠ 0 ∧ Cond.classLink own x.catchType g.1 ∈ TB ∧ g.1 ∈ CSS ∧ (∀ nm ∈ seen, (g.1, nm) ∈ NCS) ∧ At E x.handlerPc g.2 ∧ HOk E own pc (seen ++ [g.1]) xs gs
  | _, _, _ => False
theorem HOk_at {E : ME} {own : String} {pc : Nat} : ∀ {seen : List String} {tb : List ExceptionTableEntry} {gs : List (String × FT)}, HOk E own pc seen tb gs → ∀ (g : String × FT), g ∈ gs → ∃ (pre : List ExceptionTableEntry) (x : ExceptionTableEntry) (suf : List ExceptionTableEntry), tb = pre ++ x :: suf ∧ (∀ z ∈ pre, z.catchType ≠ 0 ∧ ∃ nm : String, Cond.classLink own z.catchType nm ∈ TB ∧ (g.1, nm) ∈ NCS) ∧ covers x pc = true ∧ x.catchType ≠ 0 ∧ Cond.classLink own x.catchType g.1 ∈ TB ∧ g.1 ∈ CSS ∧ (∀ nm ∈ seen, (g.1, nm) ∈ NCS) ∧ At E x.handlerPc g.2
  | _, [], [], _, g, hg => absurd hg List.not_mem_nil
  | seen, x :: xs, g0 :: gs, ⟨h1, h2, h3, h4, h5, h6, h7⟩, g, hg => by
    rcases List.mem_cons.mp hg with e | hg
    · subst e
      exact ⟨[], x, xs, rfl, fun z hz => absurd hz List.not_mem_nil, h1, h2, h3, h4, h5, h6⟩
    · obtain ⟨pre, y, suf, i1, i2, i3, i4, i5, i6, i7, i8⟩ := HOk_at h7 g hg
      refine ⟨x :: pre, y, suf, by rw [i1]; rfl, fun z hz => ?_, i3, i4, i5, i6, fun nm hm => i7 nm (List.mem_append_left _ hm), i8⟩
      rcases List.mem_cons.mp hz with e | hz
      · subst e
        exact ⟨h2, g0.1, h3, i7 g0.1 (List.mem_append_right _ List.mem_cons_self)⟩
      · exact i2 z hz
  | _, [], _ :: _, h, _, _ => h.elim
  | _, _ :: _, [], h, _, _ => h.elim
def o_callH (n ci N mc ms MC MS : Nat) (sp : SpT) (gs : List (String × FT)) (f : FT) : FT := fun L S h u => match (S.take (n + 1)).reverse with
  | .ref b :: As => As.length = n ∧ ((S.drop (n + 1)).map fun v => v.category).sum ≤ 8 ∧ hs h b = (ci + 1, N) ∧ u.1 + mc ≤ MC ∧ u.2 + ms ≤ MS ∧ sp (.ref b :: As) h (fun v h' => f L (v.toList ++ S.drop (n + 1)) h' (u.1 + mc, u.2 + ms)) (fun En h' => ∃ g : FT, (En, g) ∈ gs ∧ ∀ q9 : Nat, g L [.ref q9] h' (u.1 + mc, u.2 + ms))
  | _ => False
theorem r_callH {E : ME} {own : String} {cc : ByteArray} {nL : Nat} {rm : Room} (hE : EnvOk E own cc nL rm) {y0 : MethodName} {h0 : Hp} {Qr : Option Value → Hp → Prop} {Xr : String → Hp → Prop} {ret0 : Option FieldType} {tb : List ExceptionTableEntry} (hM : MEnv E y0 h0 Qr Xr ret0 tb) {pc : Nat} {f : FT} {gs : List (String × FT)} {idx ci N n : Nat} {C : String} {T : u_T} {y : MethodName} {bytes : ByteArray} {maxL : Nat} {ret : Option FieldType} {rm' : Room} (d : decode cc pc = .ok (.invokevirtual idx, 3)) (hci : ci + 1 < 20) (hc : cls[ci]? = some (C, T, N))
    (w1 : Cond.methodLink own idx y ∈ TB) (w2 : Cond.instanceMethod y ∈ TB) (w3 : Cond.selects C y y ∈ TB) (w4 : Cond.initialized C ∈ TB) (w5 : Cond.code y bytes maxL ret ∈ TB)
    (hd : y.cls = C ∧ y.cls ≠ "java/lang/invoke/MethodHandle" ∧ y.cls ≠ "java/lang/invoke/VarHandle" ∧ (parseMethodDescriptor y.desc).map (fun d => d.parameters.length) = some n) (hR9 : rm'.frames + 1 ≤ rm.frames ∧ 8 + (maxL + 11) + rm'.locals ≤ rm.locals) (hh : HOk E own pc [] tb gs) (hf : At E (pc + 3) f) : At E pc (o_callH n ci N rm'.cells rm'.slots rm.cells rm.slots (Ct E.2.1 y (.code y bytes maxL ret) rm') gs f) := by
  intro L S h u q
  unfold o_callH at q
  split at q
  · rename_i b As hAs
    have hat := HOk_at hh
    obtain ⟨p, l, e, R, s, m, args, below, meth, c, Qm, D, dA, A⟩ := E
    obtain ⟨kx, kb, kl, kown, kts, klk, kR, kW, kA, kst⟩ := hE
    obtain ⟨-, -, -, -, m5, -⟩ := hM
    intro H locs cells slots ls yl yR yS yc ys
    subst kR
    obtain ⟨q1, q2, q3, q4, q5, q6⟩ := q
    have hsub := Af_sub yR yS kA
    obtain ⟨-, qq, g1, g2, cellB, c1, c2, c3, -⟩ := yR.ob q3 hci
    have hcls := (kW.1.1 ci _ hc).2.1
    have hrun := vx_runV (e := e) (below := below) (meth := meth) (locs := locs) (As := As) (rest := S.drop (n + 1)) (g := F0 m pc ls S) ⟨kx, kb, kl, kown, kts⟩ (q6 D dA) (cwV n kts (GoodTB (in_c w1 (in_c w2 (in_c w3 (in_c w4 (in_c w5 (fun x hx => hx))))))) rfl rfl rfl hd hR9) ⟨blind_ok, ⟨cellB, c1, by rw [c3]; rfl, by rw [c2]; exact hcls⟩, fun U hU hW => ⟨rfl, pre_ok kW yR yS kA hU hW⟩⟩ rfl q1 (by show ls.size = nL; rw [yl.1, kl]) (st_split hAs) (lv_room q2) d (cells := cells) (slots := slots) ⟨by omega, by omega⟩
    refine call_go hrun yS hsub (fun En ce q9 h' H1 locs1 hx zR zS hce hcv hcl => ?_) (fun v h' H1 locs1 hq zR zS => ?_)
    · obtain ⟨g, hg, hgo⟩ := hx
      obtain ⟨pre, x, suf, i1, i2, i3, i4, i5, i6, i7, i8⟩ := hat (En, g) hg
      refine vx_catch (E := En) kown pre x suf (by rw [m5]; exact i1) (fun z hz => ?_) i3 i4 (kts _ i5) (va_Cs.use (kW.2.1.1.1 _ i6)) hce hcv hcl (i8 _ _ _ _ (hgo q9) H1 locs1 _ _ ls yl zR zS (by show cells + _ ≤ u.1 + _; omega) (by show slots + _ ≤ u.2 + _; omega))
      obtain ⟨j1, nm, j2, j3⟩ := i2 z hz
      exact Or.inr ⟨j1, nm, kts _ j2, kW.2.1.2.2.2.2.1 _ j3⟩
    · exact hf _ _ _ _ hq H1 locs1 _ _ ls yl zR zS (by show cells + _ ≤ u.1 + _; omega) (by show slots + _ ≤ u.2 + _; omega)
  · exact q.elim
theorem r_callSX {E : ME} {own : String} {cc : ByteArray} {nL : Nat} {rm : Room} (hE : EnvOk E own cc nL rm) {pc : Nat} {f : FT} {idx n : Nat} {y : MethodName} {bytes : ByteArray} {maxL : Nat} {ret : Option FieldType} {hh : List (Nat × Nat × Nat × Nat)} {rm' : Room} {Xr : String → Hp → Prop} (d : decode cc pc = .ok (.invokestatic idx, 3))
    (w1 : Cond.methodLink own idx y ∈ TB) (w2 : Cond.static y ∈ TB) (w4 : Cond.initialized y.cls ∈ TB) (w5 : Cond.codeWith y bytes maxL ret hh ∈ TB)
    (hd : y.cls ≠ "java/lang/invoke/MethodHandle" ∧ y.cls ≠ "java/lang/invoke/VarHandle" ∧ (parseMethodDescriptor y.desc).map (fun d => d.parameters.length) = some n) (hR9 : rm'.frames + 1 ≤ rm.frames ∧ 8 + (maxL + 11) + rm'.locals ≤ rm.locals) (hX : XOk E rm Xr) (hf : At E (pc + 3) f) : At E pc (o_callS n rm'.cells rm'.slots rm.cells rm.slots (Ct E.2.1 y (.codeWith y bytes maxL ret hh) rm') Xr f) := by
  intro L S h u q
  obtain ⟨p, l, e, R, s, m, args, below, meth, c, Qm, D, dA, A⟩ := E
  obtain ⟨kx, kb, kl, kown, kts, klk, kR, kW, kA, kst⟩ := hE
  intro H locs cells slots ls yl yR yS yc ys
  subst kR
  obtain ⟨q1, q2, q4, q5, q6⟩ := q
  have hst : S = (S.take n).reverse.reverse ++ S.drop n := by rw [List.reverse_reverse, List.take_append_drop]
  have hsub := Af_sub yR yS kA
  have hrun := vx_runSX (e := e) (below := below) (meth := meth) (locs := locs) (As := (S.take n).reverse) (rest := S.drop n) (g := F0 m pc ls S) ⟨kx, kb, kl, kown, kts⟩ (q6 D dA) (vx_cwSW n kts (GoodTB (in_c w1 (in_c w2 (in_c w4 (in_c w5 (fun x hx => hx)))))) rfl rfl rfl hd hR9) ⟨blind_ok, fun U hU hW => ⟨rfl, pre_ok kW yR yS kA hU hW⟩⟩ rfl (by rw [List.length_reverse]; exact q1) (by show ls.size = nL; rw [yl.1, kl]) hst (lv_room q2) d (cells := cells) (slots := slots) ⟨by omega, by omega⟩
  refine call_go hrun yS hsub (fun En ce q9 h' H1 locs1 hx zR zS hce hcv hcl => hX pc ls _ En ce q9 H1 h' locs1 _ _ hx zR zS hce hcv hcl (by omega) (by omega)) (fun v h' H1 locs1 hq zR zS => ?_)
  exact hf _ _ _ _ hq H1 locs1 _ _ ls yl zR zS (by show cells + _ ≤ u.1 + _; omega) (by show slots + _ ≤ u.2 + _; omega)
-- int[n][k]
theorem mn_outer (c : ClassId) (N h0 : Nat) : ∀ i : Nat, Jvm.Free.Multi.outerC c N h0 i = arrV c N (fun j => va_rf (if j < i then some (h0 + 1 + j) else none))
  | 0 => by
    show ({ cls := c, slots := Array.replicate N .null, vm := .none } : Cell) = _
    rw [arrV_new]
    refine congrArg (arrV c N) (funext fun j => ?_)
    simp [va_rf]
  | i + 1 => by
    show (Jvm.Free.Multi.outerC c N h0 i).setSlot i (.ref (h0 + 1 + i)) = _
    rw [mn_outer c N h0 i, arrV_store]
    refine congrArg (arrV c N) (funext fun j => ?_)
    by_cases e : j = i
    · subst e
      simp [updV, va_rf]
    · by_cases h : j < i
      · simp [updV, e, h, Nat.lt_succ_of_lt h]
      · simp [updV, e, h, show ¬ j < i + 1 by omega]
def zr {α : Type} (f : Nat → Nat → α) (a b : Nat) (x : α) : Nat → Nat → α := fun y j => if a ≤ y ∧ y ≤ b then x else f y j
def alM (h : Hp) (N K : Nat) : Hp := (h.1 + 1 + N, (fun y => if y = h.1 then (25, N) else if h.1 < y ∧ y ≤ h.1 + N then (20, K) else h.2.1 y), zr h.2.2.1 h.1 (h.1 + N) 0, (fun y j => if y = h.1 then (if j < N then h.1 + 1 + j else 0) else zr h.2.2.2.1 h.1 (h.1 + N) 0 y j), zr h.2.2.2.2.1 h.1 (h.1 + N) 0, zr h.2.2.2.2.2 h.1 (h.1 + N) 0)
theorem ag_alM {h : Hp} {N K b : Nat} (hb : ¬ (hn h ≤ b ∧ b ≤ hn h + N)) : ag h (alM h N K) b := by
  have hb1 : ¬ b = h.1 := fun e => hb ⟨Nat.le_of_eq e.symm, by rw [e]; exact Nat.le_add_right _ _⟩
  have hb2 : ¬ (h.1 < b ∧ b ≤ h.1 + N) := fun e => hb ⟨Nat.le_of_lt e.1, e.2⟩
  refine ⟨(if_neg hb1).trans (if_neg hb2), funext fun j => if_neg hb, funext fun j => (if_neg hb1).trans (if_neg hb), funext fun j => if_neg hb, funext fun j => if_neg hb⟩
def o_mna (mc ms : Nat) (f : FT) : FT := fun L S h u => match S with
  | .int k :: .int n :: S => ¬ n < 0 ∧ ¬ k < 0 ∧ n.toNatClampNeg ≤ 1000 ∧ k.toNatClampNeg ≤ 1000 ∧ u.1 + (1 + n.toNatClampNeg) ≤ mc ∧ u.2 + (n.toNatClampNeg + n.toNatClampNeg * k.toNatClampNeg) ≤ ms ∧ f L (.ref (hn h) :: S) (alM h n.toNatClampNeg k.toNatClampNeg) (u.1 + (1 + n.toNatClampNeg), u.2 + (n.toNatClampNeg + n.toNatClampNeg * k.toNatClampNeg))
  | _ => False
theorem r_mna {E : ME} {own : String} {cc : ByteArray} {nL : Nat} {rm : Room} (hE : EnvOk E own cc nL rm) {pc : Nat} {f : FT} {idx : Nat} (d : decode cc pc = .ok (.multianewarray idx 2, 4)) (w1 : Cond.classLink own idx ("[" ++ (FieldType.array .int).toString) ∈ TB) (w2 : Cond.arrayClass .int ∈ TB) (hf : At E (pc + 4) f) : At E pc (o_mna rm.cells rm.slots f) := by
  intro L S h u q
  unfold o_mna at q
  split at q
  · rename_i k n S
    obtain ⟨p, l, e, R, s, m, args, below, meth, c, Qm, D, dA, A⟩ := E
    obtain ⟨kx, kb, kl, kown, kts, klk, kR, kW, kA, kst⟩ := hE
    intro H locs cells slots ls yl yR yS yc ys
    subst kR
    obtain ⟨q1, q2, q3, q4, q5, q6, q7⟩ := q
    generalize hN : n.toNatClampNeg = N at q3 q5 q6 q7
    generalize hK : k.toNatClampNeg = K at q4 q6 q7
    intro T hT X
    have hover : (Cond.arrayOver (.array .int)).before args s = true := kW.2.1.2.2.2.2.2
    obtain ⟨vm₁, cA, comp, -, fA, fC, hO, -, X', step⟩ := X.multianewarray2F kx kown (kts _ w1) hover (kts _ w2) (g := F0 m pc ls (.int k :: .int n :: S)) rfl (by rw [kb]; exact d) rfl q1 q2 (by omega) (by show _ * 4 ≤ _; omega) (by omega) rfl rfl (by omega) (by rw [hN, hK]; omega)
    have ec : comp = dA 20 := by
      have h9 := (kW.arr (t := 0) (k := 20) (ty := .int) rfl).2
      exact Option.some.inj (fC.symm.trans h9)
    have ea : cA = dA 25 := by
      have h9 := (kW.arr (t := 5) (k := 25) (ty := .array .int) rfl).2
      exact Option.some.inj (fA.symm.trans h9)
    subst ec
    rw [hN, hK] at X' step
    generalize hF : Jvm.Free.Multi.fill (T.setVm vm₁) cA (dA 20) N K (defaultValue .int) N = F at X' step
    have hTh : (T.setVm vm₁).heap = H := hT
    obtain ⟨f1, f2, -, -⟩ := Jvm.Free.Multi.fill_facts (T.setVm vm₁) cA (dA 20) N K (defaultValue .int) N
    rw [hF, hTh] at f1 f2
    have hold : ∀ x : Nat, x < H.size → F.heap[x]? = H[x]? := fun x hx => by
      have := Jvm.Free.Multi.fill_old (T.setVm vm₁) cA (dA 20) N K (defaultValue .int) (a := x) (by rw [hTh]; exact hx) N
      rw [hF, hTh] at this
      exact this
    have hrow : ∀ j : Nat, j < N → F.heap[H.size + 1 + j]? = some (arrV (dA 20) K (fun _ => .int 0)) := fun j hj => by
      have := Jvm.Free.Multi.fill_inner (T.setVm vm₁) cA (dA 20) N K (defaultValue .int) N j hj
      rw [hF, hTh] at this
      rw [this, ← arrV_new]
      rfl
    rw [mn_outer] at f2
    have hz : hn h = H.size := yR.1.symm
    have hRp : Rp D dA A F.heap (alM h N K) := by
      refine ⟨by rw [f1, ← hz]; rfl, fun a ha => ?_⟩
      by_cases g1 : a = hn h
      · refine ⟨by rw [g1, hz]; exact kA _ yS.1, by rw [f1, g1, hz]; omega, ?_⟩
        have es : hs (alM h N K) a = (25, N) := if_pos g1
        refine CellOk.arr (k := 25) (by rw [es]) (by decide) ?_
        rw [es, g1, hz, f2, ea]
        congr 2
        funext j
        rw [av_ref (by decide), ← hz]
        have er : hR (alM h N K) (hn h) j = if j < N then hn h + 1 + j else 0 := if_pos rfl
        rw [er]
        by_cases hj : j < N
        · rw [if_pos hj, if_pos hj]
          exact (ro_ne (by omega)).symm
        · rw [if_neg hj, if_neg hj]
          rfl
      · by_cases g2 : hn h < a ∧ a ≤ hn h + N
        · obtain ⟨j, hj, rfl⟩ : ∃ j, j < N ∧ a = hn h + 1 + j := ⟨a - hn h - 1, by omega, by omega⟩
          refine ⟨kA _ (by rw [hz]; have := yS.1; omega), by rw [f1, hz]; omega, ?_⟩
          have es : hs (alM h N K) (hn h + 1 + j) = (20, K) := (if_neg g1).trans (if_pos g2)
          refine CellOk.arr (k := 20) (by rw [es]) (by decide) ?_
          rw [es, hz, hrow j hj]
          congr 2
          funext i
          rw [av_int (by decide), ← hz]
          exact congrArg Value.int (show (0 : Int32) = _ from (if_pos (show h.1 ≤ hn h + 1 + j ∧ hn h + 1 + j ≤ h.1 + N from ⟨Nat.le_of_lt g2.1, g2.2⟩)).symm)
        · have ga := ag_alM (h := h) (N := N) (K := K) (b := a) (by omega)
          rw [ga.1] at ha
          obtain ⟨h1, h2, h3⟩ := yR.2 a ha
          exact ⟨h1, by rw [f1]; omega, h3.kept ga (hold a h2)⟩
    obtain ⟨t, a1, b1⟩ := hf _ _ _ _ q7 F.heap locs _ _ ls yl hRp ⟨by rw [f1]; have := yS.1; omega, fun x h1 h2 => (hold x (Nat.lt_of_lt_of_le h1 yS.1)).trans (yS.2.1 x h1 h2), yS.2.2⟩ (by show cells + 1 + N ≤ u.1 + (1 + N); omega) (by show slots + N + N * K ≤ u.2 + (N + N * K); omega) F rfl X'
    refine ⟨t, step t ?_, b1⟩
    have e9 : T.heap.size = hn h := by rw [hT, hz]
    rw [e9]
    exact a1
  · exact q.elim
/-- the constructor with a text of a class whose own constructor has her own index, then the throw -/
theorem nx_ctor {p : Program} {l : Launch} {e : Env} {R : Room} {s : State} {m₀ : MethodId} {args : Array Value} {below : List Frame} {meth : Method} {c : Code} {W : State} {locs : List Loc} {cells slots : Nat} (X : Stand p l e R s m₀ args below meth c W locs cells slots) (hexec : p.tables.exec = Jvm.exec) (htr : e.platform.stackTraces = false) {own cls : String} {names : List String} {ic ix : Nat} {rx : ByteArray}
    (x0 : decode rx 0 = .ok (.aload_n 0, 1)) (x1 : decode rx 1 = .ok (.aload_n 1, 1)) (x2 : decode rx 2 = .ok (.invokespecial ix, 3)) (x5 : decode rx 5 = .ok (.return_, 1))
    (hown : s.vm.findClass own = some m₀.cls) (hcls : Bundle.fit cls = true) (hnames : ∀ n ∈ names, Bundle.fit n = true)
    (h : ∀ a ∈ Bundle.ownAtomsX own ic cls ix rx names, a.before args s = true)
    (hlocs : ∀ x ∈ locs, ∀ cell, s.heap[x.base]? = some cell → cell.vm.isStatics = false)
    {a : Addr} {cX : ClassId} {kX : Class} (hfX : s.vm.findClass cls = some cX) (hkX : s.vm.classes[cX]? = some kX) (hcell : W.heap[a]? = some (freshCell cX kX)) (hnew : s.heap.size ≤ a)
    {msg : Value} (hmsg : msg.isRef = true)
    {g : JFrame} (hg : g.method = m₀) (hsize : g.locals.size = c.maxLocals) (hlocked : g.locked = none) (hent : g.entered = []) {rest : List Value} (hst : g.stack = msg :: .ref a :: .ref a :: rest)
    (hd : decode c.code g.pc = .ok (.invokespecial ic, 3)) (ht : decode c.code (g.pc + 3) = .ok (.athrow, 1)) (hout : ∀ x ∈ c.exceptionTable.toList, covers x (g.pc + 3) = false)
    (hRf : names.length + 3 < R.frames) (hRl : 2 * g.monitorRoom + ((Value.ref a :: rest).map fun v => v.category).sum + (13 * (names.length + 1) + 42) ≤ R.locals) (hlk : meth.locks = false) :
    ∃ U : State, Steps p.tables e below (W.setTop g) U ∧ U.status = .running ∧ Ended U below (.threw a) ∧ s.WarmedH U.vm ∧ s.sameButNew ({ U with vm := s.vm } : State) locs cells slots ∧
      ∃ ce, U.heap[a]? = some ce ∧ ce.vm = .none ∧ s.vm.findClass cls = some ce.cls := by
  have hpl : e.platform.magicAccessors = ({} : Platform).magicAccessors := by rw [X.admits.platform]
  have hh : ∀ w, w ∈ Bundle.ownAtomsX own ic cls ix rx names → w.holds args s none s [] = true := fun w hw => h w hw
  obtain ⟨T, Z0, L, -, Y⟩ := ThrowableC.of_atoms (args := args) (by rw [X.admits.platform]) (by rw [X.admits.platform]) hpl (fun w hw => h w (by simp [Bundle.ownAtomsX, hw]))
  obtain ⟨Z, M, LZ, LM, hZ⟩ := Init0T.ofS_atoms (args := args) hpl L Y (fun w hw => h w (by simp [Bundle.ownAtomsX, hw]))
  obtain ⟨P, Ps, hlen, LP, LPs, hPm, k1, k2⟩ := Bundle.chainSX (args := args) hpl hZ x0 x1 x2 x5 names cls hcls hnames (fun w hw => h w (by simp [Bundle.ownAtomsX, hw]))
  have hf : s.vm.findClass cls = some P.m.cls := findClass_of_methodNamed hPm
  cases Option.some.inj (hfX.symm.trans hf)
  obtain ⟨cZ, kZ, i1, i2, hord, -, -, -⟩ := Cond.instantiable_spec (hh (.instantiable cls 6) (by simp [Bundle.ownAtomsX]))
  cases Option.some.inj (i1.symm.trans hf)
  cases Option.some.inj (hkX.symm.trans i2)
  have sel : ∀ (t : MethodName) (tm : MethodId), s.methodNamed? t = some tm → t.name ≠ "<init>" → Cond.selects cls t t ∈ Bundle.ownAtomsX own ic cls ix rx names → (s.methodFound? t.cls t.name t.desc = some tm) → selectMethod e.platform s.vm P.m.cls tm = .method tm := by
    intro t tm h1 _ h2 h3
    obtain ⟨c2, r2, m2, q1, q2, q3, q4, -⟩ := Cond.selects_spec (hh _ h2)
    cases Option.some.inj (q1.symm.trans hf)
    cases Option.some.inj (q2.symm.trans h3)
    cases Option.some.inj (q3.symm.trans h1)
    rw [Launch.admits_selectMethod X.admits]; exact q4
  have s0 := sel Bundle.tFill0 _ Y.fill0 (by decide) (by simp [Bundle.ownAtomsX]) (State.methodFound?_of_named Y.fill0 (by decide))
  have sF := sel Bundle.tFill _ Y.fill (by decide) (by simp [Bundle.ownAtomsX]) (State.methodFound?_of_named Y.fill (by decide))
  obtain ⟨cs, hcs, hst9⟩ := Y.statics
  obtain ⟨u0, hu0⟩ := Cond.staticRefV Y.unassigned L.unassignedStatic L.statics hcs hst9 (hh (.isRef (.static Bundle.tN "UNASSIGNED_STACK" Bundle.steD)) (by simp [Bundle.ownAtomsX]))
  obtain ⟨sen, hsen⟩ := Cond.staticRefV Y.sentinel L.sentinelStatic L.statics hcs hst9 (hh (.isRef (.static Bundle.tN "SUPPRESSED_SENTINEL" Bundle.listD)) (by simp [Bundle.ownAtomsX]))
  obtain ⟨ci, ib, fB, b1, b2, b3, b4, -, bn, bt, bf⟩ := Cond.ownField (t := .object "java/lang/Object") Y.found L.cls (by decide +kernel) (hh (.fieldLink Bundle.tN 198 Bundle.tN "backtrace" "Ljava/lang/Object;") (by simp [Bundle.ownAtomsX])) (hh (.lays Bundle.tN Bundle.tN "backtrace" "Ljava/lang/Object;") (by simp [Bundle.ownAtomsX])) e.platform hpl
  obtain ⟨cv, hcv, ev, -, keep⟩ := X.same.2.2.2.2.2 T.aS cs hcs
  have hcv' : W.heap[T.aS]? = some cv := hcv
  have off : ∀ i, (⟨T.aS, i⟩ : Loc) ∉ locs := fun i hm => by
    have := hlocs _ hm cs hcs
    rw [hst9] at this; cases this
  have kn : cv.vm ≠ .unknown := by
    rw [ev]; intro hu
    rw [show cs.vm = .unknown from hu] at hst9
    cases hst9
  have ne : T.aS ≠ a := Nat.ne_of_lt (Nat.lt_of_lt_of_le (Array.getElem?_eq_some_iff.mp hcs).1 hnew)
  obtain ⟨iM, fM⟩ := Y.msg
  obtain ⟨tC, dC, l1, n1⟩ := Cond.laysAt hf i2 Y.cause (hh (.lays cls Bundle.tN "cause" "Ljava/lang/Throwable;") (by simp [Bundle.ownAtomsX]))
  obtain ⟨tS, dS, l2, n2⟩ := Cond.laysAt hf i2 Y.stack (hh (.lays cls Bundle.tN "stackTrace" Bundle.steD) (by simp [Bundle.ownAtomsX]))
  obtain ⟨tP, dP, l3, n3⟩ := Cond.laysAt hf i2 Y.supp (hh (.lays cls Bundle.tN "suppressedExceptions" Bundle.listD) (by simp [Bundle.ownAtomsX]))
  obtain ⟨tM, dM, l4, n4⟩ := Cond.laysAt hf i2 fM (hh (.lays cls Bundle.tN "detailMessage" "Ljava/lang/String;") (by simp [Bundle.ownAtomsX]))
  obtain ⟨tB, dB, l5, n5⟩ := Cond.laysAt hf i2 bf (hh (.lays cls Bundle.tN "backtrace" "Ljava/lang/Object;") (by simp [Bundle.ownAtomsX]))
  have aC := Cond.laysApart l5 l1 n5 n1 (by rw [bn, Y.causeName]; decide)
  have aS := Cond.laysApart l5 l2 n5 n2 (by rw [bn, Y.stackName]; decide)
  have aP := Cond.laysApart l5 l3 n5 n3 (by rw [bn, Y.suppName]; decide)
  have skip : SkipFacts T e.platform s (fun u => u) u0 ((preparedCellV T.toThrowableT (freshCell P.m.cls kX) a u0 sen).withEntry W.cur) :=
    ⟨{ ci198 := ci, i198 := ib, fBack := fB }, ⟨b1, b2, b3, b4⟩, by
      have t := fresh_default (c := P.m.cls) tB
      rw [bt] at t
      simpa [preparedCellV, Cell.setSlot, Cell.withEntry, Array.getElem?_setIfInBounds, aC, aS, aP, aC.symm, aS.symm, aP.symm, defaultValue] using t, fun _ _ => rfl⟩
  obtain ⟨tm, mC, cdC, kC, v1, hnC, -, -, -, -, -, -, -, hW1, st1⟩ := Steps.initColdS (tb := p.tables) (e := e) (below := below) (s := s) (U := W) X.here hexec X.warmed hpl hown (t := Bundle.initS cls) rfl rfl (Bundle.fit_spec hcls).2
    (hh (.methodLink own ic (Bundle.initS cls)) (by simp [Bundle.ownAtomsX])) (h (.instanceMethod (Bundle.initS cls)) (by cases names <;> simp [Bundle.ownAtomsX, Bundle.chainSAtomsX, Bundle.passSAtoms])) (bytes := rx) (maxL := 2) (h (.code (Bundle.initS cls) rx 2 none) (by cases names <;> simp [Bundle.ownAtomsX, Bundle.chainSAtomsX, Bundle.passSAtoms]))
    (f := g) hg (a := a) (msg := msg) (rest := .ref a :: rest) hst hd
  cases Option.some.inj (hnC.symm.trans hPm)
  obtain ⟨v2, X2, st2⟩ := (X.noted hW1).ctorMessageOffV hexec (g := { g with stack := .ref a :: rest }) hg hsize T L Z LZ M LM (P :: Ps)
    (fun Q hQ => by rcases List.mem_cons.mp hQ with rfl | hQ; exact LP; exact LPs Q hQ) ⟨k1, k2⟩ (u0 := u0) (sen := sen) (self := a) hmsg (cell := freshCell P.m.cls kX) (cellS := cv)
    hcell (fun _ => by simp) (by simp) rfl rfl s0 sF hcv' ne kn (by rw [keep _ (off _)]; exact hu0) (by rw [keep _ (off _)]; exact hsen)
    (Takes.of_laid i2 hord tC (by rw [Y.causeType]; rfl)) (Takes.of_laid i2 hord tS (by rw [Y.stackType]; exact fits_refV_array _ u0)) (Takes.of_laid i2 hord tP (by rw [Y.suppType]; exact fits_refV_object _ sen))
    (Takes.of_laid i2 hord tM (by rw [Y.msgType]; exact fits_refV_object _ ⟨msg, hmsg⟩)) Y.objLocals skip htr [] hd
    (by simp only [List.length_cons, hlen]; omega) (by simp only [List.length_cons, hlen]; exact hRl)
  obtain ⟨walk, run, ended, hWU, same⟩ := X2.athrowLeaves hexec (g := { g with stack := .ref a :: rest, pc := g.pc + 3 }) hg hlocked hent hout (a := a) (rest := rest) rfl ht
  have hlt : a < ((W.setVm v1).setVm v2).heap.size := (Array.getElem?_eq_some_iff.mp hcell).1
  have hU := heapAt_setCell_self (s := (W.setVm v1).setVm v2) (plainBareV T.toThrowableT (freshCell P.m.cls kX) a u0 sen msg) hlt
  refine ⟨_, st1 _ (fun acts => ?_), run, ended, hWU, same.weaken (fun y hy hl9 => ?_) (Nat.le_refl _) (Nat.le_refl _), _, hU, rfl, hf⟩
  · rw [doInvoke_state]
    exact st2 _ walk
  · rcases List.mem_append.mp hy with z | z
    · exact z
    · exfalso
      have hb : y.base = a := by
        simp only [List.mem_cons, List.not_mem_nil, or_false] at z
        rcases z with rfl | rfl | rfl | rfl | rfl <;> rfl
      rw [hb] at hl9
      exact Nat.not_lt.mpr hnew hl9
def NSE9 : String := "java/util/NoSuchElementException"
def NSW : List Cond := (Bundle.ownAtomsX "SparePlanner" 117 NSE9 13 prog_30_method_4_code ["java/lang/RuntimeException", "java/lang/Exception"]).filter vx_no
theorem vatN_a : NSW.all (fun w => (decide (w ∈ lw_tbl) && goodWord w) || (decide (w = Cond.castable NSE9 NSE9) || decide (w ∈ DECS.map Cond.declares))) = true := by decide +kernel
theorem vatN : (∀ w ∈ NSW, w ∈ TB ∨ w = Cond.castable NSE9 NSE9 ∨ ∃ x ∈ DECS, w = Cond.declares x) ∧ (∀ w ∈ Cond.classLink "SparePlanner" 113 NSE9 :: Cond.initialized NSE9 :: NSW, vx_ot w = true) := by
  refine ⟨fun w hw => ?_, List.all_eq_true.mp (by decide +kernel)⟩
  have h1 := List.all_eq_true.mp vatN_a w hw
  simp only [Bool.or_eq_true, Bool.and_eq_true, decide_eq_true_eq] at h1
  exact h1.elim (fun z => Or.inl (List.mem_filter.mpr z)) (fun z => Or.inr (z.elim Or.inl (fun y => Or.inr (by obtain ⟨x, h2, h3⟩ := List.mem_map.mp y; exact ⟨x, h2, h3.symm⟩))))
theorem nx_throw {p : Program} {l : Launch} {e : Env} {R : Room} {s : State} {m : MethodId} {args : Array Value} {below : List Frame} {meth : Method} {c : Code} {H : Heap} {locs : List Loc} {cells slots : Nat} {Qc : Array Value → State → Outcome → State → Prop} {XC : String → State → State → Prop} {free : Addr → Prop} {ls : Array Slot} {cc : ByteArray} {pc : Nat} (hexec : p.tables.exec = Jvm.exec) (hb : c.code = cc) (hl : l.stackTraces = false) {text : String} {is mc ms sa : Nat} {A : Nat → Prop}
    (hown : s.vm.findClass "SparePlanner" = some m.cls)
    (hk : (Cond.classLink "SparePlanner" 113 NSE9).before args s = true) (hini : (Cond.initialized NSE9).before args s = true) (hstr : vk_R "SparePlanner" is text sa s) (hat : ∀ w ∈ NSW, w.before args s = true)
    (hgood : ∀ w ∈ Cond.classLink "SparePlanner" 113 NSE9 :: Cond.initialized NSE9 :: NSW, vx_ot w = true)
    (hU : vx_Zq Bundle.tN "UNASSIGNED_STACK" Bundle.steD A s s.heap) (hN : vx_Zq Bundle.tN "SUPPRESSED_SENTINEL" Bundle.listD A s s.heap) (hS : va_S A s.heap H locs) (hsize : ls.size = c.maxLocals)
    (d : (decode cc pc = .ok (.new 113, 3) ∧ decode cc (pc + 3) = .ok (.dup, 1)) ∧ ((decode cc (pc + 4) = .ok (.ldc is, 2) ∧ decode cc (pc + 6) = .ok (.invokespecial 117, 3) ∧ decode cc (pc + 9) = .ok (.athrow, 1)) ∨ (decode cc (pc + 4) = .ok (.ldc_w is, 3) ∧ decode cc (pc + 7) = .ok (.invokespecial 117, 3) ∧ decode cc (pc + 10) = .ok (.athrow, 1))))
    (hout : ∀ x ∈ c.exceptionTable.toList, False)
    (hRf : 5 < R.frames) (hRl : 82 ≤ R.locals) (hRc : cells + 1 ≤ R.cells) (hRs : slots + 6 ≤ R.slots) (hlk : meth.locks = false)
    (hx : ∀ t : State, s.vm.Alike t.vm → H.size ≤ t.heap.size → (∀ q : Nat, q < H.size → t.heap[q]? = H[q]?) → XC NSE9 s t)
    (hf : ∀ z ∈ locs, free z.base) (hc : cells + 1 ≤ mc) (hs : slots + 6 ≤ ms) :
    W p l e R s m args below meth c H locs cells slots (vx_MQ below Qc XC args s mc ms free) (F0 m pc ls []) := by
  intro T hT X
  have htr : e.platform.stackTraces = false := (show e.platform.stackTraces = l.stackTraces by rw [X.admits.platform]).trans hl
  have Y := vx_rebase X (R' := { frames := R.frames, locals := R.locals, cells := 1, slots := 6 }) (Nat.le_refl _) (Nat.le_refl _) hRc hRs
  obtain ⟨s', hA⟩ : ∃ z, z = (T.setVm s.vm).setFrames (.invoking m args :: below) := ⟨_, rfl⟩
  rw [← hA] at Y
  have hvm : s'.vm = s.vm := by rw [hA]; rfl
  have hhp : s'.heap = H := by rw [hA]; exact hT
  have hW0 : s.WarmedH s'.vm := by rw [hvm]; exact State.WarmedH.refl s
  have mv : ∀ w : Cond, vx_ot w = true → w.before args s = true → w.before args s' = true := fun w g9 h9 => vx_ot_at hW0 hvm.symm g9 h9
  have hU' : vx_Zq Bundle.tN "UNASSIGNED_STACK" Bundle.steD A s' s'.heap := by rw [hhp]; exact vx_Zq.moved hW0.alike (hU.kept hS.2.1)
  have hN' : vx_Zq Bundle.tN "SUPPRESSED_SENTINEL" Bundle.listD A s' s'.heap := by rw [hhp]; exact vx_Zq.moved hW0.alike (hN.kept hS.2.1)
  have h : ∀ w ∈ Bundle.ownAtomsX "SparePlanner" 117 NSE9 13 prog_30_method_4_code ["java/lang/RuntimeException", "java/lang/Exception"], w.before args s' = true := vx_own (fun w hw => mv w (hgood w (List.mem_cons_of_mem _ (List.mem_cons_of_mem _ hw))) (hat w hw)) (vx_isRefq hU'.1) (vx_isRefq hN'.1) hU'.2.word hN'.2.word
  have hown' : s'.vm.findClass "SparePlanner" = some m.cls := by rw [hvm]; exact hown
  obtain ⟨⟨d0, d3⟩, d4⟩ := d
  obtain ⟨vm₁, cX, kX, hfX, hkX, -, -, X₁, st1⟩ := Y.newCold hexec (own := "SparePlanner") (C := NSE9) (index := 113) (n := 6) hown' (mv _ (hgood _ List.mem_cons_self) hk) (h _ (by simp [Bundle.ownAtomsX])) (mv _ (hgood _ (List.mem_cons_of_mem _ List.mem_cons_self)) hini)
    (g := F0 m pc ls []) rfl (by rw [hb]; exact d0) (Nat.le_refl _) (Nat.le_refl _)
  generalize hT1 : (T.setVm vm₁).pushCell { cls := cX, slots := kX.instanceTypes.map defaultValue, vm := .none } = T1 at X₁ st1
  have hcat : (Value.ref T.heap.size).category = 1 := rfl
  have hcellA : T1.heap[T.heap.size]? = some (freshCell cX kX) := by rw [← hT1]; exact State.heap_pushCell_size _ _
  have d3' : decode c.code (pc + 3) = .ok (.dup, 1) := by rw [hb]; exact d3
  have hstr' : vk_R "SparePlanner" is text sa s' := vk_R.warm hW0 hstr
  obtain ⟨j, j1, j2, j3, j4⟩ : ∃ j, (∀ U', Steps p.tables e below (T1.setTop { method := m, pc := pc + j, locals := ls, stack := .ref sa :: .ref T.heap.size :: .ref T.heap.size :: [], locked := none }) U' → Steps p.tables e below (T1.setTop { method := m, pc := pc + 4, locals := ls, stack := .ref T.heap.size :: .ref T.heap.size :: [], locked := none }) U') ∧ decode c.code (pc + j) = .ok (.invokespecial 117, 3) ∧ decode c.code (pc + j + 3) = .ok (.athrow, 1) ∧ True := by
    obtain ⟨q4, q6, q9⟩ | ⟨q4, q6, q9⟩ := d4
    · refine ⟨6, fun U' hS' => ?_, by rw [hb]; exact q6, by rw [hb]; exact q9, trivial⟩
      exact X₁.ldcString hexec (own := "SparePlanner") (text := text) (index := is) (a := sa) hown' hstr'.1 hstr'.2
        (g := { method := m, pc := pc + 4, locals := ls, stack := .ref T.heap.size :: .ref T.heap.size :: [], locked := none }) rfl (by rw [hb]; exact q4) _ hS'
    · refine ⟨7, fun U' hS' => ?_, by rw [hb]; exact q6, by rw [hb]; exact q9, trivial⟩
      exact X₁.ldcStringW hexec (own := "SparePlanner") (text := text) (index := is) (a := sa) hown' hstr'.1 hstr'.2
        (g := { method := m, pc := pc + 4, locals := ls, stack := .ref T.heap.size :: .ref T.heap.size :: [], locked := none }) rfl (by rw [hb]; exact q4) _ hS'
  obtain ⟨U, hsteps, hrun, hend, hW, hsame, ce, hce, hO1, hO2⟩ := nx_ctor X₁ hexec htr (own := "SparePlanner") (cls := NSE9) (names := ["java/lang/RuntimeException", "java/lang/Exception"]) (ic := 117) (ix := 13) (rx := prog_30_method_4_code) (by decide +kernel) (by decide +kernel) (by decide +kernel) (by decide +kernel) hown' (by decide +kernel) (by decide +kernel) h (fun x hx => nomatch hx) hfX hkX hcellA (by rw [hhp, hT]; exact Nat.le_refl _) (msg := .ref sa) rfl
    (g := { method := m, pc := pc + j, locals := ls, stack := .ref sa :: .ref T.heap.size :: .ref T.heap.size :: [], locked := none }) rfl hsize rfl rfl (rest := []) rfl j2 j3 (fun x hx => (hout x hx).elim) hRf (by simp only [List.map_cons, List.map_nil, List.sum_cons, List.sum_nil, hcat, List.length_cons, List.length_nil]; show 2 * 0 + (1 + 0) + (13 * (2 + 1) + 42) ≤ R.locals; omega) hlk
  obtain ⟨f1, f2⟩ := vx_frame hsame
  rw [hhp] at f1 f2
  have hWs : s.WarmedH U.vm := State.WarmedH.trans hW0 hW
  have hcl : s.vm.findClass NSE9 = some ce.cls := by
    rw [hvm] at hO2
    exact hO2
  have hall : s.sameButNew ({ U with vm := s.vm } : State) locs mc ms := by
    subst hA
    obtain ⟨e1, e2⟩ := hsame
    rw [State.setFrames_setFrames] at e1
    have h2 : (T.setVm s.vm).sameButNew ({ U with vm := s.vm } : State) [] (0 + 1) (0 + 6) := ⟨e1, e2⟩
    have h3 := X.same.trans h2
    rw [List.append_nil] at h3
    exact h3.mono hc hs
  refine ⟨U, ?_, .threw T.heap.size, hrun, hend, Or.inr ⟨T.heap.size, rfl, NSE9, ce, locs, hx U hWs.alike f1 (fun q hq => f2 q hq (fun z hz => nomatch hz)), hce, hO1, hcl, hWs, hall, hf⟩⟩
  refine st1 _ ?_
  show Steps p.tables e below (T1.setTop { method := m, pc := pc + 3, locals := ls, stack := .ref T.heap.size :: [], locked := none }) _
  jvm_step X₁.here [X₁.here.top, hexec, d3', Value.category]
  exact j1 _ hsteps
theorem r_throwN {E : ME} {cc : ByteArray} {nL : Nat} {rm : Room} (hE : EnvOk E "SparePlanner" cc nL rm) {y : MethodName} {h0 : Hp} {Qr : Option Value → Hp → Prop} {Xr : String → Hp → Prop} {ret : Option FieldType} (hM : MEnv E y h0 Qr Xr ret []) {pc is : Nat} {text : String}
    (d : (decode cc pc = .ok (.new 113, 3) ∧ decode cc (pc + 3) = .ok (.dup, 1)) ∧ ((decode cc (pc + 4) = .ok (.ldc is, 2) ∧ decode cc (pc + 6) = .ok (.invokespecial 117, 3) ∧ decode cc (pc + 9) = .ok (.athrow, 1)) ∨ (decode cc (pc + 4) = .ok (.ldc_w is, 3) ∧ decode cc (pc + 7) = .ok (.invokespecial 117, 3) ∧ decode cc (pc + 10) = .ok (.athrow, 1))))
    (w3 : ("SparePlanner", is, text) ∈ STRS) (hr1 : 5 < rm.frames) (hr2 : 82 ≤ rm.locals) : At E pc (o_throw "java/util/NoSuchElementException" rm.cells rm.slots Xr) := by
  intro L S h u q
  unfold o_throw at q
  split at q
  · obtain ⟨p, l, e, R, s, m, args, below, meth, c, Qm, D, dA, A⟩ := E
    obtain ⟨kx, kb, kl, kown, kts, klk, kR, kW, kA, kst⟩ := hE
    obtain ⟨m1, m2, m3, m4, m5, -⟩ := hM
    intro H locs cells slots ls yl yR yS yc ys
    subst kR; subst m1; subst m2
    obtain ⟨q1, q2, q3⟩ := q
    obtain ⟨sa, hsa⟩ := kW.2.1.2.2.2.1 _ w3
    have hx : ∀ t : State, s.vm.Alike t.vm → H.size ≤ t.heap.size → (∀ q : Nat, q < H.size → t.heap[q]? = H[q]?) → XcOf D dA h0 Xr NSE9 s t := by
      intro t _ hz hq
      refine ⟨⟨hxn h t.heap.size, q3 _ (by rw [← yR.1]; exact hz), yR.grow hz hq⟩, Nat.le_trans yS.1 hz, fun q h1 h2 => ?_⟩
      rw [hq q (Nat.lt_of_lt_of_le h1 yS.1)]
      exact yS.2.1 q h1 h2
    exact nx_throw kx kb kst kown (kts _ w653) (kts _ w77) hsa (fun w hw => (vatN.1 w hw).elim (kts _) (fun z9 => z9.elim (fun e9 => by rw [e9]; exact va_Cs.use (kW.2.1.1.1 _ (by decide))) (fun ⟨x, hx9, e9⟩ => by rw [e9]; exact va_Nw.use rfl (kW.2.1.1.2 _ hx9)))) vatN.2 kW.2.2.1 kW.2.2.2.1 yS yl.1 d (fun x hx9 => by rw [m5] at hx9; cases hx9) hr1 hr2 (by omega) (by omega) klk hx yS.2.2 (by omega) (by omega)
  · exact q.elim
theorem Ct_ofF {l : Launch} (hst : l.stackTraces = false) {y : MethodName} {b : ByteArray} {nL : Nat} {ret : Option FieldType} {rm : Room} {av : List Value} {h : Hp} {Qr : Option Value → Hp → Prop} {Xr : String → Hp → Prop} (hy : plainFor y = true) (hl : (lg_sl av).length ≤ nL)
    (body : ∀ E : ME, E.2.1 = l → EnvOk E y.cls b nL rm → MEnv E y h Qr Xr ret [] → G E 0 (lv_args 0 av) [] h (0, 0)) : Ct l y (.code y b nL ret) rm av h Qr Xr := by
  intro D dA
  refine Jvm.Free.MetFree.of_bodySF (code := b) (maxLocals := nL) (ret := ret) hy ?_ ?_
  · intro args s m h hn
    obtain ⟨meth, c, h1, h2, h3, h4, h5, h6, -, -⟩ := Cond.code_spec hn (atoms_spec (ws := Cond.code y b nL ret :: TB) h _ List.mem_cons_self)
    exact ⟨meth, c, h1, h2, h3, h4, h5, h6⟩
  · intro p e s m args below meth c s₁ B hml hP _
    have hh0 : s₁.heap = s.heap := by rw [B.state]; rfl
    obtain ⟨rfl, hW, hRp⟩ := hP
    have hts := atoms_spec (ws := Cond.code y b nL ret :: TB) B.pre
    have ht0 : c.exceptionTable.toList = [] := by
      obtain ⟨meth9, c9, h1, h2, -, -, -, -, h7, -⟩ := Cond.code_spec B.named (hts _ List.mem_cons_self)
      cases Option.some.inj (h1.symm.trans B.method)
      cases Option.some.inj (h2.symm.trans (Stand.of_body B).code)
      rw [Array.isEmpty_iff.mp h7]
    have hG := body (p, l, e, rm, s, m, av.toArray, below, meth, c, vx_MQ below (QcOf D dA h Qr) (XcOf D dA h Xr) av.toArray s rm.cells rm.slots (Af h), D, dA, Af h) rfl
      ⟨B.exec, B.bytes, hml, findClass_of_methodNamed B.named, fun w hw => hts w (List.mem_cons_of_mem _ hw), B.notSynchronized, rfl, hW, fun q hq => Or.inr (by rw [← hRp.1]; exact hq), hst⟩
      ⟨rfl, rfl, B.returns, hRp.1, ht0, (name_of_methodNamed B.named B.method).1⟩
    have hG2 : W p l e rm s m av.toArray below meth c s.heap [] 0 0 (vx_MQ below (QcOf D dA h Qr) (XcOf D dA h Xr) av.toArray s rm.cells rm.slots (Af h)) (entryFrame m av.toArray nL) := by
      rw [lg_entry_eq]
      exact hG s.heap [] 0 0 _ (by rw [hml]; exact lv_entry av hl) hRp va_S.rf (Nat.le_refl _) (Nat.le_refl _)
    obtain ⟨t, a1, o, b1, b2, b3⟩ := hG2 s₁ hh0 (Stand.of_body B)
    exact ⟨t, o, a1, b1, b2, b3⟩
end CALLS

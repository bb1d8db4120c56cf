section BASE
set_option maxHeartbeats 1000000 in
theorem TB_good : TB.all goodWord = true := by
  unfold TB
  exact List.all_eq_true.mpr (fun w hw => (List.mem_filter.mp hw).2)
/-- the abstract heap: the next address; an address's kind and length; ints, references (0: null), longs, doubles by address and place -/
abbrev Hp : Type := Nat × (Nat → Nat × Nat) × (Nat → Nat → Int32) × (Nat → Nat → Nat) × (Nat → Nat → Int64) × (Nat → Nat → UInt64)
def hn (h : Hp) : Nat := h.1
def hs (h : Hp) (a : Nat) : Nat × Nat := h.2.1 a
def hI (h : Hp) (a : Nat) : Nat → Int32 := h.2.2.1 a
def hR (h : Hp) (a : Nat) : Nat → Nat := h.2.2.2.1 a
def hL (h : Hp) (a : Nat) : Nat → Int64 := h.2.2.2.2.1 a
def hD (h : Hp) (a : Nat) : Nat → UInt64 := h.2.2.2.2.2 a
def u2 {α : Type} (f : Nat → Nat → α) (a k : Nat) (x : α) : Nat → Nat → α := fun b j => if b = a then (if j = k then x else f b j) else f b j
def z2 {α : Type} (f : Nat → Nat → α) (a : Nat) (x : α) : Nat → Nat → α := fun b j => if b = a then x else f b j
def wI (h : Hp) (a k : Nat) (x : Int32) : Hp := (h.1, h.2.1, u2 h.2.2.1 a k x, h.2.2.2)
def wR (h : Hp) (a k : Nat) (x : Nat) : Hp := (h.1, h.2.1, h.2.2.1, u2 h.2.2.2.1 a k x, h.2.2.2.2)
def wL (h : Hp) (a k : Nat) (x : Int64) : Hp := (h.1, h.2.1, h.2.2.1, h.2.2.2.1, u2 h.2.2.2.2.1 a k x, h.2.2.2.2.2)
def wD (h : Hp) (a k : Nat) (x : UInt64) : Hp := (h.1, h.2.1, h.2.2.1, h.2.2.2.1, h.2.2.2.2.1, u2 h.2.2.2.2.2 a k x)
/-- a new thing at the next address, of kind and length q, all its places 0 -/
def al (h : Hp) (q : Nat × Nat) : Hp := (h.1 + 1, (fun b => if b = h.1 then q else h.2.1 b), z2 h.2.2.1 h.1 0, z2 h.2.2.2.1 h.1 0, z2 h.2.2.2.2.1 h.1 0, z2 h.2.2.2.2.2 h.1 0)
def hxn (h : Hp) (n : Nat) : Hp := (n, h.2)
/-- n numbers of the ints copied from a at sp to b at dp -/
def cpI (h : Hp) (a sp b dp n : Nat) : Hp := (h.1, h.2.1, (fun x => if x = b then va_cpy (h.2.2.1 a) (h.2.2.1 b) sp dp n else h.2.2.1 x), h.2.2.2)
def ro (r : Nat) : Option Nat := if r = 0 then none else some r
theorem ro_ne {r : Nat} (h : r ≠ 0) : va_rf (ro r) = .ref r := by unfold ro; rw [if_neg h]; rfl
/-- the same at b -/
def ag (h h' : Hp) (b : Nat) : Prop := hs h' b = hs h b ∧ hI h' b = hI h b ∧ hR h' b = hR h b ∧ hL h' b = hL h b ∧ hD h' b = hD h b
theorem ag_wI {h : Hp} {a k b : Nat} {x : Int32} (hb : b ≠ a) : ag h (wI h a k x) b := ⟨rfl, funext fun j => if_neg hb, rfl, rfl, rfl⟩
theorem ag_wR {h : Hp} {a k b : Nat} {x : Nat} (hb : b ≠ a) : ag h (wR h a k x) b := ⟨rfl, rfl, funext fun j => if_neg hb, rfl, rfl⟩
theorem ag_wL {h : Hp} {a k b : Nat} {x : Int64} (hb : b ≠ a) : ag h (wL h a k x) b := ⟨rfl, rfl, rfl, funext fun j => if_neg hb, rfl⟩
theorem ag_wD {h : Hp} {a k b : Nat} {x : UInt64} (hb : b ≠ a) : ag h (wD h a k x) b := ⟨rfl, rfl, rfl, rfl, funext fun j => if_neg hb⟩
theorem ag_cpI {h : Hp} {a sp c dp n b : Nat} (hb : b ≠ c) : ag h (cpI h a sp c dp n) b := ⟨rfl, if_neg hb, rfl, rfl, rfl⟩
theorem ag_al {h : Hp} {q : Nat × Nat} {b : Nat} (hb : b ≠ hn h) : ag h (al h q) b := ⟨if_neg hb, funext fun j => if_neg hb, funext fun j => if_neg hb, funext fun j => if_neg hb, funext fun j => if_neg hb⟩
def fv (h : Hp) (ci a j : Nat) : Value := match fty ci j with
  | .object _ => va_rf (ro (hR h a j))
  | .array _ => va_rf (ro (hR h a j))
  | _ => .int (hI h a j)
def av (h : Hp) (k a j : Nat) : Value := if k ≤ 22 then .int (hI h a j) else if k = 23 then .long (hL h a j) else if k = 24 then .double (hD h a j) else va_rf (ro (hR h a j))
/-- the cell at a is as the abstract heap says -/
def CellOk (D : va_G) (dA : Nat → ClassId) (h : Hp) (H : Heap) (a : Nat) : Prop :=
  if (hs h a).1 < 20 then (∃ q : vw_C, cls[(hs h a).1 - 1]? = some q ∧ q.2.2 = (hs h a).2 ∧ t_OB a (D.1 ((hs h a).1 - 1)) (hs h a).2 (D.2 ((hs h a).1 - 1)) H (fun j => fv h ((hs h a).1 - 1) a j))
  else H[a]? = some (arrV (dA (hs h a).1) (hs h a).2 (fun j => av h (hs h a).1 a j))
theorem fv_ag {h h' : Hp} {b : Nat} (g : ag h h' b) (ci j : Nat) : fv h' ci b j = fv h ci b j := by
  obtain ⟨g1, g2, g3, g4, g5⟩ := g
  unfold fv; rw [g2, g3]
theorem av_ag {h h' : Hp} {b : Nat} (g : ag h h' b) (k j : Nat) : av h' k b j = av h k b j := by
  obtain ⟨g1, g2, g3, g4, g5⟩ := g
  unfold av; rw [g2, g3, g4, g5]
theorem CellOk.kept {D : va_G} {dA : Nat → ClassId} {h h' : Hp} {H H' : Heap} {a : Nat} (g : ag h h' a) (e : H'[a]? = H[a]?) (k : CellOk D dA h H a) : CellOk D dA h' H' a := by
  have gs := g.1
  unfold CellOk at k ⊢
  rw [gs]
  split
  · rename_i hk
    rw [if_pos hk] at k
    obtain ⟨q, h1, h2, h3⟩ := k
    exact ⟨q, h1, h2, (h3.kept e).to (fun j _ => (fv_ag g _ j).symm)⟩
  · rename_i hk
    rw [if_neg hk] at k
    rw [e, k]
    congr 2
    funext j
    exact (av_ag g _ j).symm
def Rp (D : va_G) (dA : Nat → ClassId) (A : Nat → Prop) (H : Heap) (h : Hp) : Prop := H.size = hn h ∧ ∀ a, (hs h a).1 ≠ 0 → A a ∧ a < H.size ∧ CellOk D dA h H a
theorem Rp.set {D : va_G} {dA : Nat → ClassId} {A : Nat → Prop} {h h' : Hp} {H H' : Heap} {a0 : Nat} (R0 : Rp D dA A H h) (z : H'.size = H.size) (oq : ∀ q : Nat, q ≠ a0 → H'[q]? = H[q]?) (hn' : hn h' = hn h) (hs' : hs h' a0 = hs h a0) (g : ∀ b, b ≠ a0 → ag h h' b) (hc : CellOk D dA h' H' a0) : Rp D dA A H' h' := by
  refine ⟨by rw [z, hn']; exact R0.1, fun a ha => ?_⟩
  by_cases e : a = a0
  · subst e
    rw [hs'] at ha
    obtain ⟨h1, h2, -⟩ := R0.2 a ha
    exact ⟨h1, by rw [z]; exact h2, hc⟩
  · have ga := g a e
    rw [ga.1] at ha
    obtain ⟨h1, h2, h3⟩ := R0.2 a ha
    exact ⟨h1, by rw [z]; exact h2, h3.kept ga (oq a e)⟩
theorem Rp.push {D : va_G} {dA : Nat → ClassId} {A : Nat → Prop} {h : Hp} {q : Nat × Nat} {H H' : Heap} (R0 : Rp D dA A H h) (z : H'.size = H.size + 1) (oq : ∀ q : Nat, q < H.size → H'[q]? = H[q]?) (hA : A (hn h)) (hc : CellOk D dA (al h q) H' (hn h)) : Rp D dA A H' (al h q) := by
  refine ⟨by rw [z, R0.1]; rfl, fun a ha => ?_⟩
  by_cases e : a = hn h
  · subst e
    exact ⟨hA, by rw [z, R0.1]; exact Nat.lt_succ_self _, hc⟩
  · have ga := ag_al (q := q) e
    rw [ga.1] at ha
    obtain ⟨h1, h2, h3⟩ := R0.2 a ha
    exact ⟨h1, by rw [z]; exact Nat.lt_succ_of_lt h2, h3.kept ga (oq a h2)⟩
theorem Rp.grow {D : va_G} {dA : Nat → ClassId} {A : Nat → Prop} {h : Hp} {H H' : Heap} (R0 : Rp D dA A H h) (z : H.size ≤ H'.size) (oq : ∀ q : Nat, q < H.size → H'[q]? = H[q]?) : Rp D dA A H' (hxn h H'.size) := by
  refine ⟨rfl, fun a ha => ?_⟩
  obtain ⟨h1, h2, h3⟩ := R0.2 a ha
  exact ⟨h1, Nat.lt_of_lt_of_le h2 z, h3.kept (h' := hxn h H'.size) ⟨rfl, rfl, rfl, rfl, rfl⟩ (oq a h2)⟩
/-- what a method may write -/
def Af (h : Hp) : Nat → Prop := fun q => (hs h q).1 ≠ 0 ∨ hn h ≤ q
/-- words of the start that no list of good words carries -/
def va_Cs (X : String) (U : State) : Prop := ∃ c : ClassId, U.vm.findClass X = some c ∧ U.vm.assignable c c = true
theorem va_Cs.moved {X : String} {u U : State} (hvm : u.vm.Alike U.vm) (h : va_Cs X u) : va_Cs X U := by
  obtain ⟨c, h1, h2⟩ := h
  exact ⟨c, by rw [hvm.findClass]; exact h1, by rw [hvm.assignable]; exact h2⟩
theorem va_Cs.of {args : Array Value} {s : State} {X : String} (h : (Cond.castable X X).before args s = true) : va_Cs X s := by
  obtain ⟨c3, c4, h1, h2, h3⟩ := Cond.castable_spec h
  cases Option.some.inj (h1.symm.trans h2)
  exact ⟨c3, h1, h3⟩
theorem va_Cs.use {args : Array Value} {s : State} {X : String} (h : va_Cs X s) : (Cond.castable X X).before args s = true := by
  obtain ⟨c, h1, h2⟩ := h
  simp only [Cond.before, Cond.holds, Cond.value, h1]
  simp [h2]
def NBk (s : State) : Prop := ((∀ X ∈ CSS, va_Cs X s) ∧ ∀ x ∈ DECS, va_Nw (.declares x) s) ∧ (∀ q ∈ NESTS, va_Nw (.methodLinkNest q.1 q.2.1 q.2.2 "SparePlanner") s) ∧ (∀ C ∈ AOS, va_AO C s) ∧ (∀ q ∈ STRS, ∃ sa, vk_R q.1 q.2.1 q.2.2 sa s) ∧ (∀ q ∈ NCS, va_Nc q.1 q.2 s) ∧ (Cond.arrayOver (.array .int)).before #[] s = true
def tysOf (dA : Nat → ClassId) : List (ClassId × FieldType) := ATY.map (fun q => (dA q.1, q.2))
def Wd (D : va_G) (dA : Nat → ClassId) (A : Nat → Prop) (s : State) : Prop := va_K D cls (tysOf dA) s ∧ NBk s ∧ vx_Zq Bundle.tN "UNASSIGNED_STACK" Bundle.steD A s s.heap ∧ vx_Zq Bundle.tN "SUPPRESSED_SENTINEL" Bundle.listD A s s.heap ∧ ¬ A 0
/-- the machine's side of a frame -/
abbrev ME : Type := Program × Launch × Env × Room × State × MethodId × Array Value × List Frame × Method × Code × (State → Prop) × va_G × (Nat → ClassId) × (Nat → Prop)
abbrev LV : Type := List (Nat × Value)
abbrev FT : Type := LV → List Value → Hp → Nat × Nat → Prop
def EnvOk (E : ME) (own : String) (cc : ByteArray) (nL : Nat) (rm : Room) : Prop := match E with
  | (p, l, _, R, s, m, args, _, meth, c, _, D, dA, A) => p.tables.exec = Jvm.exec ∧ c.code = cc ∧ c.maxLocals = nL ∧ s.vm.findClass own = some m.cls ∧ (∀ w ∈ TB, w.before args s = true) ∧ meth.locks = false ∧ R = rm ∧ Wd D dA A s ∧ (∀ q, s.heap.size ≤ q → A q) ∧ l.stackTraces = false
/-- the frame at pc with these locals and this stack comes to the end, wherever the abstract heap h is what lies there -/
def G (E : ME) (pc : Nat) : FT := fun L S h u => match E with
  | (p, l, e, R, s, m, args, below, meth, c, Qm, D, dA, A) => ∀ (H : Heap) (locs : List Loc) (cells slots : Nat) (ls : Array Slot), lv_has ls c.maxLocals L → Rp D dA A H h → va_S A s.heap H locs → cells ≤ u.1 → slots ≤ u.2 → W p l e R s m args below meth c H locs cells slots Qm (F0 m pc ls S)
def At (E : ME) (pc : Nat) (f : FT) : Prop := ∀ L S h u, f L S h u → G E pc L S h u
theorem At_G (E : ME) (pc : Nat) : At E pc (G E pc) := fun _ _ _ _ h => h
def lget (L : LV) (i : Nat) : Option Value := (L.find? (fun q => q.1 == i)).map (fun q => q.2)
theorem lget_at {ls : Array Slot} {nL : Nat} {L : LV} {i : Nat} {v : Value} (h : lv_has ls nL L) (e : lget L i = some v) : ls[i]? = some (.val v) := by
  unfold lget at e
  cases hq : L.find? (fun q => q.1 == i) with
  | none => rw [hq] at e; cases e
  | some q =>
    rw [hq] at e
    have e2 : q.2 = v := Option.some.inj e
    have h1 := List.find?_some hq
    have h2 := List.mem_of_find?_eq_some hq
    have h3 := h.2.2 q h2
    have h4 : q.1 = i := by simpa using h1
    rw [h4, e2] at h3
    exact h3
def lset1 (L : LV) (i : Nat) (v : Value) : LV := (i, v) :: L.filter (fun q => !(q.1 == i) && !(q.1 + 1 == i && q.2.category == 2))
def lset2 (L : LV) (i : Nat) (v : Value) : LV := (i, v) :: L.filter (fun q => !(q.1 == i) && (!(q.1 == i + 1) && !(q.1 + 1 == i && q.2.category == 2)))
def o_iload (i : Nat) (f : FT) : FT := fun L S h u => match lget L i with
  | some (.int x) => f L (.int x :: S) h u
  | _ => False
theorem r_iload {E : ME} {own : String} {cc : ByteArray} {nL : Nat} {rm : Room} (hE : EnvOk E own cc nL rm) {pc : Nat} {f : FT} {i : Nat} (d : decode cc pc = .ok (.iload i, 2)) (hf : At E (pc + 2) f) : At E pc (o_iload i f) := by
  intro L S h u q
  obtain ⟨p, l, e, R, s, m, args, below, meth, c, Qm, D, dA, A⟩ := E
  obtain ⟨kx, kb, kl, kown, kts, klk, kR, kW, kA, kst⟩ := hE
  unfold o_iload at q
  split at q
  · rename_i x hx
    intro H locs cells slots ls yl yR yS yc ys
    exact lv_iload kx kb d (lget_at yl hx) (hf _ _ _ _ q H locs cells slots ls yl yR yS yc ys)
  · exact q.elim
theorem r_iload_n {E : ME} {own : String} {cc : ByteArray} {nL : Nat} {rm : Room} (hE : EnvOk E own cc nL rm) {pc : Nat} {f : FT} {k : Fin 4} {i : Nat} (hi : (k : Nat) = i) (d : decode cc pc = .ok (.iload_n k, 1)) (hf : At E (pc + 1) f) : At E pc (o_iload i f) := by
  intro L S h u q
  obtain ⟨p, l, e, R, s, m, args, below, meth, c, Qm, D, dA, A⟩ := E
  obtain ⟨kx, kb, kl, kown, kts, klk, kR, kW, kA, kst⟩ := hE
  unfold o_iload at q
  split at q
  · rename_i x hx
    intro H locs cells slots ls yl yR yS yc ys
    exact lv_iload_n kx kb d hi (lget_at yl hx) (hf _ _ _ _ q H locs cells slots ls yl yR yS yc ys)
  · exact q.elim
def o_aload (i : Nat) (f : FT) : FT := fun L S h u => match lget L i with
  | some (.ref x) => f L (.ref x :: S) h u
  | _ => False
theorem r_aload {E : ME} {own : String} {cc : ByteArray} {nL : Nat} {rm : Room} (hE : EnvOk E own cc nL rm) {pc : Nat} {f : FT} {i : Nat} (d : decode cc pc = .ok (.aload i, 2)) (hf : At E (pc + 2) f) : At E pc (o_aload i f) := by
  intro L S h u q
  obtain ⟨p, l, e, R, s, m, args, below, meth, c, Qm, D, dA, A⟩ := E
  obtain ⟨kx, kb, kl, kown, kts, klk, kR, kW, kA, kst⟩ := hE
  unfold o_aload at q
  split at q
  · rename_i x hx
    intro H locs cells slots ls yl yR yS yc ys
    exact lv_aload kx kb d (lget_at yl hx) (hf _ _ _ _ q H locs cells slots ls yl yR yS yc ys)
  · exact q.elim
theorem r_aload_n {E : ME} {own : String} {cc : ByteArray} {nL : Nat} {rm : Room} (hE : EnvOk E own cc nL rm) {pc : Nat} {f : FT} {k : Fin 4} {i : Nat} (hi : (k : Nat) = i) (d : decode cc pc = .ok (.aload_n k, 1)) (hf : At E (pc + 1) f) : At E pc (o_aload i f) := by
  intro L S h u q
  obtain ⟨p, l, e, R, s, m, args, below, meth, c, Qm, D, dA, A⟩ := E
  obtain ⟨kx, kb, kl, kown, kts, klk, kR, kW, kA, kst⟩ := hE
  unfold o_aload at q
  split at q
  · rename_i x hx
    intro H locs cells slots ls yl yR yS yc ys
    exact lv_aload_n kx kb d hi (lget_at yl hx) (hf _ _ _ _ q H locs cells slots ls yl yR yS yc ys)
  · exact q.elim
def o_fload (i : Nat) (f : FT) : FT := fun L S h u => match lget L i with
  | some (.float x) => f L (.float x :: S) h u
  | _ => False
theorem r_fload {E : ME} {own : String} {cc : ByteArray} {nL : Nat} {rm : Room} (hE : EnvOk E own cc nL rm) {pc : Nat} {f : FT} {i : Nat} (d : decode cc pc = .ok (.fload i, 2)) (hf : At E (pc + 2) f) : At E pc (o_fload i f) := by
  intro L S h u q
  obtain ⟨p, l, e, R, s, m, args, below, meth, c, Qm, D, dA, A⟩ := E
  obtain ⟨kx, kb, kl, kown, kts, klk, kR, kW, kA, kst⟩ := hE
  unfold o_fload at q
  split at q
  · rename_i x hx
    intro H locs cells slots ls yl yR yS yc ys
    exact lv_fload kx kb d (lget_at yl hx) (hf _ _ _ _ q H locs cells slots ls yl yR yS yc ys)
  · exact q.elim
theorem r_fload_n {E : ME} {own : String} {cc : ByteArray} {nL : Nat} {rm : Room} (hE : EnvOk E own cc nL rm) {pc : Nat} {f : FT} {k : Fin 4} {i : Nat} (hi : (k : Nat) = i) (d : decode cc pc = .ok (.fload_n k, 1)) (hf : At E (pc + 1) f) : At E pc (o_fload i f) := by
  intro L S h u q
  obtain ⟨p, l, e, R, s, m, args, below, meth, c, Qm, D, dA, A⟩ := E
  obtain ⟨kx, kb, kl, kown, kts, klk, kR, kW, kA, kst⟩ := hE
  unfold o_fload at q
  split at q
  · rename_i x hx
    intro H locs cells slots ls yl yR yS yc ys
    exact lv_fload_n kx kb d hi (lget_at yl hx) (hf _ _ _ _ q H locs cells slots ls yl yR yS yc ys)
  · exact q.elim
def o_dload (i : Nat) (f : FT) : FT := fun L S h u => match lget L i with
  | some (.double x) => f L (.double x :: S) h u
  | _ => False
theorem r_dload {E : ME} {own : String} {cc : ByteArray} {nL : Nat} {rm : Room} (hE : EnvOk E own cc nL rm) {pc : Nat} {f : FT} {i : Nat} (d : decode cc pc = .ok (.dload i, 2)) (hf : At E (pc + 2) f) : At E pc (o_dload i f) := by
  intro L S h u q
  obtain ⟨p, l, e, R, s, m, args, below, meth, c, Qm, D, dA, A⟩ := E
  obtain ⟨kx, kb, kl, kown, kts, klk, kR, kW, kA, kst⟩ := hE
  unfold o_dload at q
  split at q
  · rename_i x hx
    intro H locs cells slots ls yl yR yS yc ys
    exact lv_dload kx kb d (lget_at yl hx) (hf _ _ _ _ q H locs cells slots ls yl yR yS yc ys)
  · exact q.elim
theorem r_dload_n {E : ME} {own : String} {cc : ByteArray} {nL : Nat} {rm : Room} (hE : EnvOk E own cc nL rm) {pc : Nat} {f : FT} {k : Fin 4} {i : Nat} (hi : (k : Nat) = i) (d : decode cc pc = .ok (.dload_n k, 1)) (hf : At E (pc + 1) f) : At E pc (o_dload i f) := by
  intro L S h u q
  obtain ⟨p, l, e, R, s, m, args, below, meth, c, Qm, D, dA, A⟩ := E
  obtain ⟨kx, kb, kl, kown, kts, klk, kR, kW, kA, kst⟩ := hE
  unfold o_dload at q
  split at q
  · rename_i x hx
    intro H locs cells slots ls yl yR yS yc ys
    exact lv_dload_n kx kb d hi (lget_at yl hx) (hf _ _ _ _ q H locs cells slots ls yl yR yS yc ys)
  · exact q.elim
def o_lload (i : Nat) (f : FT) : FT := fun L S h u => match lget L i with
  | some (.long x) => f L (.long x :: S) h u
  | _ => False
theorem r_lload {E : ME} {own : String} {cc : ByteArray} {nL : Nat} {rm : Room} (hE : EnvOk E own cc nL rm) {pc : Nat} {f : FT} {i : Nat} (d : decode cc pc = .ok (.lload i, 2)) (hf : At E (pc + 2) f) : At E pc (o_lload i f) := by
  intro L S h u q
  obtain ⟨p, l, e, R, s, m, args, below, meth, c, Qm, D, dA, A⟩ := E
  obtain ⟨kx, kb, kl, kown, kts, klk, kR, kW, kA, kst⟩ := hE
  unfold o_lload at q
  split at q
  · rename_i x hx
    intro H locs cells slots ls yl yR yS yc ys
    exact lv_lload kx kb d (lget_at yl hx) (hf _ _ _ _ q H locs cells slots ls yl yR yS yc ys)
  · exact q.elim
theorem r_lload_n {E : ME} {own : String} {cc : ByteArray} {nL : Nat} {rm : Room} (hE : EnvOk E own cc nL rm) {pc : Nat} {f : FT} {k : Fin 4} {i : Nat} (hi : (k : Nat) = i) (d : decode cc pc = .ok (.lload_n k, 1)) (hf : At E (pc + 1) f) : At E pc (o_lload i f) := by
  intro L S h u q
  obtain ⟨p, l, e, R, s, m, args, below, meth, c, Qm, D, dA, A⟩ := E
  obtain ⟨kx, kb, kl, kown, kts, klk, kR, kW, kA, kst⟩ := hE
  unfold o_lload at q
  split at q
  · rename_i x hx
    intro H locs cells slots ls yl yR yS yc ys
    exact lv_lload_n kx kb d hi (lget_at yl hx) (hf _ _ _ _ q H locs cells slots ls yl yR yS yc ys)
  · exact q.elim
def o_istore (i : Nat) (f : FT) : FT := fun L S h u => match S with
  | .int x :: S => f (lset1 L i (.int x)) S h u
  | _ => False
theorem r_istore {E : ME} {own : String} {cc : ByteArray} {nL : Nat} {rm : Room} (hE : EnvOk E own cc nL rm) {pc : Nat} {f : FT} {i : Nat} (d : decode cc pc = .ok (.istore i, 2)) (hn : i < nL) (hf : At E (pc + 2) f) : At E pc (o_istore i f) := by
  intro L S h u q
  obtain ⟨p, l, e, R, s, m, args, below, meth, c, Qm, D, dA, A⟩ := E
  obtain ⟨kx, kb, kl, kown, kts, klk, kR, kW, kA, kst⟩ := hE
  unfold o_istore at q
  split at q
  · rename_i x S
    intro H locs cells slots ls yl yR yS yc ys
    exact lv_istore kx kb d yl (by rw [kl]; exact hn) rfl (fun ls' yl' => hf _ _ _ _ q H locs cells slots ls' yl' yR yS yc ys)
  · exact q.elim
theorem r_istore_n {E : ME} {own : String} {cc : ByteArray} {nL : Nat} {rm : Room} (hE : EnvOk E own cc nL rm) {pc : Nat} {f : FT} {k : Fin 4} {i : Nat} (hi : (k : Nat) = i) (d : decode cc pc = .ok (.istore_n k, 1)) (hn : i < nL) (hf : At E (pc + 1) f) : At E pc (o_istore i f) := by
  intro L S h u q
  obtain ⟨p, l, e, R, s, m, args, below, meth, c, Qm, D, dA, A⟩ := E
  obtain ⟨kx, kb, kl, kown, kts, klk, kR, kW, kA, kst⟩ := hE
  unfold o_istore at q
  split at q
  · rename_i x S
    intro H locs cells slots ls yl yR yS yc ys
    exact lv_istore_n kx kb d hi yl (by rw [kl]; exact hn) rfl (fun ls' yl' => hf _ _ _ _ q H locs cells slots ls' yl' yR yS yc ys)
  · exact q.elim
def o_astore (i : Nat) (f : FT) : FT := fun L S h u => match S with
  | .ref x :: S => f (lset1 L i (.ref x)) S h u
  | _ => False
theorem r_astore {E : ME} {own : String} {cc : ByteArray} {nL : Nat} {rm : Room} (hE : EnvOk E own cc nL rm) {pc : Nat} {f : FT} {i : Nat} (d : decode cc pc = .ok (.astore i, 2)) (hn : i < nL) (hf : At E (pc + 2) f) : At E pc (o_astore i f) := by
  intro L S h u q
  obtain ⟨p, l, e, R, s, m, args, below, meth, c, Qm, D, dA, A⟩ := E
  obtain ⟨kx, kb, kl, kown, kts, klk, kR, kW, kA, kst⟩ := hE
  unfold o_astore at q
  split at q
  · rename_i x S
    intro H locs cells slots ls yl yR yS yc ys
    exact lv_astore kx kb d yl (by rw [kl]; exact hn) rfl (fun ls' yl' => hf _ _ _ _ q H locs cells slots ls' yl' yR yS yc ys)
  · exact q.elim
theorem r_astore_n {E : ME} {own : String} {cc : ByteArray} {nL : Nat} {rm : Room} (hE : EnvOk E own cc nL rm) {pc : Nat} {f : FT} {k : Fin 4} {i : Nat} (hi : (k : Nat) = i) (d : decode cc pc = .ok (.astore_n k, 1)) (hn : i < nL) (hf : At E (pc + 1) f) : At E pc (o_astore i f) := by
  intro L S h u q
  obtain ⟨p, l, e, R, s, m, args, below, meth, c, Qm, D, dA, A⟩ := E
  obtain ⟨kx, kb, kl, kown, kts, klk, kR, kW, kA, kst⟩ := hE
  unfold o_astore at q
  split at q
  · rename_i x S
    intro H locs cells slots ls yl yR yS yc ys
    exact lv_astore_n kx kb d hi yl (by rw [kl]; exact hn) rfl (fun ls' yl' => hf _ _ _ _ q H locs cells slots ls' yl' yR yS yc ys)
  · exact q.elim
def o_fstore (i : Nat) (f : FT) : FT := fun L S h u => match S with
  | .float x :: S => f (lset1 L i (.float x)) S h u
  | _ => False
theorem r_fstore {E : ME} {own : String} {cc : ByteArray} {nL : Nat} {rm : Room} (hE : EnvOk E own cc nL rm) {pc : Nat} {f : FT} {i : Nat} (d : decode cc pc = .ok (.fstore i, 2)) (hn : i < nL) (hf : At E (pc + 2) f) : At E pc (o_fstore i f) := by
  intro L S h u q
  obtain ⟨p, l, e, R, s, m, args, below, meth, c, Qm, D, dA, A⟩ := E
  obtain ⟨kx, kb, kl, kown, kts, klk, kR, kW, kA, kst⟩ := hE
  unfold o_fstore at q
  split at q
  · rename_i x S
    intro H locs cells slots ls yl yR yS yc ys
    exact lv_fstore kx kb d yl (by rw [kl]; exact hn) rfl (fun ls' yl' => hf _ _ _ _ q H locs cells slots ls' yl' yR yS yc ys)
  · exact q.elim
theorem r_fstore_n {E : ME} {own : String} {cc : ByteArray} {nL : Nat} {rm : Room} (hE : EnvOk E own cc nL rm) {pc : Nat} {f : FT} {k : Fin 4} {i : Nat} (hi : (k : Nat) = i) (d : decode cc pc = .ok (.fstore_n k, 1)) (hn : i < nL) (hf : At E (pc + 1) f) : At E pc (o_fstore i f) := by
  intro L S h u q
  obtain ⟨p, l, e, R, s, m, args, below, meth, c, Qm, D, dA, A⟩ := E
  obtain ⟨kx, kb, kl, kown, kts, klk, kR, kW, kA, kst⟩ := hE
  unfold o_fstore at q
  split at q
  · rename_i x S
    intro H locs cells slots ls yl yR yS yc ys
    exact lv_fstore_n kx kb d hi yl (by rw [kl]; exact hn) rfl (fun ls' yl' => hf _ _ _ _ q H locs cells slots ls' yl' yR yS yc ys)
  · exact q.elim
def o_dstore (i : Nat) (f : FT) : FT := fun L S h u => match S with
  | .double x :: S => f (lset2 L i (.double x)) S h u
  | _ => False
theorem r_dstore {E : ME} {own : String} {cc : ByteArray} {nL : Nat} {rm : Room} (hE : EnvOk E own cc nL rm) {pc : Nat} {f : FT} {i : Nat} (d : decode cc pc = .ok (.dstore i, 2)) (hn : i + 1 < nL) (hf : At E (pc + 2) f) : At E pc (o_dstore i f) := by
  intro L S h u q
  obtain ⟨p, l, e, R, s, m, args, below, meth, c, Qm, D, dA, A⟩ := E
  obtain ⟨kx, kb, kl, kown, kts, klk, kR, kW, kA, kst⟩ := hE
  unfold o_dstore at q
  split at q
  · rename_i x S
    intro H locs cells slots ls yl yR yS yc ys
    exact lv_dstore kx kb d yl (by rw [kl]; exact hn) rfl (fun ls' yl' => hf _ _ _ _ q H locs cells slots ls' yl' yR yS yc ys)
  · exact q.elim
theorem r_dstore_n {E : ME} {own : String} {cc : ByteArray} {nL : Nat} {rm : Room} (hE : EnvOk E own cc nL rm) {pc : Nat} {f : FT} {k : Fin 4} {i : Nat} (hi : (k : Nat) = i) (d : decode cc pc = .ok (.dstore_n k, 1)) (hn : i + 1 < nL) (hf : At E (pc + 1) f) : At E pc (o_dstore i f) := by
  intro L S h u q
  obtain ⟨p, l, e, R, s, m, args, below, meth, c, Qm, D, dA, A⟩ := E
  obtain ⟨kx, kb, kl, kown, kts, klk, kR, kW, kA, kst⟩ := hE
  unfold o_dstore at q
  split at q
  · rename_i x S
    intro H locs cells slots ls yl yR yS yc ys
    exact lv_dstore_n kx kb d hi yl (by rw [kl]; exact hn) rfl (fun ls' yl' => hf _ _ _ _ q H locs cells slots ls' yl' yR yS yc ys)
  · exact q.elim
def o_lstore (i : Nat) (f : FT) : FT := fun L S h u => match S with
  | .long x :: S => f (lset2 L i (.long x)) S h u
  | _ => False
theorem r_lstore {E : ME} {own : String} {cc : ByteArray} {nL : Nat} {rm : Room} (hE : EnvOk E own cc nL rm) {pc : Nat} {f : FT} {i : Nat} (d : decode cc pc = .ok (.lstore i, 2)) (hn : i + 1 < nL) (hf : At E (pc + 2) f) : At E pc (o_lstore i f) := by
  intro L S h u q
  obtain ⟨p, l, e, R, s, m, args, below, meth, c, Qm, D, dA, A⟩ := E
  obtain ⟨kx, kb, kl, kown, kts, klk, kR, kW, kA, kst⟩ := hE
  unfold o_lstore at q
  split at q
  · rename_i x S
    intro H locs cells slots ls yl yR yS yc ys
    exact lv_lstore kx kb d yl (by rw [kl]; exact hn) rfl (fun ls' yl' => hf _ _ _ _ q H locs cells slots ls' yl' yR yS yc ys)
  · exact q.elim
theorem r_lstore_n {E : ME} {own : String} {cc : ByteArray} {nL : Nat} {rm : Room} (hE : EnvOk E own cc nL rm) {pc : Nat} {f : FT} {k : Fin 4} {i : Nat} (hi : (k : Nat) = i) (d : decode cc pc = .ok (.lstore_n k, 1)) (hn : i + 1 < nL) (hf : At E (pc + 1) f) : At E pc (o_lstore i f) := by
  intro L S h u q
  obtain ⟨p, l, e, R, s, m, args, below, meth, c, Qm, D, dA, A⟩ := E
  obtain ⟨kx, kb, kl, kown, kts, klk, kR, kW, kA, kst⟩ := hE
  unfold o_lstore at q
  split at q
  · rename_i x S
    intro H locs cells slots ls yl yR yS yc ys
    exact lv_lstore_n kx kb d hi yl (by rw [kl]; exact hn) rfl (fun ls' yl' => hf _ _ _ _ q H locs cells slots ls' yl' yR yS yc ys)
  · exact q.elim
def o_push (v : Value) (f : FT) : FT := fun L S h u => f L (v :: S) h u
theorem r_iconst {E : ME} {own : String} {cc : ByteArray} {nL : Nat} {rm : Room} (hE : EnvOk E own cc nL rm) {pc : Nat} {f : FT} {n : Int} {v : Int32} (d : decode cc pc = .ok (.iconst n, 1)) (hv : Int32.ofInt n = v) (hf : At E (pc + 1) f) : At E pc (o_push (.int v) f) := by
  intro L S h u q
  obtain ⟨p, l, e, R, s, m, args, below, meth, c, Qm, D, dA, A⟩ := E
  obtain ⟨kx, kb, kl, kown, kts, klk, kR, kW, kA, kst⟩ := hE
  intro H locs cells slots ls yl yR yS yc ys
  exact lv_iconst kx kb d hv (hf _ _ _ _ q H locs cells slots ls yl yR yS yc ys)
theorem r_bipush {E : ME} {own : String} {cc : ByteArray} {nL : Nat} {rm : Room} (hE : EnvOk E own cc nL rm) {pc : Nat} {f : FT} {n : Int} {v : Int32} (d : decode cc pc = .ok (.bipush n, 2)) (hv : (Int8.ofInt n).toInt32 = v) (hf : At E (pc + 2) f) : At E pc (o_push (.int v) f) := by
  intro L S h u q
  obtain ⟨p, l, e, R, s, m, args, below, meth, c, Qm, D, dA, A⟩ := E
  obtain ⟨kx, kb, kl, kown, kts, klk, kR, kW, kA, kst⟩ := hE
  intro H locs cells slots ls yl yR yS yc ys
  exact lv_bipush kx kb d hv (hf _ _ _ _ q H locs cells slots ls yl yR yS yc ys)
theorem r_sipush {E : ME} {own : String} {cc : ByteArray} {nL : Nat} {rm : Room} (hE : EnvOk E own cc nL rm) {pc : Nat} {f : FT} {n : Int} {v : Int32} (d : decode cc pc = .ok (.sipush n, 3)) (hv : (Int16.ofInt n).toInt32 = v) (hf : At E (pc + 3) f) : At E pc (o_push (.int v) f) := by
  intro L S h u q
  obtain ⟨p, l, e, R, s, m, args, below, meth, c, Qm, D, dA, A⟩ := E
  obtain ⟨kx, kb, kl, kown, kts, klk, kR, kW, kA, kst⟩ := hE
  intro H locs cells slots ls yl yR yS yc ys
  exact lv_sipush kx kb d hv (hf _ _ _ _ q H locs cells slots ls yl yR yS yc ys)
theorem r_lconst {E : ME} {own : String} {cc : ByteArray} {nL : Nat} {rm : Room} (hE : EnvOk E own cc nL rm) {pc : Nat} {f : FT} {n : Fin 2} {v : Int64} (d : decode cc pc = .ok (.lconst n, 1)) (hv : Int64.ofNat (n : Nat) = v) (hf : At E (pc + 1) f) : At E pc (o_push (.long v) f) := by
  intro L S h u q
  obtain ⟨p, l, e, R, s, m, args, below, meth, c, Qm, D, dA, A⟩ := E
  obtain ⟨kx, kb, kl, kown, kts, klk, kR, kW, kA, kst⟩ := hE
  intro H locs cells slots ls yl yR yS yc ys
  exact lv_lconst kx kb d hv (hf _ _ _ _ q H locs cells slots ls yl yR yS yc ys)
theorem r_ldc {E : ME} {own : String} {cc : ByteArray} {nL : Nat} {rm : Room} (hE : EnvOk E own cc nL rm) {pc : Nat} {f : FT} {i : Nat} {v : Int32} (d : decode cc pc = .ok (.ldc i, 2)) (hw : Cond.constant own i v ∈ TB) (hf : At E (pc + 2) f) : At E pc (o_push (.int v) f) := by
  intro L S h u q
  obtain ⟨p, l, e, R, s, m, args, below, meth, c, Qm, D, dA, A⟩ := E
  obtain ⟨kx, kb, kl, kown, kts, klk, kR, kW, kA, kst⟩ := hE
  intro H locs cells slots ls yl yR yS yc ys
  exact lv_ldc kx kb kown (kts _ hw) d (hf _ _ _ _ q H locs cells slots ls yl yR yS yc ys)
theorem r_ldcf {E : ME} {own : String} {cc : ByteArray} {nL : Nat} {rm : Room} (hE : EnvOk E own cc nL rm) {pc : Nat} {f : FT} {i : Nat} {v : UInt32} (d : decode cc pc = .ok (.ldc i, 2)) (hw : Cond.constantFloat own i v ∈ TB) (hf : At E (pc + 2) f) : At E pc (o_push (.float v) f) := by
  intro L S h u q
  obtain ⟨p, l, e, R, s, m, args, below, meth, c, Qm, D, dA, A⟩ := E
  obtain ⟨kx, kb, kl, kown, kts, klk, kR, kW, kA, kst⟩ := hE
  intro H locs cells slots ls yl yR yS yc ys
  exact lv_ldcf kx kb kown (kts _ hw) d (hf _ _ _ _ q H locs cells slots ls yl yR yS yc ys)
theorem r_ldc2 {E : ME} {own : String} {cc : ByteArray} {nL : Nat} {rm : Room} (hE : EnvOk E own cc nL rm) {pc : Nat} {f : FT} {i : Nat} {v : Int64} (d : decode cc pc = .ok (.ldc2_w i, 3)) (hw : Cond.constantLong own i v ∈ TB) (hf : At E (pc + 3) f) : At E pc (o_push (.long v) f) := by
  intro L S h u q
  obtain ⟨p, l, e, R, s, m, args, below, meth, c, Qm, D, dA, A⟩ := E
  obtain ⟨kx, kb, kl, kown, kts, klk, kR, kW, kA, kst⟩ := hE
  intro H locs cells slots ls yl yR yS yc ys
  exact lv_ldc2 kx kb kown (kts _ hw) d (hf _ _ _ _ q H locs cells slots ls yl yR yS yc ys)
theorem r_ldc2d {E : ME} {own : String} {cc : ByteArray} {nL : Nat} {rm : Room} (hE : EnvOk E own cc nL rm) {pc : Nat} {f : FT} {i : Nat} {v : UInt64} (d : decode cc pc = .ok (.ldc2_w i, 3)) (hw : Cond.constantDouble own i v ∈ TB) (hf : At E (pc + 3) f) : At E pc (o_push (.double v) f) := by
  intro L S h u q
  obtain ⟨p, l, e, R, s, m, args, below, meth, c, Qm, D, dA, A⟩ := E
  obtain ⟨kx, kb, kl, kown, kts, klk, kR, kW, kA, kst⟩ := hE
  intro H locs cells slots ls yl yR yS yc ys
  exact lv_ldc2d kx kb kown (kts _ hw) d (hf _ _ _ _ q H locs cells slots ls yl yR yS yc ys)
theorem r_ldcw {E : ME} {own : String} {cc : ByteArray} {nL : Nat} {rm : Room} (hE : EnvOk E own cc nL rm) {pc : Nat} {f : FT} {i : Nat} {v : Int32} (d : decode cc pc = .ok (.ldc_w i, 3)) (hw : Cond.constant own i v ∈ TB) (hf : At E (pc + 3) f) : At E pc (o_push (.int v) f) := by
  intro L S h u q
  obtain ⟨p, l, e, R, s, m, args, below, meth, c, Qm, D, dA, A⟩ := E
  obtain ⟨kx, kb, kl, kown, kts, klk, kR, kW, kA, kst⟩ := hE
  intro H locs cells slots ls yl yR yS yc ys
  exact lv_ldcw kx kb kown (kts _ hw) d (hf _ _ _ _ q H locs cells slots ls yl yR yS yc ys)
def o_iinc (i : Nat) (n : Int32) (f : FT) : FT := fun L S h u => match lget L i with
  | some (.int x) => f (lset1 L i (.int (x + n))) S h u
  | _ => False
theorem r_iinc {E : ME} {own : String} {cc : ByteArray} {nL : Nat} {rm : Room} (hE : EnvOk E own cc nL rm) {pc : Nat} {f : FT} {i : Nat} {n : Int} {v : Int32} (d : decode cc pc = .ok (.iinc i n, 3)) (hv : Int32.ofInt n = v) (hn : i < nL) (hf : At E (pc + 3) f) : At E pc (o_iinc i v f) := by
  intro L S h u q
  obtain ⟨p, l, e, R, s, m, args, below, meth, c, Qm, D, dA, A⟩ := E
  obtain ⟨kx, kb, kl, kown, kts, klk, kR, kW, kA, kst⟩ := hE
  unfold o_iinc at q
  split at q
  · rename_i x hx
    intro H locs cells slots ls yl yR yS yc ys
    have hx2 : ∃ k : Nat, L[k]? = some (i, .int x) := by
      unfold lget at hx
      cases hq : L.find? (fun q => q.1 == i) with
      | none => rw [hq] at hx; cases hx
      | some z =>
        rw [hq] at hx
        have e2 : z.2 = .int x := Option.some.inj hx
        have h1 := List.find?_some hq
        have h4 : z.1 = i := by simpa using h1
        obtain ⟨k, hk⟩ := List.getElem?_of_mem (List.mem_of_find?_eq_some hq)
        exact ⟨k, by rw [hk, ← h4, ← e2]⟩
    obtain ⟨k, hk⟩ := hx2
    exact lv_iinc kx kb d yl hk (by rw [hv]) (by rw [kl]; exact hn) rfl (fun ls' yl' => hf _ _ _ _ q H locs cells slots ls' yl' yR yS yc ys)
  · exact q.elim
def o_iadd (f : FT) : FT := fun L S h u => match S with
  | .int y :: .int x :: S => f L (.int (x + y) :: S) h u
  | _ => False
theorem r_iadd {E : ME} {own : String} {cc : ByteArray} {nL : Nat} {rm : Room} (hE : EnvOk E own cc nL rm) {pc : Nat} {f : FT} (d : decode cc pc = .ok (.iadd, 1)) (hf : At E (pc + 1) f) : At E pc (o_iadd f) := by
  intro L S h u q
  obtain ⟨p, l, e, R, s, m, args, below, meth, c, Qm, D, dA, A⟩ := E
  obtain ⟨kx, kb, kl, kown, kts, klk, kR, kW, kA, kst⟩ := hE
  unfold o_iadd at q
  split at q
  · rename_i y x S
    intro H locs cells slots ls yl yR yS yc ys
    exact lv_iadd kx kb d (hf _ _ _ _ q H locs cells slots ls yl yR yS yc ys)
  · exact q.elim
def o_isub (f : FT) : FT := fun L S h u => match S with
  | .int y :: .int x :: S => f L (.int (x - y) :: S) h u
  | _ => False
theorem r_isub {E : ME} {own : String} {cc : ByteArray} {nL : Nat} {rm : Room} (hE : EnvOk E own cc nL rm) {pc : Nat} {f : FT} (d : decode cc pc = .ok (.isub, 1)) (hf : At E (pc + 1) f) : At E pc (o_isub f) := by
  intro L S h u q
  obtain ⟨p, l, e, R, s, m, args, below, meth, c, Qm, D, dA, A⟩ := E
  obtain ⟨kx, kb, kl, kown, kts, klk, kR, kW, kA, kst⟩ := hE
  unfold o_isub at q
  split at q
  · rename_i y x S
    intro H locs cells slots ls yl yR yS yc ys
    exact lv_isub kx kb d (hf _ _ _ _ q H locs cells slots ls yl yR yS yc ys)
  · exact q.elim
def o_imul (f : FT) : FT := fun L S h u => match S with
  | .int y :: .int x :: S => f L (.int (x * y) :: S) h u
  | _ => False
theorem r_imul {E : ME} {own : String} {cc : ByteArray} {nL : Nat} {rm : Room} (hE : EnvOk E own cc nL rm) {pc : Nat} {f : FT} (d : decode cc pc = .ok (.imul, 1)) (hf : At E (pc + 1) f) : At E pc (o_imul f) := by
  intro L S h u q
  obtain ⟨p, l, e, R, s, m, args, below, meth, c, Qm, D, dA, A⟩ := E
  obtain ⟨kx, kb, kl, kown, kts, klk, kR, kW, kA, kst⟩ := hE
  unfold o_imul at q
  split at q
  · rename_i y x S
    intro H locs cells slots ls yl yR yS yc ys
    exact lv_imul kx kb d (hf _ _ _ _ q H locs cells slots ls yl yR yS yc ys)
  · exact q.elim
def o_iand (f : FT) : FT := fun L S h u => match S with
  | .int y :: .int x :: S => f L (.int (x &&& y) :: S) h u
  | _ => False
theorem r_iand {E : ME} {own : String} {cc : ByteArray} {nL : Nat} {rm : Room} (hE : EnvOk E own cc nL rm) {pc : Nat} {f : FT} (d : decode cc pc = .ok (.iand, 1)) (hf : At E (pc + 1) f) : At E pc (o_iand f) := by
  intro L S h u q
  obtain ⟨p, l, e, R, s, m, args, below, meth, c, Qm, D, dA, A⟩ := E
  obtain ⟨kx, kb, kl, kown, kts, klk, kR, kW, kA, kst⟩ := hE
  unfold o_iand at q
  split at q
  · rename_i y x S
    intro H locs cells slots ls yl yR yS yc ys
    exact lv_iand kx kb d (hf _ _ _ _ q H locs cells slots ls yl yR yS yc ys)
  · exact q.elim
def o_ior (f : FT) : FT := fun L S h u => match S with
  | .int y :: .int x :: S => f L (.int (x ||| y) :: S) h u
  | _ => False
theorem r_ior {E : ME} {own : String} {cc : ByteArray} {nL : Nat} {rm : Room} (hE : EnvOk E own cc nL rm) {pc : Nat} {f : FT} (d : decode cc pc = .ok (.ior, 1)) (hf : At E (pc + 1) f) : At E pc (o_ior f) := by
  intro L S h u q
  obtain ⟨p, l, e, R, s, m, args, below, meth, c, Qm, D, dA, A⟩ := E
  obtain ⟨kx, kb, kl, kown, kts, klk, kR, kW, kA, kst⟩ := hE
  unfold o_ior at q
  split at q
  · rename_i y x S
    intro H locs cells slots ls yl yR yS yc ys
    exact lv_ior kx kb d (hf _ _ _ _ q H locs cells slots ls yl yR yS yc ys)
  · exact q.elim
def o_idiv (f : FT) : FT := fun L S h u => match S with
  | .int y :: .int x :: S => ¬ y = 0 ∧ f L (.int (x / y) :: S) h u
  | _ => False
theorem r_idiv {E : ME} {own : String} {cc : ByteArray} {nL : Nat} {rm : Room} (hE : EnvOk E own cc nL rm) {pc : Nat} {f : FT} (d : decode cc pc = .ok (.idiv, 1)) (hf : At E (pc + 1) f) : At E pc (o_idiv f) := by
  intro L S h u q
  obtain ⟨p, l, e, R, s, m, args, below, meth, c, Qm, D, dA, A⟩ := E
  obtain ⟨kx, kb, kl, kown, kts, klk, kR, kW, kA, kst⟩ := hE
  unfold o_idiv at q
  split at q
  · rename_i y x S
    intro H locs cells slots ls yl yR yS yc ys
    exact lv_idiv kx kb d q.1 (hf _ _ _ _ q.2 H locs cells slots ls yl yR yS yc ys)
  · exact q.elim
def o_irem (f : FT) : FT := fun L S h u => match S with
  | .int y :: .int x :: S => ¬ y = 0 ∧ f L (.int (x - x / y * y) :: S) h u
  | _ => False
theorem r_irem {E : ME} {own : String} {cc : ByteArray} {nL : Nat} {rm : Room} (hE : EnvOk E own cc nL rm) {pc : Nat} {f : FT} (d : decode cc pc = .ok (.irem, 1)) (hf : At E (pc + 1) f) : At E pc (o_irem f) := by
  intro L S h u q
  obtain ⟨p, l, e, R, s, m, args, below, meth, c, Qm, D, dA, A⟩ := E
  obtain ⟨kx, kb, kl, kown, kts, klk, kR, kW, kA, kst⟩ := hE
  unfold o_irem at q
  split at q
  · rename_i y x S
    intro H locs cells slots ls yl yR yS yc ys
    exact lv_irem kx kb d q.1 (hf _ _ _ _ q.2 H locs cells slots ls yl yR yS yc ys)
  · exact q.elim
def o_ishl (f : FT) : FT := fun L S h u => match S with
  | .int y :: .int x :: S => f L (.int (x <<< (y &&& 31)) :: S) h u
  | _ => False
theorem r_ishl {E : ME} {own : String} {cc : ByteArray} {nL : Nat} {rm : Room} (hE : EnvOk E own cc nL rm) {pc : Nat} {f : FT} (d : decode cc pc = .ok (.ishl, 1)) (hf : At E (pc + 1) f) : At E pc (o_ishl f) := by
  intro L S h u q
  obtain ⟨p, l, e, R, s, m, args, below, meth, c, Qm, D, dA, A⟩ := E
  obtain ⟨kx, kb, kl, kown, kts, klk, kR, kW, kA, kst⟩ := hE
  unfold o_ishl at q
  split at q
  · rename_i y x S
    intro H locs cells slots ls yl yR yS yc ys
    exact lv_ishl kx kb d (hf _ _ _ _ q H locs cells slots ls yl yR yS yc ys)
  · exact q.elim
def o_lsub (f : FT) : FT := fun L S h u => match S with
  | .long y :: .long x :: S => f L (.long (x - y) :: S) h u
  | _ => False
theorem r_lsub {E : ME} {own : String} {cc : ByteArray} {nL : Nat} {rm : Room} (hE : EnvOk E own cc nL rm) {pc : Nat} {f : FT} (d : decode cc pc = .ok (.lsub, 1)) (hf : At E (pc + 1) f) : At E pc (o_lsub f) := by
  intro L S h u q
  obtain ⟨p, l, e, R, s, m, args, below, meth, c, Qm, D, dA, A⟩ := E
  obtain ⟨kx, kb, kl, kown, kts, klk, kR, kW, kA, kst⟩ := hE
  unfold o_lsub at q
  split at q
  · rename_i y x S
    intro H locs cells slots ls yl yR yS yc ys
    exact lv_lsub kx kb d (hf _ _ _ _ q H locs cells slots ls yl yR yS yc ys)
  · exact q.elim
def o_lor (f : FT) : FT := fun L S h u => match S with
  | .long y :: .long x :: S => f L (.long (x ||| y) :: S) h u
  | _ => False
theorem r_lor {E : ME} {own : String} {cc : ByteArray} {nL : Nat} {rm : Room} (hE : EnvOk E own cc nL rm) {pc : Nat} {f : FT} (d : decode cc pc = .ok (.lor, 1)) (hf : At E (pc + 1) f) : At E pc (o_lor f) := by
  intro L S h u q
  obtain ⟨p, l, e, R, s, m, args, below, meth, c, Qm, D, dA, A⟩ := E
  obtain ⟨kx, kb, kl, kown, kts, klk, kR, kW, kA, kst⟩ := hE
  unfold o_lor at q
  split at q
  · rename_i y x S
    intro H locs cells slots ls yl yR yS yc ys
    exact lv_lor kx kb d (hf _ _ _ _ q H locs cells slots ls yl yR yS yc ys)
  · exact q.elim
def o_lshl (f : FT) : FT := fun L S h u => match S with
  | .int y :: .long x :: S => f L (.long (x <<< (y.toInt64 &&& 63)) :: S) h u
  | _ => False
theorem r_lshl {E : ME} {own : String} {cc : ByteArray} {nL : Nat} {rm : Room} (hE : EnvOk E own cc nL rm) {pc : Nat} {f : FT} (d : decode cc pc = .ok (.lshl, 1)) (hf : At E (pc + 1) f) : At E pc (o_lshl f) := by
  intro L S h u q
  obtain ⟨p, l, e, R, s, m, args, below, meth, c, Qm, D, dA, A⟩ := E
  obtain ⟨kx, kb, kl, kown, kts, klk, kR, kW, kA, kst⟩ := hE
  unfold o_lshl at q
  split at q
  · rename_i y x S
    intro H locs cells slots ls yl yR yS yc ys
    exact lv_lshl kx kb d rfl (hf _ _ _ _ q H locs cells slots ls yl yR yS yc ys)
  · exact q.elim
def o_fdiv (f : FT) : FT := fun L S h u => match S with
  | .float y :: .float x :: S => vf_n32 (FP.fdiv x y) ∧ f L (.float (FP.fdiv x y) :: S) h u
  | _ => False
theorem r_fdiv {E : ME} {own : String} {cc : ByteArray} {nL : Nat} {rm : Room} (hE : EnvOk E own cc nL rm) {pc : Nat} {f : FT} (d : decode cc pc = .ok (.fdiv, 1)) (hf : At E (pc + 1) f) : At E pc (o_fdiv f) := by
  intro L S h u q
  obtain ⟨p, l, e, R, s, m, args, below, meth, c, Qm, D, dA, A⟩ := E
  obtain ⟨kx, kb, kl, kown, kts, klk, kR, kW, kA, kst⟩ := hE
  unfold o_fdiv at q
  split at q
  · rename_i y x S
    intro H locs cells slots ls yl yR yS yc ys
    exact lv_fdiv kx kb d q.1 (hf _ _ _ _ q.2 H locs cells slots ls yl yR yS yc ys)
  · exact q.elim
def o_fmul (f : FT) : FT := fun L S h u => match S with
  | .float y :: .float x :: S => vf_n32 (FP.fmul x y) ∧ f L (.float (FP.fmul x y) :: S) h u
  | _ => False
theorem r_fmul {E : ME} {own : String} {cc : ByteArray} {nL : Nat} {rm : Room} (hE : EnvOk E own cc nL rm) {pc : Nat} {f : FT} (d : decode cc pc = .ok (.fmul, 1)) (hf : At E (pc + 1) f) : At E pc (o_fmul f) := by
  intro L S h u q
  obtain ⟨p, l, e, R, s, m, args, below, meth, c, Qm, D, dA, A⟩ := E
  obtain ⟨kx, kb, kl, kown, kts, klk, kR, kW, kA, kst⟩ := hE
  unfold o_fmul at q
  split at q
  · rename_i y x S
    intro H locs cells slots ls yl yR yS yc ys
    exact lv_fmul kx kb d q.1 (hf _ _ _ _ q.2 H locs cells slots ls yl yR yS yc ys)
  · exact q.elim
def o_fsub (f : FT) : FT := fun L S h u => match S with
  | .float y :: .float x :: S => vf_n32 (FP.fsub x y) ∧ f L (.float (FP.fsub x y) :: S) h u
  | _ => False
theorem r_fsub {E : ME} {own : String} {cc : ByteArray} {nL : Nat} {rm : Room} (hE : EnvOk E own cc nL rm) {pc : Nat} {f : FT} (d : decode cc pc = .ok (.fsub, 1)) (hf : At E (pc + 1) f) : At E pc (o_fsub f) := by
  intro L S h u q
  obtain ⟨p, l, e, R, s, m, args, below, meth, c, Qm, D, dA, A⟩ := E
  obtain ⟨kx, kb, kl, kown, kts, klk, kR, kW, kA, kst⟩ := hE
  unfold o_fsub at q
  split at q
  · rename_i y x S
    intro H locs cells slots ls yl yR yS yc ys
    exact lv_fsub kx kb d q.1 (hf _ _ _ _ q.2 H locs cells slots ls yl yR yS yc ys)
  · exact q.elim
def o_ddiv (f : FT) : FT := fun L S h u => match S with
  | .double y :: .double x :: S => vf_n64 (FP.ddiv x y) ∧ f L (.double (FP.ddiv x y) :: S) h u
  | _ => False
theorem r_ddiv {E : ME} {own : String} {cc : ByteArray} {nL : Nat} {rm : Room} (hE : EnvOk E own cc nL rm) {pc : Nat} {f : FT} (d : decode cc pc = .ok (.ddiv, 1)) (hf : At E (pc + 1) f) : At E pc (o_ddiv f) := by
  intro L S h u q
  obtain ⟨p, l, e, R, s, m, args, below, meth, c, Qm, D, dA, A⟩ := E
  obtain ⟨kx, kb, kl, kown, kts, klk, kR, kW, kA, kst⟩ := hE
  unfold o_ddiv at q
  split at q
  · rename_i y x S
    intro H locs cells slots ls yl yR yS yc ys
    exact lv_ddiv kx kb d q.1 (hf _ _ _ _ q.2 H locs cells slots ls yl yR yS yc ys)
  · exact q.elim
def o_dmul (f : FT) : FT := fun L S h u => match S with
  | .double y :: .double x :: S => vf_n64 (FP.dmul x y) ∧ f L (.double (FP.dmul x y) :: S) h u
  | _ => False
theorem r_dmul {E : ME} {own : String} {cc : ByteArray} {nL : Nat} {rm : Room} (hE : EnvOk E own cc nL rm) {pc : Nat} {f : FT} (d : decode cc pc = .ok (.dmul, 1)) (hf : At E (pc + 1) f) : At E pc (o_dmul f) := by
  intro L S h u q
  obtain ⟨p, l, e, R, s, m, args, below, meth, c, Qm, D, dA, A⟩ := E
  obtain ⟨kx, kb, kl, kown, kts, klk, kR, kW, kA, kst⟩ := hE
  unfold o_dmul at q
  split at q
  · rename_i y x S
    intro H locs cells slots ls yl yR yS yc ys
    exact lv_dmul kx kb d q.1 (hf _ _ _ _ q.2 H locs cells slots ls yl yR yS yc ys)
  · exact q.elim
def o_dsub (f : FT) : FT := fun L S h u => match S with
  | .double y :: .double x :: S => vf_n64 (FP.dsub x y) ∧ f L (.double (FP.dsub x y) :: S) h u
  | _ => False
theorem r_dsub {E : ME} {own : String} {cc : ByteArray} {nL : Nat} {rm : Room} (hE : EnvOk E own cc nL rm) {pc : Nat} {f : FT} (d : decode cc pc = .ok (.dsub, 1)) (hf : At E (pc + 1) f) : At E pc (o_dsub f) := by
  intro L S h u q
  obtain ⟨p, l, e, R, s, m, args, below, meth, c, Qm, D, dA, A⟩ := E
  obtain ⟨kx, kb, kl, kown, kts, klk, kR, kW, kA, kst⟩ := hE
  unfold o_dsub at q
  split at q
  · rename_i y x S
    intro H locs cells slots ls yl yR yS yc ys
    exact lv_dsub kx kb d q.1 (hf _ _ _ _ q.2 H locs cells slots ls yl yR yS yc ys)
  · exact q.elim
def o_dadd (f : FT) : FT := fun L S h u => match S with
  | .double y :: .double x :: S => vf_n64 (FP.dadd x y) ∧ f L (.double (FP.dadd x y) :: S) h u
  | _ => False
theorem r_dadd {E : ME} {own : String} {cc : ByteArray} {nL : Nat} {rm : Room} (hE : EnvOk E own cc nL rm) {pc : Nat} {f : FT} (d : decode cc pc = .ok (.dadd, 1)) (hf : At E (pc + 1) f) : At E pc (o_dadd f) := by
  intro L S h u q
  obtain ⟨p, l, e, R, s, m, args, below, meth, c, Qm, D, dA, A⟩ := E
  obtain ⟨kx, kb, kl, kown, kts, klk, kR, kW, kA, kst⟩ := hE
  unfold o_dadd at q
  split at q
  · rename_i y x S
    intro H locs cells slots ls yl yR yS yc ys
    exact lv_dadd kx kb d q.1 (hf _ _ _ _ q.2 H locs cells slots ls yl yR yS yc ys)
  · exact q.elim
def o_ineg (f : FT) : FT := fun L S h u => match S with
  | .int x :: S => f L (.int (-x) :: S) h u
  | _ => False
theorem r_ineg {E : ME} {own : String} {cc : ByteArray} {nL : Nat} {rm : Room} (hE : EnvOk E own cc nL rm) {pc : Nat} {f : FT} (d : decode cc pc = .ok (.ineg, 1)) (hf : At E (pc + 1) f) : At E pc (o_ineg f) := by
  intro L S h u q
  obtain ⟨p, l, e, R, s, m, args, below, meth, c, Qm, D, dA, A⟩ := E
  obtain ⟨kx, kb, kl, kown, kts, klk, kR, kW, kA, kst⟩ := hE
  unfold o_ineg at q
  split at q
  · rename_i x S
    intro H locs cells slots ls yl yR yS yc ys
    exact lv_ineg kx kb d (hf _ _ _ _ q H locs cells slots ls yl yR yS yc ys)
  · exact q.elim
def o_i2l (f : FT) : FT := fun L S h u => match S with
  | .int x :: S => f L (.long (x.toInt64) :: S) h u
  | _ => False
theorem r_i2l {E : ME} {own : String} {cc : ByteArray} {nL : Nat} {rm : Room} (hE : EnvOk E own cc nL rm) {pc : Nat} {f : FT} (d : decode cc pc = .ok (.i2l, 1)) (hf : At E (pc + 1) f) : At E pc (o_i2l f) := by
  intro L S h u q
  obtain ⟨p, l, e, R, s, m, args, below, meth, c, Qm, D, dA, A⟩ := E
  obtain ⟨kx, kb, kl, kown, kts, klk, kR, kW, kA, kst⟩ := hE
  unfold o_i2l at q
  split at q
  · rename_i x S
    intro H locs cells slots ls yl yR yS yc ys
    exact lv_i2l kx kb d rfl (hf _ _ _ _ q H locs cells slots ls yl yR yS yc ys)
  · exact q.elim
def o_i2c (f : FT) : FT := fun L S h u => match S with
  | .int x :: S => f L (.int ((x.toUInt32 % 65536).toInt32) :: S) h u
  | _ => False
theorem r_i2c {E : ME} {own : String} {cc : ByteArray} {nL : Nat} {rm : Room} (hE : EnvOk E own cc nL rm) {pc : Nat} {f : FT} (d : decode cc pc = .ok (.i2c, 1)) (hf : At E (pc + 1) f) : At E pc (o_i2c f) := by
  intro L S h u q
  obtain ⟨p, l, e, R, s, m, args, below, meth, c, Qm, D, dA, A⟩ := E
  obtain ⟨kx, kb, kl, kown, kts, klk, kR, kW, kA, kst⟩ := hE
  unfold o_i2c at q
  split at q
  · rename_i x S
    intro H locs cells slots ls yl yR yS yc ys
    exact lv_i2c kx kb d rfl (hf _ _ _ _ q H locs cells slots ls yl yR yS yc ys)
  · exact q.elim
def o_i2f (f : FT) : FT := fun L S h u => match S with
  | .int x :: S => f L (.float (FP.i2f x) :: S) h u
  | _ => False
theorem r_i2f {E : ME} {own : String} {cc : ByteArray} {nL : Nat} {rm : Room} (hE : EnvOk E own cc nL rm) {pc : Nat} {f : FT} (d : decode cc pc = .ok (.i2f, 1)) (hf : At E (pc + 1) f) : At E pc (o_i2f f) := by
  intro L S h u q
  obtain ⟨p, l, e, R, s, m, args, below, meth, c, Qm, D, dA, A⟩ := E
  obtain ⟨kx, kb, kl, kown, kts, klk, kR, kW, kA, kst⟩ := hE
  unfold o_i2f at q
  split at q
  · rename_i x S
    intro H locs cells slots ls yl yR yS yc ys
    exact lv_i2f kx kb d (hf _ _ _ _ q H locs cells slots ls yl yR yS yc ys)
  · exact q.elim
def o_i2d (f : FT) : FT := fun L S h u => match S with
  | .int x :: S => f L (.double (FP.i2d x) :: S) h u
  | _ => False
theorem r_i2d {E : ME} {own : String} {cc : ByteArray} {nL : Nat} {rm : Room} (hE : EnvOk E own cc nL rm) {pc : Nat} {f : FT} (d : decode cc pc = .ok (.i2d, 1)) (hf : At E (pc + 1) f) : At E pc (o_i2d f) := by
  intro L S h u q
  obtain ⟨p, l, e, R, s, m, args, below, meth, c, Qm, D, dA, A⟩ := E
  obtain ⟨kx, kb, kl, kown, kts, klk, kR, kW, kA, kst⟩ := hE
  unfold o_i2d at q
  split at q
  · rename_i x S
    intro H locs cells slots ls yl yR yS yc ys
    exact lv_i2d kx kb d (hf _ _ _ _ q H locs cells slots ls yl yR yS yc ys)
  · exact q.elim
def o_f2i (f : FT) : FT := fun L S h u => match S with
  | .float x :: S => f L (.int (FP.f2i x) :: S) h u
  | _ => False
theorem r_f2i {E : ME} {own : String} {cc : ByteArray} {nL : Nat} {rm : Room} (hE : EnvOk E own cc nL rm) {pc : Nat} {f : FT} (d : decode cc pc = .ok (.f2i, 1)) (hf : At E (pc + 1) f) : At E pc (o_f2i f) := by
  intro L S h u q
  obtain ⟨p, l, e, R, s, m, args, below, meth, c, Qm, D, dA, A⟩ := E
  obtain ⟨kx, kb, kl, kown, kts, klk, kR, kW, kA, kst⟩ := hE
  unfold o_f2i at q
  split at q
  · rename_i x S
    intro H locs cells slots ls yl yR yS yc ys
    exact lv_f2i kx kb d (hf _ _ _ _ q H locs cells slots ls yl yR yS yc ys)
  · exact q.elim
def o_d2l (f : FT) : FT := fun L S h u => match S with
  | .double x :: S => f L (.long (FP.d2l x) :: S) h u
  | _ => False
theorem r_d2l {E : ME} {own : String} {cc : ByteArray} {nL : Nat} {rm : Room} (hE : EnvOk E own cc nL rm) {pc : Nat} {f : FT} (d : decode cc pc = .ok (.d2l, 1)) (hf : At E (pc + 1) f) : At E pc (o_d2l f) := by
  intro L S h u q
  obtain ⟨p, l, e, R, s, m, args, below, meth, c, Qm, D, dA, A⟩ := E
  obtain ⟨kx, kb, kl, kown, kts, klk, kR, kW, kA, kst⟩ := hE
  unfold o_d2l at q
  split at q
  · rename_i x S
    intro H locs cells slots ls yl yR yS yc ys
    exact lv_d2l kx kb d (hf _ _ _ _ q H locs cells slots ls yl yR yS yc ys)
  · exact q.elim
def o_f2d (f : FT) : FT := fun L S h u => match S with
  | .float x :: S => vf_n64 (FP.f2d x) ∧ f L (.double (FP.f2d x) :: S) h u
  | _ => False
theorem r_f2d {E : ME} {own : String} {cc : ByteArray} {nL : Nat} {rm : Room} (hE : EnvOk E own cc nL rm) {pc : Nat} {f : FT} (d : decode cc pc = .ok (.f2d, 1)) (hf : At E (pc + 1) f) : At E pc (o_f2d f) := by
  intro L S h u q
  obtain ⟨p, l, e, R, s, m, args, below, meth, c, Qm, D, dA, A⟩ := E
  obtain ⟨kx, kb, kl, kown, kts, klk, kR, kW, kA, kst⟩ := hE
  unfold o_f2d at q
  split at q
  · rename_i x S
    intro H locs cells slots ls yl yR yS yc ys
    exact lv_f2d kx kb d q.1 (hf _ _ _ _ q.2 H locs cells slots ls yl yR yS yc ys)
  · exact q.elim
def o_fcmp (op : CmpOp) (f : FT) : FT := fun L S h u => match S with
  | .float y :: .float x :: S => f L (.int (Op.cmpValue (FP.fcmp x y) op) :: S) h u
  | _ => False
theorem r_fcmp {E : ME} {own : String} {cc : ByteArray} {nL : Nat} {rm : Room} (hE : EnvOk E own cc nL rm) {pc : Nat} {f : FT} {op : CmpOp} (d : decode cc pc = .ok (.fcmp op, 1)) (hf : At E (pc + 1) f) : At E pc (o_fcmp op f) := by
  intro L S h u q
  obtain ⟨p, l, e, R, s, m, args, below, meth, c, Qm, D, dA, A⟩ := E
  obtain ⟨kx, kb, kl, kown, kts, klk, kR, kW, kA, kst⟩ := hE
  unfold o_fcmp at q
  split at q
  · rename_i y x S
    intro H locs cells slots ls yl yR yS yc ys
    exact lv_fcmp kx kb d (hf _ _ _ _ q H locs cells slots ls yl yR yS yc ys)
  · exact q.elim
def o_dcmp (op : CmpOp) (f : FT) : FT := fun L S h u => match S with
  | .double y :: .double x :: S => f L (.int (Op.cmpValue (FP.dcmp x y) op) :: S) h u
  | _ => False
theorem r_dcmp {E : ME} {own : String} {cc : ByteArray} {nL : Nat} {rm : Room} (hE : EnvOk E own cc nL rm) {pc : Nat} {f : FT} {op : CmpOp} (d : decode cc pc = .ok (.dcmp op, 1)) (hf : At E (pc + 1) f) : At E pc (o_dcmp op f) := by
  intro L S h u q
  obtain ⟨p, l, e, R, s, m, args, below, meth, c, Qm, D, dA, A⟩ := E
  obtain ⟨kx, kb, kl, kown, kts, klk, kR, kW, kA, kst⟩ := hE
  unfold o_dcmp at q
  split at q
  · rename_i y x S
    intro H locs cells slots ls yl yR yS yc ys
    exact lv_dcmp kx kb d (hf _ _ _ _ q H locs cells slots ls yl yR yS yc ys)
  · exact q.elim
def o_dup (f : FT) : FT := fun L S h u => match S with
  | .int x :: S => f L (.int x :: .int x :: S) h u
  | .ref x :: S => f L (.ref x :: .ref x :: S) h u
  | _ => False
theorem r_dup {E : ME} {own : String} {cc : ByteArray} {nL : Nat} {rm : Room} (hE : EnvOk E own cc nL rm) {pc : Nat} {f : FT} (d : decode cc pc = .ok (.dup, 1)) (hf : At E (pc + 1) f) : At E pc (o_dup f) := by
  intro L S h u q
  obtain ⟨p, l, e, R, s, m, args, below, meth, c, Qm, D, dA, A⟩ := E
  obtain ⟨kx, kb, kl, kown, kts, klk, kR, kW, kA, kst⟩ := hE
  unfold o_dup at q
  split at q
  · rename_i x S
    intro H locs cells slots ls yl yR yS yc ys
    exact lv_dup kx kb d rfl (hf _ _ _ _ q H locs cells slots ls yl yR yS yc ys)
  · rename_i x S
    intro H locs cells slots ls yl yR yS yc ys
    exact lv_dup kx kb d rfl (hf _ _ _ _ q H locs cells slots ls yl yR yS yc ys)
  · exact q.elim
def o_pop (f : FT) : FT := fun L S h u => match S with
  | .int _ :: S => f L S h u
  | .ref _ :: S => f L S h u
  | _ => False
theorem r_pop {E : ME} {own : String} {cc : ByteArray} {nL : Nat} {rm : Room} (hE : EnvOk E own cc nL rm) {pc : Nat} {f : FT} (d : decode cc pc = .ok (.pop, 1)) (hf : At E (pc + 1) f) : At E pc (o_pop f) := by
  intro L S h u q
  obtain ⟨p, l, e, R, s, m, args, below, meth, c, Qm, D, dA, A⟩ := E
  obtain ⟨kx, kb, kl, kown, kts, klk, kR, kW, kA, kst⟩ := hE
  unfold o_pop at q
  split at q
  · rename_i x S
    intro H locs cells slots ls yl yR yS yc ys
    exact lv_pop kx kb d rfl (hf _ _ _ _ q H locs cells slots ls yl yR yS yc ys)
  · rename_i x S
    intro H locs cells slots ls yl yR yS yc ys
    exact lv_pop kx kb d rfl (hf _ _ _ _ q H locs cells slots ls yl yR yS yc ys)
  · exact q.elim
def o_dup2 (f : FT) : FT := fun L S h u => match S with
  | .int x :: .ref y :: S => f L (.int x :: .ref y :: .int x :: .ref y :: S) h u
  | _ => False
theorem r_dup2 {E : ME} {own : String} {cc : ByteArray} {nL : Nat} {rm : Room} (hE : EnvOk E own cc nL rm) {pc : Nat} {f : FT} (d : decode cc pc = .ok (.dup2, 1)) (hf : At E (pc + 1) f) : At E pc (o_dup2 f) := by
  intro L S h u q
  obtain ⟨p, l, e, R, s, m, args, below, meth, c, Qm, D, dA, A⟩ := E
  obtain ⟨kx, kb, kl, kown, kts, klk, kR, kW, kA, kst⟩ := hE
  unfold o_dup2 at q
  split at q
  · rename_i x y S
    intro H locs cells slots ls yl yR yS yc ys
    exact lv_dup2_11 kx kb d rfl rfl (hf _ _ _ _ q H locs cells slots ls yl yR yS yc ys)
  · exact q.elim
def o_icmp_eq (f g : FT) : FT := fun L S h u => match S with
  | .int y :: .int x :: S => (x = y → g L S h u) ∧ (¬ (x = y) → f L S h u)
  | _ => False
theorem r_icmp_eq {E : ME} {own : String} {cc : ByteArray} {nL : Nat} {rm : Room} (hE : EnvOk E own cc nL rm) {pc : Nat} {f : FT} {g : FT} {off : Int} {tgt : Nat} (d : decode cc pc = .ok (.if_icmp .eq off, 3)) (ht : (pc : Int) + off = (tgt : Int)) (hf : At E (pc + 3) f) (hg : At E tgt g) : At E pc (o_icmp_eq f g) := by
  intro L S h u q
  obtain ⟨p, l, e, R, s, m, args, below, meth, c, Qm, D, dA, A⟩ := E
  obtain ⟨kx, kb, kl, kown, kts, klk, kR, kW, kA, kst⟩ := hE
  unfold o_icmp_eq at q
  split at q
  · rename_i y x S
    intro H locs cells slots ls yl yR yS yc ys
    exact lv_icmp_eq kx kb d ht (fun z => hg _ _ _ _ (q.1 z) H locs cells slots ls yl yR yS yc ys) (fun z => hf _ _ _ _ (q.2 z) H locs cells slots ls yl yR yS yc ys)
  · exact q.elim
def o_if_eq (f g : FT) : FT := fun L S h u => match S with
  | .int x :: S => (x = 0 → g L S h u) ∧ (¬ (x = 0) → f L S h u)
  | _ => False
theorem r_if_eq {E : ME} {own : String} {cc : ByteArray} {nL : Nat} {rm : Room} (hE : EnvOk E own cc nL rm) {pc : Nat} {f : FT} {g : FT} {off : Int} {tgt : Nat} (d : decode cc pc = .ok (.ifCond .eq off, 3)) (ht : (pc : Int) + off = (tgt : Int)) (hf : At E (pc + 3) f) (hg : At E tgt g) : At E pc (o_if_eq f g) := by
  intro L S h u q
  obtain ⟨p, l, e, R, s, m, args, below, meth, c, Qm, D, dA, A⟩ := E
  obtain ⟨kx, kb, kl, kown, kts, klk, kR, kW, kA, kst⟩ := hE
  unfold o_if_eq at q
  split at q
  · rename_i x S
    intro H locs cells slots ls yl yR yS yc ys
    exact lv_if_eq kx kb d ht (fun z => hg _ _ _ _ (q.1 z) H locs cells slots ls yl yR yS yc ys) (fun z => hf _ _ _ _ (q.2 z) H locs cells slots ls yl yR yS yc ys)
  · exact q.elim
def o_icmp_ne (f g : FT) : FT := fun L S h u => match S with
  | .int y :: .int x :: S => (¬ x = y → g L S h u) ∧ (x = y → f L S h u)
  | _ => False
theorem r_icmp_ne {E : ME} {own : String} {cc : ByteArray} {nL : Nat} {rm : Room} (hE : EnvOk E own cc nL rm) {pc : Nat} {f : FT} {g : FT} {off : Int} {tgt : Nat} (d : decode cc pc = .ok (.if_icmp .ne off, 3)) (ht : (pc : Int) + off = (tgt : Int)) (hf : At E (pc + 3) f) (hg : At E tgt g) : At E pc (o_icmp_ne f g) := by
  intro L S h u q
  obtain ⟨p, l, e, R, s, m, args, below, meth, c, Qm, D, dA, A⟩ := E
  obtain ⟨kx, kb, kl, kown, kts, klk, kR, kW, kA, kst⟩ := hE
  unfold o_icmp_ne at q
  split at q
  · rename_i y x S
    intro H locs cells slots ls yl yR yS yc ys
    exact lv_icmp_ne kx kb d ht (fun z => hg _ _ _ _ (q.1 z) H locs cells slots ls yl yR yS yc ys) (fun z => hf _ _ _ _ (q.2 z) H locs cells slots ls yl yR yS yc ys)
  · exact q.elim
def o_if_ne (f g : FT) : FT := fun L S h u => match S with
  | .int x :: S => (¬ x = 0 → g L S h u) ∧ (x = 0 → f L S h u)
  | _ => False
theorem r_if_ne {E : ME} {own : String} {cc : ByteArray} {nL : Nat} {rm : Room} (hE : EnvOk E own cc nL rm) {pc : Nat} {f : FT} {g : FT} {off : Int} {tgt : Nat} (d : decode cc pc = .ok (.ifCond .ne off, 3)) (ht : (pc : Int) + off = (tgt : Int)) (hf : At E (pc + 3) f) (hg : At E tgt g) : At E pc (o_if_ne f g) := by
  intro L S h u q
  obtain ⟨p, l, e, R, s, m, args, below, meth, c, Qm, D, dA, A⟩ := E
  obtain ⟨kx, kb, kl, kown, kts, klk, kR, kW, kA, kst⟩ := hE
  unfold o_if_ne at q
  split at q
  · rename_i x S
    intro H locs cells slots ls yl yR yS yc ys
    exact lv_if_ne kx kb d ht (fun z => hg _ _ _ _ (q.1 z) H locs cells slots ls yl yR yS yc ys) (fun z => hf _ _ _ _ (q.2 z) H locs cells slots ls yl yR yS yc ys)
  · exact q.elim
def o_icmp_lt (f g : FT) : FT := fun L S h u => match S with
  | .int y :: .int x :: S => (x < y → g L S h u) ∧ (¬ (x < y) → f L S h u)
  | _ => False
theorem r_icmp_lt {E : ME} {own : String} {cc : ByteArray} {nL : Nat} {rm : Room} (hE : EnvOk E own cc nL rm) {pc : Nat} {f : FT} {g : FT} {off : Int} {tgt : Nat} (d : decode cc pc = .ok (.if_icmp .lt off, 3)) (ht : (pc : Int) + off = (tgt : Int)) (hf : At E (pc + 3) f) (hg : At E tgt g) : At E pc (o_icmp_lt f g) := by
  intro L S h u q
  obtain ⟨p, l, e, R, s, m, args, below, meth, c, Qm, D, dA, A⟩ := E
  obtain ⟨kx, kb, kl, kown, kts, klk, kR, kW, kA, kst⟩ := hE
  unfold o_icmp_lt at q
  split at q
  · rename_i y x S
    intro H locs cells slots ls yl yR yS yc ys
    exact lv_icmp_lt kx kb d ht (fun z => hg _ _ _ _ (q.1 z) H locs cells slots ls yl yR yS yc ys) (fun z => hf _ _ _ _ (q.2 z) H locs cells slots ls yl yR yS yc ys)
  · exact q.elim
def o_if_lt (f g : FT) : FT := fun L S h u => match S with
  | .int x :: S => (x < 0 → g L S h u) ∧ (¬ (x < 0) → f L S h u)
  | _ => False
theorem r_if_lt {E : ME} {own : String} {cc : ByteArray} {nL : Nat} {rm : Room} (hE : EnvOk E own cc nL rm) {pc : Nat} {f : FT} {g : FT} {off : Int} {tgt : Nat} (d : decode cc pc = .ok (.ifCond .lt off, 3)) (ht : (pc : Int) + off = (tgt : Int)) (hf : At E (pc + 3) f) (hg : At E tgt g) : At E pc (o_if_lt f g) := by
  intro L S h u q
  obtain ⟨p, l, e, R, s, m, args, below, meth, c, Qm, D, dA, A⟩ := E
  obtain ⟨kx, kb, kl, kown, kts, klk, kR, kW, kA, kst⟩ := hE
  unfold o_if_lt at q
  split at q
  · rename_i x S
    intro H locs cells slots ls yl yR yS yc ys
    exact lv_if_lt kx kb d ht (fun z => hg _ _ _ _ (q.1 z) H locs cells slots ls yl yR yS yc ys) (fun z => hf _ _ _ _ (q.2 z) H locs cells slots ls yl yR yS yc ys)
  · exact q.elim
def o_icmp_ge (f g : FT) : FT := fun L S h u => match S with
  | .int y :: .int x :: S => (y ≤ x → g L S h u) ∧ (¬ (y ≤ x) → f L S h u)
  | _ => False
theorem r_icmp_ge {E : ME} {own : String} {cc : ByteArray} {nL : Nat} {rm : Room} (hE : EnvOk E own cc nL rm) {pc : Nat} {f : FT} {g : FT} {off : Int} {tgt : Nat} (d : decode cc pc = .ok (.if_icmp .ge off, 3)) (ht : (pc : Int) + off = (tgt : Int)) (hf : At E (pc + 3) f) (hg : At E tgt g) : At E pc (o_icmp_ge f g) := by
  intro L S h u q
  obtain ⟨p, l, e, R, s, m, args, below, meth, c, Qm, D, dA, A⟩ := E
  obtain ⟨kx, kb, kl, kown, kts, klk, kR, kW, kA, kst⟩ := hE
  unfold o_icmp_ge at q
  split at q
  · rename_i y x S
    intro H locs cells slots ls yl yR yS yc ys
    exact lv_icmp_ge kx kb d ht (fun z => hg _ _ _ _ (q.1 z) H locs cells slots ls yl yR yS yc ys) (fun z => hf _ _ _ _ (q.2 z) H locs cells slots ls yl yR yS yc ys)
  · exact q.elim
def o_if_ge (f g : FT) : FT := fun L S h u => match S with
  | .int x :: S => (0 ≤ x → g L S h u) ∧ (¬ (0 ≤ x) → f L S h u)
  | _ => False
theorem r_if_ge {E : ME} {own : String} {cc : ByteArray} {nL : Nat} {rm : Room} (hE : EnvOk E own cc nL rm) {pc : Nat} {f : FT} {g : FT} {off : Int} {tgt : Nat} (d : decode cc pc = .ok (.ifCond .ge off, 3)) (ht : (pc : Int) + off = (tgt : Int)) (hf : At E (pc + 3) f) (hg : At E tgt g) : At E pc (o_if_ge f g) := by
  intro L S h u q
  obtain ⟨p, l, e, R, s, m, args, below, meth, c, Qm, D, dA, A⟩ := E
  obtain ⟨kx, kb, kl, kown, kts, klk, kR, kW, kA, kst⟩ := hE
  unfold o_if_ge at q
  split at q
  · rename_i x S
    intro H locs cells slots ls yl yR yS yc ys
    exact lv_if_ge kx kb d ht (fun z => hg _ _ _ _ (q.1 z) H locs cells slots ls yl yR yS yc ys) (fun z => hf _ _ _ _ (q.2 z) H locs cells slots ls yl yR yS yc ys)
  · exact q.elim
def o_icmp_gt (f g : FT) : FT := fun L S h u => match S with
  | .int y :: .int x :: S => (y < x → g L S h u) ∧ (¬ (y < x) → f L S h u)
  | _ => False
theorem r_icmp_gt {E : ME} {own : String} {cc : ByteArray} {nL : Nat} {rm : Room} (hE : EnvOk E own cc nL rm) {pc : Nat} {f : FT} {g : FT} {off : Int} {tgt : Nat} (d : decode cc pc = .ok (.if_icmp .gt off, 3)) (ht : (pc : Int) + off = (tgt : Int)) (hf : At E (pc + 3) f) (hg : At E tgt g) : At E pc (o_icmp_gt f g) := by
  intro L S h u q
  obtain ⟨p, l, e, R, s, m, args, below, meth, c, Qm, D, dA, A⟩ := E
  obtain ⟨kx, kb, kl, kown, kts, klk, kR, kW, kA, kst⟩ := hE
  unfold o_icmp_gt at q
  split at q
  · rename_i y x S
    intro H locs cells slots ls yl yR yS yc ys
    exact lv_icmp_gt kx kb d ht (fun z => hg _ _ _ _ (q.1 z) H locs cells slots ls yl yR yS yc ys) (fun z => hf _ _ _ _ (q.2 z) H locs cells slots ls yl yR yS yc ys)
  · exact q.elim
def o_if_gt (f g : FT) : FT := fun L S h u => match S with
  | .int x :: S => (0 < x → g L S h u) ∧ (¬ (0 < x) → f L S h u)
  | _ => False
theorem r_if_gt {E : ME} {own : String} {cc : ByteArray} {nL : Nat} {rm : Room} (hE : EnvOk E own cc nL rm) {pc : Nat} {f : FT} {g : FT} {off : Int} {tgt : Nat} (d : decode cc pc = .ok (.ifCond .gt off, 3)) (ht : (pc : Int) + off = (tgt : Int)) (hf : At E (pc + 3) f) (hg : At E tgt g) : At E pc (o_if_gt f g) := by
  intro L S h u q
  obtain ⟨p, l, e, R, s, m, args, below, meth, c, Qm, D, dA, A⟩ := E
  obtain ⟨kx, kb, kl, kown, kts, klk, kR, kW, kA, kst⟩ := hE
  unfold o_if_gt at q
  split at q
  · rename_i x S
    intro H locs cells slots ls yl yR yS yc ys
    exact lv_if_gt kx kb d ht (fun z => hg _ _ _ _ (q.1 z) H locs cells slots ls yl yR yS yc ys) (fun z => hf _ _ _ _ (q.2 z) H locs cells slots ls yl yR yS yc ys)
  · exact q.elim
def o_icmp_le (f g : FT) : FT := fun L S h u => match S with
  | .int y :: .int x :: S => (x ≤ y → g L S h u) ∧ (¬ (x ≤ y) → f L S h u)
  | _ => False
theorem r_icmp_le {E : ME} {own : String} {cc : ByteArray} {nL : Nat} {rm : Room} (hE : EnvOk E own cc nL rm) {pc : Nat} {f : FT} {g : FT} {off : Int} {tgt : Nat} (d : decode cc pc = .ok (.if_icmp .le off, 3)) (ht : (pc : Int) + off = (tgt : Int)) (hf : At E (pc + 3) f) (hg : At E tgt g) : At E pc (o_icmp_le f g) := by
  intro L S h u q
  obtain ⟨p, l, e, R, s, m, args, below, meth, c, Qm, D, dA, A⟩ := E
  obtain ⟨kx, kb, kl, kown, kts, klk, kR, kW, kA, kst⟩ := hE
  unfold o_icmp_le at q
  split at q
  · rename_i y x S
    intro H locs cells slots ls yl yR yS yc ys
    exact lv_icmp_le kx kb d ht (fun z => hg _ _ _ _ (q.1 z) H locs cells slots ls yl yR yS yc ys) (fun z => hf _ _ _ _ (q.2 z) H locs cells slots ls yl yR yS yc ys)
  · exact q.elim
def o_if_le (f g : FT) : FT := fun L S h u => match S with
  | .int x :: S => (x ≤ 0 → g L S h u) ∧ (¬ (x ≤ 0) → f L S h u)
  | _ => False
theorem r_if_le {E : ME} {own : String} {cc : ByteArray} {nL : Nat} {rm : Room} (hE : EnvOk E own cc nL rm) {pc : Nat} {f : FT} {g : FT} {off : Int} {tgt : Nat} (d : decode cc pc = .ok (.ifCond .le off, 3)) (ht : (pc : Int) + off = (tgt : Int)) (hf : At E (pc + 3) f) (hg : At E tgt g) : At E pc (o_if_le f g) := by
  intro L S h u q
  obtain ⟨p, l, e, R, s, m, args, below, meth, c, Qm, D, dA, A⟩ := E
  obtain ⟨kx, kb, kl, kown, kts, klk, kR, kW, kA, kst⟩ := hE
  unfold o_if_le at q
  split at q
  · rename_i x S
    intro H locs cells slots ls yl yR yS yc ys
    exact lv_if_le kx kb d ht (fun z => hg _ _ _ _ (q.1 z) H locs cells slots ls yl yR yS yc ys) (fun z => hf _ _ _ _ (q.2 z) H locs cells slots ls yl yR yS yc ys)
  · exact q.elim
theorem r_goto {E : ME} {own : String} {cc : ByteArray} {nL : Nat} {rm : Room} (hE : EnvOk E own cc nL rm) {pc : Nat} {f : FT} {off : Int} {tgt : Nat} (d : decode cc pc = .ok (.goto off, 3)) (ht : (pc : Int) + off = (tgt : Int)) (hf : At E tgt f) : At E pc f := by
  intro L S h u q
  obtain ⟨p, l, e, R, s, m, args, below, meth, c, Qm, D, dA, A⟩ := E
  obtain ⟨kx, kb, kl, kown, kts, klk, kR, kW, kA, kst⟩ := hE
  intro H locs cells slots ls yl yR yS yc ys
  exact lv_goto kx kb d ht (hf _ _ _ _ q H locs cells slots ls yl yR yS yc ys)
-- fields
def o_gI (ci N k : Nat) (f : FT) : FT := fun L S h u => match S with
  | .ref a :: S => hs h a = (ci + 1, N) ∧ f L (.int (hI h a k) :: S) h u
  | _ => False
def o_gR (ci N k : Nat) (f : FT) : FT := fun L S h u => match S with
  | .ref a :: S => hs h a = (ci + 1, N) ∧ hR h a k ≠ 0 ∧ f L (.ref (hR h a k) :: S) h u
  | _ => False
def o_pI (ci N k : Nat) (f : FT) : FT := fun L S h u => match S with
  | .int x :: .ref a :: S => hs h a = (ci + 1, N) ∧ f L S (wI h a k x) u
  | _ => False
def o_pZ (ci N k : Nat) (f : FT) : FT := fun L S h u => match S with
  | .int x :: .ref a :: S => hs h a = (ci + 1, N) ∧ (x = 0 ∨ x = 1) ∧ f L S (wI h a k x) u
  | _ => False
def o_pR (ci N k : Nat) (f : FT) : FT := fun L S h u => match S with
  | .ref v :: .ref a :: S => hs h a = (ci + 1, N) ∧ v ≠ 0 ∧ f L S (wR h a k v) u
  | _ => False
theorem Rp.ob {D : va_G} {dA : Nat → ClassId} {A : Nat → Prop} {H : Heap} {h : Hp} (qR : Rp D dA A H h) {a ci N : Nat} (e : hs h a = (ci + 1, N)) (hci : ci + 1 < 20) : A a ∧ ∃ q : vw_C, cls[ci]? = some q ∧ q.2.2 = N ∧ t_OB a (D.1 ci) N (D.2 ci) H (fun j => fv h ci a j) := by
  obtain ⟨h1, -, h3⟩ := qR.2 a (by rw [e]; exact Nat.succ_ne_zero _)
  refine ⟨h1, ?_⟩
  unfold CellOk at h3
  rw [e, if_pos hci] at h3
  exact h3
theorem CellOk.obj {D : va_G} {dA : Nat → ClassId} {H : Heap} {h : Hp} {a ci N : Nat} (e : hs h a = (ci + 1, N)) (hci : ci + 1 < 20) {q : vw_C} (h1 : cls[ci]? = some q) (h2 : q.2.2 = N) (h3 : t_OB a (D.1 ci) N (D.2 ci) H (fun j => fv h ci a j)) : CellOk D dA h H a := by
  unfold CellOk
  rw [e, if_pos hci]
  exact ⟨q, h1, h2, h3⟩
theorem va_get1 {E : ME} {own : String} {cc : ByteArray} {nL : Nat} {rm : Room} (hE : EnvOk E own cc nL rm) {pc : Nat} {f : FT} {idx ci N k : Nat} {C : String} {T : u_T} (d : decode cc pc = .ok (.getfield idx, 3)) (hci : ci + 1 < 20) (hc : cls[ci]? = some (C, T, N)) (hk : k < N) (hin : ∀ w ∈ u_ws C T N, w ∈ TB) (hl : Cond.fieldLink own idx (T k).1 (T k).2.1 (T k).2.2.1 ∈ TB) (hf : At E (pc + 3) f) {L : LV} {S : List Value} {h : Hp} {u : Nat × Nat} {a : Nat} (q1 : hs h a = (ci + 1, N)) {v : Value} (hv : fv h ci a k = v) (q2 : f L (v :: S) h u) : G E pc L (.ref a :: S) h u := by
  obtain ⟨p, l, e, R, s, m, args, below, meth, c, Qm, D, dA, A⟩ := E
  obtain ⟨kx, kb, kl, kown, kts, klk, kR, kW, kA, kst⟩ := hE
  intro H locs cells slots ls yl yR yS yc ys
  obtain ⟨-, q, g1, g2, cell, c1, c2, c3, c4⟩ := yR.ob q1 hci
  have hq : q = (C, T, N) := Option.some.inj (g1.symm.trans hc)
  subst hq
  obtain ⟨jS, jc, kC, jk, jkind⟩ := kW.1.1 ci _ hc
  obtain ⟨cf, kf, fi, fd, hi, hsl⟩ := jS k hk
  refine W.getf kx kb kown (kts _ hl) hi (u_facts jc jk (u_lays kts hin hk) hi).1 c1 (by rw [c3]; exact fun h => by cases h) (v := v) ?_ rfl rfl d (hf _ _ _ _ q2 H locs cells slots ls yl yR yS yc ys)
  rw [hsl, c4 k hk]
  exact congrArg some hv
theorem r_gI {E : ME} {own : String} {cc : ByteArray} {nL : Nat} {rm : Room} (hE : EnvOk E own cc nL rm) {pc : Nat} {f : FT} {idx ci N k : Nat} {C : String} {T : u_T} (d : decode cc pc = .ok (.getfield idx, 3)) (hci : ci + 1 < 20) (hc : cls[ci]? = some (C, T, N)) (hk : k < N) (hin : ∀ w ∈ u_ws C T N, w ∈ TB) (hl : Cond.fieldLink own idx (T k).1 (T k).2.1 (T k).2.2.1 ∈ TB) (hv : ∀ h a, fv h ci a k = .int (hI h a k)) (hf : At E (pc + 3) f) : At E pc (o_gI ci N k f) := by
  intro L S h u q
  unfold o_gI at q
  split at q
  · exact va_get1 hE d hci hc hk hin hl hf q.1 (hv _ _) q.2
  · exact q.elim
theorem r_gR {E : ME} {own : String} {cc : ByteArray} {nL : Nat} {rm : Room} (hE : EnvOk E own cc nL rm) {pc : Nat} {f : FT} {idx ci N k : Nat} {C : String} {T : u_T} (d : decode cc pc = .ok (.getfield idx, 3)) (hci : ci + 1 < 20) (hc : cls[ci]? = some (C, T, N)) (hk : k < N) (hin : ∀ w ∈ u_ws C T N, w ∈ TB) (hl : Cond.fieldLink own idx (T k).1 (T k).2.1 (T k).2.2.1 ∈ TB) (hv : ∀ h a, fv h ci a k = va_rf (ro (hR h a k))) (hf : At E (pc + 3) f) : At E pc (o_gR ci N k f) := by
  intro L S h u q
  unfold o_gR at q
  split at q
  · exact va_get1 hE d hci hc hk hin hl hf q.1 ((hv _ _).trans (ro_ne q.2.1)) q.2.2
  · exact q.elim
theorem va_put1 {E : ME} {own : String} {cc : ByteArray} {nL : Nat} {rm : Room} (hE : EnvOk E own cc nL rm) {pc : Nat} {f : FT} {idx ci N k : Nat} {C : String} {T : u_T} (d : decode cc pc = .ok (.putfield idx, 3)) (hci : ci + 1 < 20) (hc : cls[ci]? = some (C, T, N)) (hk : k < N) (hin : ∀ w ∈ u_ws C T N, w ∈ TB) (hl : Cond.fieldLink own idx (T k).1 (T k).2.1 (T k).2.2.1 ∈ TB) (ty0 : Nat → FieldType) (hty : ∀ k, k < N → parseFieldDescriptor (T k).2.2.1 = some (ty0 k)) (hnm : ∀ a, a < N → ∀ b, b < N → a ≠ b → (T a).2.1 ≠ (T b).2.1)
    (hfin : (T k).2.2.2 = false ∨ (E.2.2.2.2.2.2.2.2.1.name = "<init>" ∧ (T k).1 = own ∧ (T k).2.2.2 = true)) (hf : At E (pc + 3) f) {L : LV} {S : List Value} {h h' : Hp} {u : Nat × Nat} {a : Nat} (q1 : hs h a = (ci + 1, N)) {v : Value} (hna : narrow (ty0 k) v = v) (hfit : fits (ty0 k) v = true) (e1 : hn h' = hn h) (e2 : hs h' a = hs h a) (g : ∀ b, b ≠ a → ag h h' b) (hu : ∀ j, j < N → updV (fun j => fv h ci a j) k v j = fv h' ci a j) (q2 : f L S h' u) : G E pc L (v :: .ref a :: S) h u := by
  obtain ⟨p, l, e, R, s, m, args, below, meth, c, Qm, D, dA, A⟩ := E
  obtain ⟨kx, kb, kl, kown, kts, klk, kR, kW, kA, kst⟩ := hE
  intro H locs cells slots ls yl yR yS yc ys
  have hap := va_apart (own := own) (D := D) (cl := cls) kts hin ty0 hty hnm kW.1 hc
  obtain ⟨ya, q, g1, g2, cell, c1, c2, c3, c4⟩ := yR.ob q1 hci
  have hq : q = (C, T, N) := Option.some.inj (g1.symm.trans hc)
  subst hq
  obtain ⟨jS, jc, kC, jk, jkind⟩ := kW.1.1 ci _ hc
  obtain ⟨cf, kf, fi, fd, hi, hsl⟩ := jS k hk
  have hlay := kts _ (hin _ (u_in_lay hk))
  have hst := (u_facts jc jk (u_lays kts hin hk) hi).1
  have fin : ∀ (H' : Heap) (locs' : List Loc), H'[a]? = some (cell.setSlot (D.2 ci k) v) → H'.size = H.size → (∀ q, q ≠ a → H'[q]? = H[q]?) → va_S A s.heap H' locs' → W p l e R s m args below meth c H' locs' cells slots Qm (F0 m (pc + 3) ls S) := by
    intro H' locs' i1 i2 i3 i4
    refine hf _ _ _ _ q2 H' locs' cells slots ls yl (yR.set i2 i3 e1 e2 g ?_) i4 yc ys
    exact CellOk.obj (by rw [e2]; exact q1) hci hc rfl (t_OB.to (V := updV (fun j => fv h ci a j) k v) ⟨_, i1, c2, c3, t_set c4 hap hk v⟩ hu)
  rcases hfin with hfin | ⟨hin2, hdecl, hfin⟩
  · unfold u_lay at hlay
    rw [if_neg (by rw [hfin]; decide)] at hlay
    have h6 := u_store jc jk jkind hlay hi (hty k hk) hna hfit
    refine W.putK kx kb (f := fd) ⟨kown, kts _ hl, ⟨_, _, _, hi⟩, hst⟩ (by rw [c2]; exact h6) c1 c3 (by rw [hsl]; exact k2_hasslot (c4 k hk)) rfl rfl d fun H' i1 i2 i3 => ?_
    rw [hsl] at i1
    exact fin H' _ i1 i2 i3 (yS.put i2 i3 ya)
  · unfold u_lay at hlay
    rw [if_pos hfin] at hlay
    have hcf : m.cls = cf := by
      obtain ⟨_, _, c', _, _, _, -, -, hf', -, -, -, hown2, -⟩ := Cond.laysFinal_spec hlay
      have e1 : c' = cf := by have := hi.symm.trans hf'; simp at this; exact this.1.symm
      rw [hdecl] at hown2
      rw [← e1]; exact Option.some.inj (kown.symm.trans hown2)
    have h6 := u_fits jc jk jkind (Or.inr hlay) hi (hty k hk) hna hfit
    refine W.putFinK kx kb kown (kts _ hl) hi hst hcf hin2 (by rw [c2]; exact h6) c1 c3 (by rw [hsl]; exact k2_hasslot (c4 k hk)) rfl rfl d fun H' i1 i2 i3 => ?_
    rw [hsl] at i1
    exact fin H' _ i1 i2 i3 (yS.put i2 i3 ya)
theorem updV_wI {h : Hp} {ci a k : Nat} {x : Int32} (hv : ∀ h a, fv h ci a k = .int (hI h a k)) (j : Nat) : updV (fun j => fv h ci a j) k (.int x) j = fv (wI h a k x) ci a j := by
  unfold updV
  by_cases e : j = k
  · subst e
    rw [if_pos rfl, hv]
    show _ = Value.int (if a = a then (if j = j then x else _) else _)
    rw [if_pos rfl, if_pos rfl]
  · rw [if_neg e]
    have h1 : hI (wI h a k x) a j = hI h a j := by
      show (if a = a then (if j = k then x else _) else _) = _
      rw [if_pos rfl, if_neg e]; rfl
    unfold fv
    rw [h1]; rfl
theorem updV_wR {h : Hp} {ci a k x : Nat} (hx0 : x ≠ 0) (hv : ∀ h a, fv h ci a k = va_rf (ro (hR h a k))) (j : Nat) : updV (fun j => fv h ci a j) k (.ref x) j = fv (wR h a k x) ci a j := by
  unfold updV
  by_cases e : j = k
  · subst e
    rw [if_pos rfl, hv]
    show _ = va_rf (ro (if a = a then (if j = j then x else _) else _))
    rw [if_pos rfl, if_pos rfl, ro_ne hx0]
  · rw [if_neg e]
    have h1 : hR (wR h a k x) a j = hR h a j := by
      show (if a = a then (if j = k then x else _) else _) = _
      rw [if_pos rfl, if_neg e]; rfl
    unfold fv
    rw [h1]; rfl
theorem r_pI {E : ME} {own : String} {cc : ByteArray} {nL : Nat} {rm : Room} (hE : EnvOk E own cc nL rm) {pc : Nat} {f : FT} {idx ci N k : Nat} {C : String} {T : u_T} (d : decode cc pc = .ok (.putfield idx, 3)) (hci : ci + 1 < 20) (hc : cls[ci]? = some (C, T, N)) (hk : k < N) (hin : ∀ w ∈ u_ws C T N, w ∈ TB) (hl : Cond.fieldLink own idx (T k).1 (T k).2.1 (T k).2.2.1 ∈ TB) (ty0 : Nat → FieldType) (hty : ∀ k, k < N → parseFieldDescriptor (T k).2.2.1 = some (ty0 k)) (hnm : ∀ a, a < N → ∀ b, b < N → a ≠ b → (T a).2.1 ≠ (T b).2.1) (hfin : (T k).2.2.2 = false) (hv : ∀ h a, fv h ci a k = .int (hI h a k)) (ht : ty0 k = .int) (hf : At E (pc + 3) f) : At E pc (o_pI ci N k f) := by
  intro L S h u q
  unfold o_pI at q
  split at q
  · rename_i x a S
    exact va_put1 (h' := wI h a k x) hE d hci hc hk hin hl ty0 hty hnm (Or.inl hfin) hf q.1 (by rw [ht]; rfl) (by rw [ht]; rfl) rfl rfl (fun b hb => ag_wI hb) (fun j _ => updV_wI hv j) q.2
  · exact q.elim
theorem r_pZ {E : ME} {own : String} {cc : ByteArray} {nL : Nat} {rm : Room} (hE : EnvOk E own cc nL rm) {pc : Nat} {f : FT} {idx ci N k : Nat} {C : String} {T : u_T} (d : decode cc pc = .ok (.putfield idx, 3)) (hci : ci + 1 < 20) (hc : cls[ci]? = some (C, T, N)) (hk : k < N) (hin : ∀ w ∈ u_ws C T N, w ∈ TB) (hl : Cond.fieldLink own idx (T k).1 (T k).2.1 (T k).2.2.1 ∈ TB) (ty0 : Nat → FieldType) (hty : ∀ k, k < N → parseFieldDescriptor (T k).2.2.1 = some (ty0 k)) (hnm : ∀ a, a < N → ∀ b, b < N → a ≠ b → (T a).2.1 ≠ (T b).2.1) (hfin : (T k).2.2.2 = false) (hv : ∀ h a, fv h ci a k = .int (hI h a k)) (ht : ty0 k = .boolean) (hf : At E (pc + 3) f) : At E pc (o_pZ ci N k f) := by
  intro L S h u q
  unfold o_pZ at q
  split at q
  · rename_i x a S
    exact va_put1 (h' := wI h a k x) hE d hci hc hk hin hl ty0 hty hnm (Or.inl hfin) hf q.1 (by rw [ht]; rcases q.2.1 with e | e <;> subst e <;> rfl) (by rw [ht]; rcases q.2.1 with e | e <;> subst e <;> rfl) rfl rfl (fun b hb => ag_wI hb) (fun j _ => updV_wI hv j) q.2.2
  · exact q.elim
theorem r_pR {E : ME} {own : String} {cc : ByteArray} {nL : Nat} {rm : Room} (hE : EnvOk E own cc nL rm) {pc : Nat} {f : FT} {idx ci N k : Nat} {C : String} {T : u_T} (d : decode cc pc = .ok (.putfield idx, 3)) (hci : ci + 1 < 20) (hc : cls[ci]? = some (C, T, N)) (hk : k < N) (hin : ∀ w ∈ u_ws C T N, w ∈ TB) (hl : Cond.fieldLink own idx (T k).1 (T k).2.1 (T k).2.2.1 ∈ TB) (ty0 : Nat → FieldType) (hty : ∀ k, k < N → parseFieldDescriptor (T k).2.2.1 = some (ty0 k)) (hnm : ∀ a, a < N → ∀ b, b < N → a ≠ b → (T a).2.1 ≠ (T b).2.1) (hin2 : E.2.2.2.2.2.2.2.2.1.name = "<init>") (hdecl : (T k).1 = own) (hfin : (T k).2.2.2 = true) (hv : ∀ h a, fv h ci a k = va_rf (ro (hR h a k))) (ht : (ty0 k).isReference = true) (hf : At E (pc + 3) f) : At E pc (o_pR ci N k f) := by
  intro L S h u q
  unfold o_pR at q
  split at q
  · rename_i x a S
    exact va_put1 (h' := wR h a k x) hE d hci hc hk hin hl ty0 hty hnm (Or.inr ⟨hin2, hdecl, hfin⟩) hf q.1 (by cases hz : ty0 k <;> rw [hz] at ht <;> first | rfl | cases ht) (by cases hz : ty0 k <;> rw [hz] at ht <;> first | rfl | cases ht) rfl rfl (fun b hb => ag_wR hb) (fun j _ => updV_wR q.2.1 hv j) q.2.2
  · exact q.elim
theorem Rp.ar {D : va_G} {dA : Nat → ClassId} {A : Nat → Prop} {H : Heap} {h : Hp} (qR : Rp D dA A H h) {a k : Nat} (e : (hs h a).1 = k) (hk : 20 ≤ k) : A a ∧ H[a]? = some (arrV (dA k) (hs h a).2 (fun j => av h k a j)) := by
  obtain ⟨h1, -, h3⟩ := qR.2 a (by rw [e]; omega)
  refine ⟨h1, ?_⟩
  unfold CellOk at h3
  rw [e, if_neg (by omega)] at h3
  exact h3
theorem CellOk.arr {D : va_G} {dA : Nat → ClassId} {H : Heap} {h : Hp} {a k : Nat} (e : (hs h a).1 = k) (hk : 20 ≤ k) (h3 : H[a]? = some (arrV (dA k) (hs h a).2 (fun j => av h k a j))) : CellOk D dA h H a := by
  unfold CellOk
  rw [e, if_neg (by omega)]
  exact h3
theorem Wd.arr {D : va_G} {dA : Nat → ClassId} {A : Nat → Prop} {s : State} (kW : Wd D dA A s) {k t : Nat} {ty : FieldType} (h : ATY[t]? = some (k, ty)) : ArrOfT s (dA k) ty ∧ va_RA s (dA k) ty := by
  have h2 : (tysOf dA)[t]? = some (dA k, ty) := by unfold tysOf; rw [List.getElem?_map, h]; rfl
  exact kW.1.2 t _ h2
theorem vin_lt {i : Int32} {n : Nat} (q : vp_in i n) : i.toNatClampNeg < n := Nat.not_le.mp fun z => q (Or.inr z)
theorem in_arr {cI : ClassId} {n : Nat} {g : Nat → Value} {i : Int32} (q : vp_in i n) : ¬ (i < 0 ∨ (arrV cI n g).slots.size ≤ i.toNatClampNeg) := by rw [arrV_size]; exact q
theorem av_int {h : Hp} {k a j : Nat} (hk : k ≤ 22) : av h k a j = .int (hI h a j) := by unfold av; rw [if_pos hk]
theorem av_long {h : Hp} {a j : Nat} : av h 23 a j = .long (hL h a j) := by unfold av; rw [if_neg (by decide), if_pos rfl]
theorem av_dbl {h : Hp} {a j : Nat} : av h 24 a j = .double (hD h a j) := by unfold av; rw [if_neg (by decide), if_neg (by decide), if_pos rfl]
theorem av_ref {h : Hp} {k a j : Nat} (hk : 25 ≤ k) : av h k a j = va_rf (ro (hR h a j)) := by unfold av; rw [if_neg (by omega), if_neg (by omega), if_neg (by omega)]
theorem u2_in {α : Type} {f : Nat → Nat → α} {a i j : Nat} {x : α} (e : j = i) : u2 f a i x a j = x := by unfold u2; rw [if_pos rfl, if_pos e]
theorem u2_ne {α : Type} {f : Nat → Nat → α} {a i j : Nat} {x : α} (e : ¬ j = i) : u2 f a i x a j = f a j := by unfold u2; rw [if_pos rfl, if_neg e]
theorem updV_av {h h' : Hp} {k a i : Nat} {v : Value} (h1 : ∀ j, j = i → av h' k a j = v) (h2 : ∀ j, ¬ j = i → av h' k a j = av h k a j) : updV (fun j => av h k a j) i v = fun j => av h' k a j := by
  funext j
  show (if j = i then v else av h k a j) = _
  by_cases e : j = i
  · rw [if_pos e, h1 j e]
  · rw [if_neg e, h2 j e]
theorem updV_avI {h : Hp} {k a i : Nat} {x : Int32} (hk : k ≤ 22) : updV (fun j => av h k a j) i (.int x) = fun j => av (wI h a i x) k a j :=
  updV_av (fun j e => by rw [av_int hk]; exact congrArg Value.int (u2_in e)) (fun j e => by rw [av_int hk, av_int hk]; exact congrArg Value.int (u2_ne e))
theorem updV_avL {h : Hp} {a i : Nat} {x : Int64} : updV (fun j => av h 23 a j) i (.long x) = fun j => av (wL h a i x) 23 a j :=
  updV_av (fun j e => by rw [av_long]; exact congrArg Value.long (u2_in e)) (fun j e => by rw [av_long, av_long]; exact congrArg Value.long (u2_ne e))
theorem updV_avD {h : Hp} {a i : Nat} {x : UInt64} : updV (fun j => av h 24 a j) i (.double x) = fun j => av (wD h a i x) 24 a j :=
  updV_av (fun j e => by rw [av_dbl]; exact congrArg Value.double (u2_in e)) (fun j e => by rw [av_dbl, av_dbl]; exact congrArg Value.double (u2_ne e))
theorem updV_avR {h : Hp} {k a i x : Nat} (hx : x ≠ 0) (hk : 25 ≤ k) : updV (fun j => av h k a j) i (.ref x) = fun j => av (wR h a i x) k a j :=
  updV_av (fun j e => by rw [av_ref hk]; exact (congrArg (fun z => va_rf (ro z)) (u2_in e)).trans (ro_ne hx)) (fun j e => by rw [av_ref hk, av_ref hk]; exact congrArg (fun z => va_rf (ro z)) (u2_ne e))
def o_iaload (f : FT) : FT := fun L S h u => match S with
  | .int i :: .ref a :: S => (hs h a).1 = 20 ∧ vp_in i (hs h a).2 ∧ f L (.int (hI h a i.toNatClampNeg) :: S) h u
  | _ => False
theorem r_iaload {E : ME} {own : String} {cc : ByteArray} {nL : Nat} {rm : Room} (hE : EnvOk E own cc nL rm) {pc : Nat} {f : FT} (d : decode cc pc = .ok (.iaload, 1)) (hf : At E (pc + 1) f) : At E pc (o_iaload f) := by
  intro L S h u q
  unfold o_iaload at q
  split at q
  · rename_i i a S
    obtain ⟨p, l, e, R, s, m, args, below, meth, c, Qm, D, dA, A⟩ := E
    obtain ⟨kx, kb, kl, kown, kts, klk, kR, kW, kA, kst⟩ := hE
    intro H locs cells slots ls yl yR yS yc ys
    obtain ⟨q1, q2, q3⟩ := q
    obtain ⟨-, g2⟩ := yR.ar q1 (by decide)
    exact W.iald (v := .int (hI h a i.toNatClampNeg)) kx kb g2 ((kW.arr (t := 0) rfl).1 _ _) (fun z => by cases z) (in_arr q2) (by rw [arrV_read _ _ (vin_lt q2)]; rfl) rfl rfl d (hf _ _ _ _ q3 H locs cells slots ls yl yR yS yc ys)
  · exact q.elim
def o_zaload (f : FT) : FT := fun L S h u => match S with
  | .int i :: .ref a :: S => (hs h a).1 = 21 ∧ vp_in i (hs h a).2 ∧ f L (.int (hI h a i.toNatClampNeg) :: S) h u
  | _ => False
theorem r_zaload {E : ME} {own : String} {cc : ByteArray} {nL : Nat} {rm : Room} (hE : EnvOk E own cc nL rm) {pc : Nat} {f : FT} (d : decode cc pc = .ok (.baload, 1)) (hf : At E (pc + 1) f) : At E pc (o_zaload f) := by
  intro L S h u q
  unfold o_zaload at q
  split at q
  · rename_i i a S
    obtain ⟨p, l, e, R, s, m, args, below, meth, c, Qm, D, dA, A⟩ := E
    obtain ⟨kx, kb, kl, kown, kts, klk, kR, kW, kA, kst⟩ := hE
    intro H locs cells slots ls yl yR yS yc ys
    obtain ⟨q1, q2, q3⟩ := q
    obtain ⟨-, g2⟩ := yR.ar q1 (by decide)
    exact W.zald (v := .int (hI h a i.toNatClampNeg)) kx kb g2 ((kW.arr (t := 1) rfl).1 _ _) (fun z => by cases z) (in_arr q2) (by rw [arrV_read _ _ (vin_lt q2)]; rfl) rfl rfl d (hf _ _ _ _ q3 H locs cells slots ls yl yR yS yc ys)
  · exact q.elim
def o_caload (f : FT) : FT := fun L S h u => match S with
  | .int i :: .ref a :: S => (hs h a).1 = 22 ∧ vp_in i (hs h a).2 ∧ f L (.int (hI h a i.toNatClampNeg) :: S) h u
  | _ => False
theorem r_caload {E : ME} {own : String} {cc : ByteArray} {nL : Nat} {rm : Room} (hE : EnvOk E own cc nL rm) {pc : Nat} {f : FT} (d : decode cc pc = .ok (.caload, 1)) (hf : At E (pc + 1) f) : At E pc (o_caload f) := by
  intro L S h u q
  unfold o_caload at q
  split at q
  · rename_i i a S
    obtain ⟨p, l, e, R, s, m, args, below, meth, c, Qm, D, dA, A⟩ := E
    obtain ⟨kx, kb, kl, kown, kts, klk, kR, kW, kA, kst⟩ := hE
    intro H locs cells slots ls yl yR yS yc ys
    obtain ⟨q1, q2, q3⟩ := q
    obtain ⟨-, g2⟩ := yR.ar q1 (by decide)
    exact W.cald (v := .int (hI h a i.toNatClampNeg)) kx kb g2 ((kW.arr (t := 2) rfl).1 _ _) (fun z => by cases z) (in_arr q2) (by rw [arrV_read _ _ (vin_lt q2)]; rfl) rfl rfl d (hf _ _ _ _ q3 H locs cells slots ls yl yR yS yc ys)
  · exact q.elim
def o_laload (f : FT) : FT := fun L S h u => match S with
  | .int i :: .ref a :: S => (hs h a).1 = 23 ∧ vp_in i (hs h a).2 ∧ f L (.long (hL h a i.toNatClampNeg) :: S) h u
  | _ => False
theorem r_laload {E : ME} {own : String} {cc : ByteArray} {nL : Nat} {rm : Room} (hE : EnvOk E own cc nL rm) {pc : Nat} {f : FT} (d : decode cc pc = .ok (.laload, 1)) (hf : At E (pc + 1) f) : At E pc (o_laload f) := by
  intro L S h u q
  unfold o_laload at q
  split at q
  · rename_i i a S
    obtain ⟨p, l, e, R, s, m, args, below, meth, c, Qm, D, dA, A⟩ := E
    obtain ⟨kx, kb, kl, kown, kts, klk, kR, kW, kA, kst⟩ := hE
    intro H locs cells slots ls yl yR yS yc ys
    obtain ⟨q1, q2, q3⟩ := q
    obtain ⟨-, g2⟩ := yR.ar q1 (by decide)
    exact W.lald (v := .long (hL h a i.toNatClampNeg)) kx kb g2 ((kW.arr (t := 3) rfl).1 _ _) (fun z => by cases z) (in_arr q2) (by rw [arrV_read _ _ (vin_lt q2)]; rfl) rfl rfl d (hf _ _ _ _ q3 H locs cells slots ls yl yR yS yc ys)
  · exact q.elim
def o_daload (f : FT) : FT := fun L S h u => match S with
  | .int i :: .ref a :: S => (hs h a).1 = 24 ∧ vp_in i (hs h a).2 ∧ f L (.double (hD h a i.toNatClampNeg) :: S) h u
  | _ => False
theorem r_daload {E : ME} {own : String} {cc : ByteArray} {nL : Nat} {rm : Room} (hE : EnvOk E own cc nL rm) {pc : Nat} {f : FT} (d : decode cc pc = .ok (.daload, 1)) (hf : At E (pc + 1) f) : At E pc (o_daload f) := by
  intro L S h u q
  unfold o_daload at q
  split at q
  · rename_i i a S
    obtain ⟨p, l, e, R, s, m, args, below, meth, c, Qm, D, dA, A⟩ := E
    obtain ⟨kx, kb, kl, kown, kts, klk, kR, kW, kA, kst⟩ := hE
    intro H locs cells slots ls yl yR yS yc ys
    obtain ⟨q1, q2, q3⟩ := q
    obtain ⟨-, g2⟩ := yR.ar q1 (by decide)
    exact W.dald (v := .double (hD h a i.toNatClampNeg)) kx kb g2 ((kW.arr (t := 4) rfl).1 _ _) (fun z => by cases z) (in_arr q2) (by rw [arrV_read _ _ (vin_lt q2)]; rfl) rfl rfl d (hf _ _ _ _ q3 H locs cells slots ls yl yR yS yc ys)
  · exact q.elim
def o_iastore (f : FT) : FT := fun L S h u => match S with
  | .int x :: .int i :: .ref a :: S => (hs h a).1 = 20 ∧ vp_in i (hs h a).2 ∧ f L S (wI h a i.toNatClampNeg x) u
  | _ => False
theorem r_iastore {E : ME} {own : String} {cc : ByteArray} {nL : Nat} {rm : Room} (hE : EnvOk E own cc nL rm) {pc : Nat} {f : FT} (d : decode cc pc = .ok (.iastore, 1)) (hf : At E (pc + 1) f) : At E pc (o_iastore f) := by
  intro L S h u q
  unfold o_iastore at q
  split at q
  · rename_i x i a S
    obtain ⟨p, l, e, R, s, m, args, below, meth, c, Qm, D, dA, A⟩ := E
    obtain ⟨kx, kb, kl, kown, kts, klk, kR, kW, kA, kst⟩ := hE
    intro H locs cells slots ls yl yR yS yc ys
    obtain ⟨q1, q2, q3⟩ := q
    obtain ⟨g1, g2⟩ := yR.ar q1 (by decide)
    refine W.iast kx kb g2 ((kW.arr (t := 0) rfl).1 _ _) (fun z => by cases z) (in_arr q2) rfl rfl d fun H1 i1 i2 i3 => ?_
    refine hf _ _ _ _ q3 H1 _ cells slots ls yl (yR.set i2 i3 rfl rfl (fun b hb => ag_wI hb) ?_) (yS.put i2 i3 g1) yc ys
    refine CellOk.arr q1 (by decide) ?_
    rw [i1, arrV_store]
    rw [updV_avI (by decide)]
    rfl
  · exact q.elim
def o_zastore (f : FT) : FT := fun L S h u => match S with
  | .int x :: .int i :: .ref a :: S => (hs h a).1 = 21 ∧ vp_in i (hs h a).2 ∧ narrow .boolean (.int x) = .int x ∧ f L S (wI h a i.toNatClampNeg x) u
  | _ => False
theorem r_zastore {E : ME} {own : String} {cc : ByteArray} {nL : Nat} {rm : Room} (hE : EnvOk E own cc nL rm) {pc : Nat} {f : FT} (d : decode cc pc = .ok (.bastore, 1)) (hf : At E (pc + 1) f) : At E pc (o_zastore f) := by
  intro L S h u q
  unfold o_zastore at q
  split at q
  · rename_i x i a S
    obtain ⟨p, l, e, R, s, m, args, below, meth, c, Qm, D, dA, A⟩ := E
    obtain ⟨kx, kb, kl, kown, kts, klk, kR, kW, kA, kst⟩ := hE
    intro H locs cells slots ls yl yR yS yc ys
    obtain ⟨q1, q2, q4, q3⟩ := q
    obtain ⟨g1, g2⟩ := yR.ar q1 (by decide)
    refine W.zast kx kb g2 ((kW.arr (t := 1) rfl).1 _ _) (fun z => by cases z) (in_arr q2) rfl rfl d fun H1 i1 i2 i3 => ?_
    rw [q4] at i1
    refine hf _ _ _ _ q3 H1 _ cells slots ls yl (yR.set i2 i3 rfl rfl (fun b hb => ag_wI hb) ?_) (yS.put i2 i3 g1) yc ys
    refine CellOk.arr q1 (by decide) ?_
    rw [i1, arrV_store]
    rw [updV_avI (by decide)]
    rfl
  · exact q.elim
def o_castore (f : FT) : FT := fun L S h u => match S with
  | .int x :: .int i :: .ref a :: S => (hs h a).1 = 22 ∧ vp_in i (hs h a).2 ∧ narrow .char (.int x) = .int x ∧ f L S (wI h a i.toNatClampNeg x) u
  | _ => False
theorem r_castore {E : ME} {own : String} {cc : ByteArray} {nL : Nat} {rm : Room} (hE : EnvOk E own cc nL rm) {pc : Nat} {f : FT} (d : decode cc pc = .ok (.castore, 1)) (hf : At E (pc + 1) f) : At E pc (o_castore f) := by
  intro L S h u q
  unfold o_castore at q
  split at q
  · rename_i x i a S
    obtain ⟨p, l, e, R, s, m, args, below, meth, c, Qm, D, dA, A⟩ := E
    obtain ⟨kx, kb, kl, kown, kts, klk, kR, kW, kA, kst⟩ := hE
    intro H locs cells slots ls yl yR yS yc ys
    obtain ⟨q1, q2, q4, q3⟩ := q
    obtain ⟨g1, g2⟩ := yR.ar q1 (by decide)
    refine W.cast kx kb g2 ((kW.arr (t := 2) rfl).1 _ _) (fun z => by cases z) (in_arr q2) rfl rfl d fun H1 i1 i2 i3 => ?_
    rw [q4] at i1
    refine hf _ _ _ _ q3 H1 _ cells slots ls yl (yR.set i2 i3 rfl rfl (fun b hb => ag_wI hb) ?_) (yS.put i2 i3 g1) yc ys
    refine CellOk.arr q1 (by decide) ?_
    rw [i1, arrV_store]
    rw [updV_avI (by decide)]
    rfl
  · exact q.elim
def o_lastore (f : FT) : FT := fun L S h u => match S with
  | .long x :: .int i :: .ref a :: S => (hs h a).1 = 23 ∧ vp_in i (hs h a).2 ∧ f L S (wL h a i.toNatClampNeg x) u
  | _ => False
theorem r_lastore {E : ME} {own : String} {cc : ByteArray} {nL : Nat} {rm : Room} (hE : EnvOk E own cc nL rm) {pc : Nat} {f : FT} (d : decode cc pc = .ok (.lastore, 1)) (hf : At E (pc + 1) f) : At E pc (o_lastore f) := by
  intro L S h u q
  unfold o_lastore at q
  split at q
  · rename_i x i a S
    obtain ⟨p, l, e, R, s, m, args, below, meth, c, Qm, D, dA, A⟩ := E
    obtain ⟨kx, kb, kl, kown, kts, klk, kR, kW, kA, kst⟩ := hE
    intro H locs cells slots ls yl yR yS yc ys
    obtain ⟨q1, q2, q3⟩ := q
    obtain ⟨g1, g2⟩ := yR.ar q1 (by decide)
    refine W.last kx kb g2 ((kW.arr (t := 3) rfl).1 _ _) (fun z => by cases z) (in_arr q2) rfl rfl d fun H1 i1 i2 i3 => ?_
    refine hf _ _ _ _ q3 H1 _ cells slots ls yl (yR.set i2 i3 rfl rfl (fun b hb => ag_wL hb) ?_) (yS.put i2 i3 g1) yc ys
    refine CellOk.arr q1 (by decide) ?_
    rw [i1, arrV_store]
    rw [updV_avL]
    rfl
  · exact q.elim
def o_dastore (f : FT) : FT := fun L S h u => match S with
  | .double x :: .int i :: .ref a :: S => (hs h a).1 = 24 ∧ vp_in i (hs h a).2 ∧ f L S (wD h a i.toNatClampNeg x) u
  | _ => False
theorem r_dastore {E : ME} {own : String} {cc : ByteArray} {nL : Nat} {rm : Room} (hE : EnvOk E own cc nL rm) {pc : Nat} {f : FT} (d : decode cc pc = .ok (.dastore, 1)) (hf : At E (pc + 1) f) : At E pc (o_dastore f) := by
  intro L S h u q
  unfold o_dastore at q
  split at q
  · rename_i x i a S
    obtain ⟨p, l, e, R, s, m, args, below, meth, c, Qm, D, dA, A⟩ := E
    obtain ⟨kx, kb, kl, kown, kts, klk, kR, kW, kA, kst⟩ := hE
    intro H locs cells slots ls yl yR yS yc ys
    obtain ⟨q1, q2, q3⟩ := q
    obtain ⟨g1, g2⟩ := yR.ar q1 (by decide)
    refine W.dast kx kb g2 ((kW.arr (t := 4) rfl).1 _ _) (fun z => by cases z) (in_arr q2) rfl rfl d fun H1 i1 i2 i3 => ?_
    refine hf _ _ _ _ q3 H1 _ cells slots ls yl (yR.set i2 i3 rfl rfl (fun b hb => ag_wD hb) ?_) (yS.put i2 i3 g1) yc ys
    refine CellOk.arr q1 (by decide) ?_
    rw [i1, arrV_store]
    rw [updV_avD]
    rfl
  · exact q.elim
def o_aaload (k : Nat) (f : FT) : FT := fun L S h u => match S with
  | .int i :: .ref a :: S => (hs h a).1 = k ∧ vp_in i (hs h a).2 ∧ hR h a i.toNatClampNeg ≠ 0 ∧ f L (.ref (hR h a i.toNatClampNeg) :: S) h u
  | _ => False
theorem r_aaload {E : ME} {own : String} {cc : ByteArray} {nL : Nat} {rm : Room} (hE : EnvOk E own cc nL rm) {pc : Nat} {f : FT} {k t : Nat} {ty : FieldType} (hk : 25 ≤ k) (ht : ATY[t]? = some (k, ty)) (hty : ty.isReference = true) (d : decode cc pc = .ok (.aaload, 1)) (hf : At E (pc + 1) f) : At E pc (o_aaload k f) := by
  intro L S h u q
  unfold o_aaload at q
  split at q
  · rename_i i a S
    obtain ⟨p, l, e, R, s, m, args, below, meth, c, Qm, D, dA, A⟩ := E
    obtain ⟨kx, kb, kl, kown, kts, klk, kR, kW, kA, kst⟩ := hE
    intro H locs cells slots ls yl yR yS yc ys
    obtain ⟨q1, q2, q4, q3⟩ := q
    obtain ⟨-, g2⟩ := yR.ar q1 (by omega)
    have hv : av h k a i.toNatClampNeg = .ref (hR h a i.toNatClampNeg) := by
      unfold av; rw [if_neg (by omega), if_neg (by omega), if_neg (by omega)]; exact ro_ne q4
    exact W.aald (ty := ty) kx kb g2 ((kW.arr ht).1 _ _) hty (fun z => by cases z) (in_arr q2) (by rw [arrV_read _ _ (vin_lt q2), hv]) rfl rfl d (hf _ _ _ _ q3 H locs cells slots ls yl yR yS yc ys)
  · exact q.elim
def o_aastore (k ci N : Nat) (f : FT) : FT := fun L S h u => match S with
  | .ref v :: .int i :: .ref a :: S => (hs h a).1 = k ∧ vp_in i (hs h a).2 ∧ hs h v = (ci + 1, N) ∧ v ≠ 0 ∧ f L S (wR h a i.toNatClampNeg v) u
  | _ => False
theorem r_aastore {E : ME} {own : String} {cc : ByteArray} {nL : Nat} {rm : Room} (hE : EnvOk E own cc nL rm) {pc : Nat} {f : FT} {k t ci N : Nat} {C : String} {T : u_T} (hk : 25 ≤ k) (hci : ci + 1 < 20) (hc : cls[ci]? = some (C, T, N)) (ht : ATY[t]? = some (k, .object C)) (d : decode cc pc = .ok (.aastore, 1)) (hf : At E (pc + 1) f) : At E pc (o_aastore k ci N f) := by
  intro L S h u q
  unfold o_aastore at q
  split at q
  · rename_i v i a S
    obtain ⟨p, l, e, R, s, m, args, below, meth, c, Qm, D, dA, A⟩ := E
    obtain ⟨kx, kb, kl, kown, kts, klk, kR, kW, kA, kst⟩ := hE
    intro H locs cells slots ls yl yR yS yc ys
    obtain ⟨q1, q2, q4, q5, q3⟩ := q
    obtain ⟨g1, g2⟩ := yR.ar q1 (by omega)
    obtain ⟨-, qq, w1, w2, cellV, c1, c2, c3, c4⟩ := yR.ob q4 hci
    have hcls := (kW.1.1 ci _ hc).2
    obtain ⟨kA, comp, k1, k2, k3, -⟩ := (kW.arr ht).2
    have hcomp : comp = D.1 ci := Option.some.inj (k3.symm.trans hcls.1)
    subst hcomp
    obtain ⟨kC, hkC, -⟩ := hcls.2
    have h0 : ¬ i < 0 := fun z => q2 (Or.inl z)
    refine W.aast kx kb g2 (fun q h => by cases h) (fun h => by cases h) k1 k2 rfl hkC ⟨h0, by rw [arrV_size]; exact vin_lt q2⟩ c1 (fun q h => by rw [c3] at h; cases h) (by rw [c2]; exact hkC) (by rw [c2]; exact va_assign hcls) rfl rfl d fun H1 i1 i2 i3 => ?_
    refine hf _ _ _ _ q3 H1 _ cells slots ls yl (yR.set i2 i3 rfl rfl (fun b hb => ag_wR hb) ?_) (yS.put i2 i3 g1) yc ys
    refine CellOk.arr q1 (by omega) ?_
    rw [i1, arrV_store]
    rw [updV_avR q5 hk]
    rfl
  · exact q.elim
end BASE

section T1
/-! locals of the law -/
theorem lget_f {P : Nat × Value → Bool} {j : Nat} {v : Value} (hP : ∀ q : Nat × Value, q.1 = j → q.2 = v → P q = true) : ∀ {L : LV}, lget L j = some v → lget (L.filter P) j = some v
  | [], h => h
  | a :: L, h => by
    unfold lget at h ⊢
    by_cases z : a.1 = j
    · rw [List.find?_cons_of_pos (by simpa using z)] at h
      have hv : a.2 = v := Option.some.inj h
      rw [List.filter_cons_of_pos (hP a z hv), List.find?_cons_of_pos (by simpa using z)]
      exact h
    · rw [List.find?_cons_of_neg (by simpa using z)] at h
      have ih := lget_f hP (L := L) h
      unfold lget at ih
      by_cases y : P a = true
      · rw [List.filter_cons_of_pos y, List.find?_cons_of_neg (by simpa using z)]
        exact ih
      · rw [List.filter_cons_of_neg y]
        exact ih
theorem lget_o1 {L : LV} {i j : Nat} {v w : Value} (h : lget L j = some v) (hv : v.category ≠ 2) (ne : j ≠ i) : lget (lset1 L i w) j = some v := by
  unfold lset1
  have h2 := lget_f (P := fun q => !(q.1 == i) && !(q.1 + 1 == i && q.2.category == 2)) (fun q e1 e2 => by
    rw [e1, e2, beq_eq_false_iff_ne.mpr ne, beq_eq_false_iff_ne.mpr hv]; simp) h
  unfold lget at h2 ⊢
  rw [List.find?_cons_of_neg (by simpa using Ne.symm ne)]
  exact h2
theorem lget_o2 {L : LV} {i j : Nat} {v w : Value} (h : lget L j = some v) (hv : v.category ≠ 2) (ne : j ≠ i) (ne2 : j ≠ i + 1) : lget (lset2 L i w) j = some v := by
  unfold lset2
  have h2 := lget_f (P := fun q => !(q.1 == i) && (!(q.1 == i + 1) && !(q.1 + 1 == i && q.2.category == 2))) (fun q e1 e2 => by
    rw [e1, e2, beq_eq_false_iff_ne.mpr ne, beq_eq_false_iff_ne.mpr ne2, beq_eq_false_iff_ne.mpr hv]; simp) h
  unfold lget at h2 ⊢
  rw [List.find?_cons_of_neg (by simpa using Ne.symm ne)]
  exact h2
theorem lget_s1 {L : LV} {i : Nat} {v : Value} : lget (lset1 L i v) i = some v := by
  unfold lget lset1
  rw [List.find?_cons_of_pos (by simp)]; rfl
theorem lget_s2 {L : LV} {i : Nat} {v : Value} : lget (lset2 L i v) i = some v := by
  unfold lget lset2
  rw [List.find?_cons_of_pos (by simp)]; rfl
theorem ncr {b : Nat} : (Value.ref b).category ≠ 2 := show (1 : Nat) ≠ 2 by decide
theorem nci {b : Int32} : (Value.int b).category ≠ 2 := show (1 : Nat) ≠ 2 by decide
/-- the law's locals: script, planner, reference, the two arrays, the index -/
def Lk (L : LV) (b x m o i : Nat) : Prop := lget L 0 = some (.ref b) ∧ lget L 1 = some (.ref x) ∧ lget L 2 = some (.ref m) ∧ lget L 3 = some (.ref o) ∧ lget L 4 = some (.ref (o + 1)) ∧ lget L 5 = some (.int (nI i))
theorem Lk.s1 {L : LV} {b x m o i k : Nat} (h : Lk L b x m o i) (hk : 6 ≤ k) (v : Value) : Lk (lset1 L k v) b x m o i := ⟨lget_o1 h.1 ncr (by omega), lget_o1 h.2.1 ncr (by omega), lget_o1 h.2.2.1 ncr (by omega), lget_o1 h.2.2.2.1 ncr (by omega), lget_o1 h.2.2.2.2.1 ncr (by omega), lget_o1 h.2.2.2.2.2 nci (by omega)⟩
theorem Lk.s2 {L : LV} {b x m o i k : Nat} (h : Lk L b x m o i) (hk : 6 ≤ k) (v : Value) : Lk (lset2 L k v) b x m o i := ⟨lget_o2 h.1 ncr (by omega) (by omega), lget_o2 h.2.1 ncr (by omega) (by omega), lget_o2 h.2.2.1 ncr (by omega) (by omega), lget_o2 h.2.2.2.1 ncr (by omega) (by omega), lget_o2 h.2.2.2.2.1 ncr (by omega) (by omega), lget_o2 h.2.2.2.2.2 nci (by omega) (by omega)⟩
theorem Lk.inc {L : LV} {b x m o i : Nat} (h : Lk L b x m o i) : Lk (lset1 L 5 (.int (nI i + 5))) b x m o (i + 5) := ⟨lget_o1 h.1 ncr (by omega), lget_o1 h.2.1 ncr (by omega), lget_o1 h.2.2.1 ncr (by omega), lget_o1 h.2.2.2.1 ncr (by omega), lget_o1 h.2.2.2.2.1 ncr (by omega), lget_s1.trans (by rw [show nI i + 5 = nI (i + 5) from nI_add i 5])⟩
theorem al_of {i a : Nat} {f : FT} {L : LV} {S : List Value} {h : Hp} {u : Nat × Nat} (e : lget L i = some (.ref a)) (q : f L (.ref a :: S) h u) : o_aload i f L S h u := by unfold o_aload; rw [e]; exact q
theorem il_of {i : Nat} {a : Int32} {f : FT} {L : LV} {S : List Value} {h : Hp} {u : Nat × Nat} (e : lget L i = some (.int a)) (q : f L (.int a :: S) h u) : o_iload i f L S h u := by unfold o_iload; rw [e]; exact q
theorem ll_of {i : Nat} {a : Int64} {f : FT} {L : LV} {S : List Value} {h : Hp} {u : Nat × Nat} (e : lget L i = some (.long a)) (q : f L (.long a :: S) h u) : o_lload i f L S h u := by unfold o_lload; rw [e]; exact q
theorem fl_of {i : Nat} {a : UInt32} {f : FT} {L : LV} {S : List Value} {h : Hp} {u : Nat × Nat} (e : lget L i = some (.float a)) (q : f L (.float a :: S) h u) : o_fload i f L S h u := by unfold o_fload; rw [e]; exact q
theorem dl_of {i : Nat} {a : UInt64} {f : FT} {L : LV} {S : List Value} {h : Hp} {u : Nat × Nat} (e : lget L i = some (.double a)) (q : f L (.double a :: S) h u) : o_dload i f L S h u := by unfold o_dload; rw [e]; exact q
theorem inc_of {f : FT} {L : LV} {h : Hp} {u : Nat × Nat} {i : Nat} (e : lget L 5 = some (.int (nI i))) (q : f (lset1 L 5 (.int (nI i + 5))) [] h u) : o_iinc 5 5 f L [] h u := by unfold o_iinc; rw [e]; exact q
/-- an int of the script -/
theorem sarg {L : LV} {b x m o i k sL : Nat} {sx : Nat → Int32} (hk : Lk L b x m o i) (hi : i + 5 ≤ sL) (hs : sL ≤ 2560) {c : Int32} (hc : c = nI k) (k5 : k < 5) {f : FT} {S : List Value} {h : Hp} {u : Nat × Nat} (q : f L (.int (sx (i + k)) :: S) h u) : o_aload 0 (o_iload 5 (o_push (.int c) (o_iadd (o_sload b sL sx f)))) L S h u := by
  refine al_of hk.1 (il_of hk.2.2.2.2.2 ?_)
  have e : nI i + c = nI (i + k) := by rw [hc, nI_add]
  refine ⟨rfl, ?_, ?_⟩
  · rw [e]
    exact nI_in (by omega) (by omega)
  · rw [e, nI_clamp (by omega)]
    exact q
/-- what a call of the law starts from, and what is left to do behind it -/
def LJ (l : Launch) (sb sL : Nat) (K : Nat → FT) (x m o i : Nat) (B D : Int) (L : LV) (h : Hp) (u : Nat × Nat) : Prop := l.stackTraces = false ∧ Lk L sb x m o i ∧ RJ h x m o B D ∧ (B + 19980 ≤ 16000000 ∧ D + 180 ≤ 1000000) ∧ (i + 5 ≤ sL ∧ sL ≤ 2560) ∧ (u.1 + 5 ≤ 603072 ∧ u.2 + 30 ≤ 7178346) ∧ ∀ L' h' u', Lk L' sb x m o (i + 5) → RJ h' x m o (B + 19980) (D + 180) → u'.1 ≤ u.1 + 5 → u'.2 ≤ u.2 + 30 → K 28 L' [] h' u'
theorem c_thrown {l : Launch} (hst : l.stackTraces = false) {Q : Option Value → Hp → Prop} {X : String → Hp → Prop} {h : Hp} {m : Nat} (hM : MdS h m) (q : Q (some (.int (hI h m 0))) h) : CX9_thrown l [.ref m] h Q X := by
  refine eX9_thrown hst (Nat.le_of_ble_eq_true rfl) (fun K => ?_)
  exact ⟨hM.1, Nat.zero_le _, Nat.zero_le _, q⟩
theorem rmZ9 {a b M : Nat} (h : a ≤ M) (hb : b = 0) : a + b ≤ M := by omega
theorem rmA {a b c M : Nat} (h : a + c ≤ M) (hb : b ≤ c) : a + b ≤ M := by omega
theorem lcmp_self (v : Int64) : lg_cmp v v = 0 := by
  unfold lg_cmp
  rw [if_neg Int64.lt_irrefl, if_pos rfl]
end T1

section T1
theorem li (n : Nat) [NeZero n] : (OfNat.ofNat n : Int32) = nI n := rfl
def MdOk (h : Hp) (m : Nat) : Prop := hs h m = (10, 21) ∧ hR h m 1 = m + 1 ∧ hs h (m + 1) = (20, 359) ∧ m ≠ 0
theorem c_of {l : Launch} (hst : l.stackTraces = false) {h : Hp} {m p w : Nat} {Q : Option Value → Hp → Prop} {X : String → Hp → Prop} (hM : MdOk h m) (hw : 7 + p * 23 + w < 359) (q : Q (some (.int (hI h (m + 1) (7 + p * 23 + w)))) h) : CX9_of l [.ref m, .int (nI p), .int (nI w)] h Q X := by
  refine eX9_of hst (by decide) (fun K => ?_)
  obtain ⟨m1, m2, m3, m4⟩ := hM
  have e : (7 : Int32) + nI p * 23 + nI w = nI (7 + p * 23 + w) := by
    rw [show (7 : Int32) = nI 7 from rfl, show (23 : Int32) = nI 23 from rfl, pk_mul, nI_add, nI_add]
  simp only [fX9_of_0, o_aload, o_gR, o_push, o_iload, o_imul, o_iadd, o_iaload, o_iret, lv_args, lget, List.find?]
  trace_state
  sorry
theorem c_of2 {l : Launch} (hst : l.stackTraces = false) {h : Hp} {m p w : Nat} {Q : Option Value → Hp → Prop} {X : String → Hp → Prop} (hM : MdOk h m) (hw : 7 + p * 23 + w < 359) (q : Q (some (.int (hI h (m + 1) (7 + p * 23 + w)))) h) : CX9_of l [.ref m, .int (nI p), .int (nI w)] h Q X := by
  refine eX9_of hst (by decide) (fun K => ?_)
  obtain ⟨m1, m2, m3, m4⟩ := hM
  refine And.intro m1 ?_
  refine And.intro (by rw [m2]; omega) ?_
  rw [m2]
  refine And.intro (by rw [m3]) ?_
  trace_state
  sorry
end T1

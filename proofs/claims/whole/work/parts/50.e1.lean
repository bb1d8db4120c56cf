section E1
theorem Wv.nrm {E : List (Nat × Int32)} {h0 H : Hp} {w : Nat} {σ ρ : Nat → Nat} {N : Nat → Int32} {c0 c1 c2 c3 c4 : Nat} (_ : Wv E h0 H w σ ρ N c0 c1 c2 c3 c4) (nn : ∀ k, k < 36 → σ k = ρ k) : (∀ i, i < 12 → σ i = ρ i) ∧ (∀ i, i < 12 → σ (12 + i) = ρ (12 + i)) ∧ (∀ i, i < 12 → σ (24 + i) = ρ (24 + i)) := ⟨fun i hi => nn i (by omega), fun i hi => nn (12 + i) (by omega), fun i hi => nn (24 + i) (by omega)⟩
theorem d_makeRequest {l : Launch} (hst : l.stackTraces = false) {Q : Option Value → Hp → Prop} {X : String → Hp → Prop} {h0 H : Hp} {w : Nat} {σ ρ : Nat → Nat} {N : Nat → Int32} {c0 c1 c2 c3 c4 : Nat} (W : Wv [] h0 H w σ ρ N c0 c1 c2 c3 c4) (nn : ∀ k, k < 36 → σ k = ρ k) {p : Nat} {P v : Int32} (hP : P = nI p) (hp : p < c0) (hs : Sk N c0) (hv : 0 ≤ v.toInt) (hfull : c2 < 12 ∨ (r_serve N p v).1 ≤ 0) (q : ∀ H' c2', Wv [] h0 H' w σ ρ (r_req N p v c2) c0 c1 c2' c3 c4 → Q (some (.int (v - (r_serve N p v).1))) H') : CX7_makeRequest l [.ref w, .int P, .int v] H Q X := by
  subst hP
  have p8 := W.p8 hp
  have k0 := W.1.1.2
  have k1 := W.1.2.1.2
  have k2 := W.1.2.2.1.2
  have k3 := W.1.2.2.2.1.2
  obtain ⟨n1, n2, n3, n4⟩ := serve_num W.1 hs hp hv
  have hi := i32_hi v
  have esv : (v - (r_serve N p v).1).toInt = v.toInt - (r_serve N p v).1.toInt := isub_i (by omega) (by omega)
  refine eX7_makeRequest hst (Nat.le_of_ble_eq_true rfl) (fun K => ?_)
  (repeat (refine And.intro (by first | assumption | rfl | exact Nat.le_of_ble_eq_true rfl | exact Nat.zero_le _ | decide) ?_)); refine And.intro (W.k.s_w) ?_; (repeat (refine And.intro (by first | assumption | rfl | exact Nat.le_of_ble_eq_true rfl | exact Nat.zero_le _ | decide) ?_))
  refine d_serve hst W hp rfl (fun H1 W1 => ?_)
  refine gParts W1.k ?_
  refine aPart W1.k rfl p8 ?_
  refine iRqd W1 hp ?_
  refine wRqd W1 hp (fun H2 W2 => ?_)
  refine gParts W2.k ?_
  refine aPart W2.k rfl p8 ?_
  refine iSrv W2 hp ?_
  refine wSrv W2 hp (fun H3 W3 => ?_)
  have e3 : upd (upd (r_serve N p v).2 (7 + p * 23 + 21) ((r_serve N p v).2 (7 + p * 23 + 21) + v)) (7 + p * 23 + 22) (upd (r_serve N p v).2 (7 + p * 23 + 21) ((r_serve N p v).2 (7 + p * 23 + 21) + v) (7 + p * 23 + 22) + (v - (r_serve N p v).1)) = r_req1 N p v := rfl
  rw [e3] at W3
  unfold r_req at q
  generalize hN3 : r_req1 N p v = N3 at *
  have fin : ∀ (M : Nat → Int32) (c : Nat) (H4 : Hp) (L : LV), lget L 0 = some (.ref w) → lget L 3 = some (.int (v - (r_serve N p v).1)) → Wv [] h0 H4 w σ ρ M c0 c1 c c3 c4 → (∀ H', Wv [] h0 H' w σ ρ (upd M 6 (M 6 + 1)) c0 c1 c c3 c4 → Q (some (.int (v - (r_serve N p v).1))) H') → ∀ u : Nat × Nat, u.1 ≤ rmX7_makeRequest.cells → u.2 ≤ rmX7_makeRequest.slots → fX7_makeRequest_110 l Q X K L [] H4 u := by
    intro M c H4 L l0 l3 W4 q4 u u1 u2
    unfold fX7_makeRequest_110 o_aload
    rw [l0]
    refine iRQ W4 ?_
    refine wRQ W4 (fun H5 W5 => ?_)
    unfold o_iload
    rw [l3]
    exact ⟨u1, u2, q4 H5 W5⟩
  dsimp only at q
  refine And.intro (fun hc => ?_) (fun hc => ?_)
  · have hz : (r_serve N p v).1 ≤ 0 := by
      have := Int32.le_iff_toInt_le.mp hc
      exact i_le0.mpr (by omega)
    rw [if_pos hz] at q
    exact fin N3 c2 H3 _ rfl rfl W3 (fun H' => q H' c2) _ (Nat.le_of_ble_eq_true rfl) (Nat.le_of_ble_eq_true rfl)
  · have hz : ¬ (r_serve N p v).1 ≤ 0 := fun z => hc (Int32.le_iff_toInt_le.mpr (by have := i_le0.mp z; omega))
    have h12 : c2 < 12 := hfull.resolve_right hz
    rw [if_neg hz] at q
    refine iWC W3 ?_
    rw [W3.1.2.2.1.1]
    refine And.intro (fun hd => ?_) (fun hd => ?_)
    · exact absurd (show nI 12 ≤ nI c2 from hd) (nI_ge h12 (by decide))
    · refine gWaits W3.k ?_
      refine iWC W3 ?_
      rw [W3.1.2.2.1.1]
      refine aWait W3.k rfl h12 ?_
      rw [nn c2 (by omega)]
      have W30 : Wk h0 H3 w σ ρ N3 (vld N3 c0 c1 c2 c3 c4) := W3.k
      refine iRQ W3 ?_
      refine xWait W30 h12 (k := 0) (by decide) (fun H4 W4 => ?_)
      refine xWait W4 h12 (k := 1) (by decide) (fun H5 W5 => ?_)
      refine xWait W5 h12 (k := 2) (by decide) (fun H6 W6 => ?_)
      refine xWait W6 h12 (k := 3) (by decide) (fun H7 W7 => ?_)
      refine iDayk W7 (Or.inl (Or.inl (Or.inl (Or.inl (Or.inl (by decide)))))) ?_
      refine xWait W7 h12 (k := 4) (by decide) (fun H8 W8 => ?_)
      refine iWCk W8 (Or.inl (Or.inl (Or.inl (Or.inl (Or.inl (Or.inl (by decide))))))) ?_
      refine xWC W8 (fun H9 W9 => ?_)
      have e9 : upd (upd (upd (upd (upd (upd N3 (227 + c2 * 5 + 0) (N3 6)) (227 + c2 * 5 + 1) (nI p)) (227 + c2 * 5 + 2) v) (227 + c2 * 5 + 3) (v - (v - (r_serve N p v).1))) (227 + c2 * 5 + 4) (upd (upd (upd (upd N3 (227 + c2 * 5 + 0) (N3 6)) (227 + c2 * 5 + 1) (nI p)) (227 + c2 * 5 + 2) v) (227 + c2 * 5 + 3) (v - (v - (r_serve N p v).1)) 5)) 2 (upd (upd (upd (upd (upd N3 (227 + c2 * 5 + 0) (N3 6)) (227 + c2 * 5 + 1) (nI p)) (227 + c2 * 5 + 2) v) (227 + c2 * 5 + 3) (v - (v - (r_serve N p v).1))) (227 + c2 * 5 + 4) (upd (upd (upd (upd N3 (227 + c2 * 5 + 0) (N3 6)) (227 + c2 * 5 + 1) (nI p)) (227 + c2 * 5 + 2) v) (227 + c2 * 5 + 3) (v - (v - (r_serve N p v).1)) 5) 2 + 1) = upd (r_wait N3 c2 (nI p) v (r_serve N p v).1) 2 (nI c2 + 1) := by
        unfold r_wait
        rw [sub_sub_i]
        have a5 : upd (upd (upd (upd N3 (227 + c2 * 5 + 0) (N3 6)) (227 + c2 * 5 + 1) (nI p)) (227 + c2 * 5 + 2) v) (227 + c2 * 5 + 3) (r_serve N p v).1 5 = N3 5 := by
          rw [pk_un (by omega), pk_un (by omega), pk_un (by omega), pk_un (by omega)]
        have a2 : upd (upd (upd (upd (upd N3 (227 + c2 * 5 + 0) (N3 6)) (227 + c2 * 5 + 1) (nI p)) (227 + c2 * 5 + 2) v) (227 + c2 * 5 + 3) (r_serve N p v).1) (227 + c2 * 5 + 4) (N3 5) 2 = nI c2 := by
          rw [pk_un (by omega), pk_un (by omega), pk_un (by omega), pk_un (by omega), pk_un (by omega)]
          exact W3.1.2.2.1.1
        rw [a5, a2]
        rfl
      rw [e9] at W9
      have wf9 : WFc (upd (r_wait N3 c2 (nI p) v (r_serve N p v).1) 2 (nI c2 + 1)) c0 c1 (c2 + 1) c3 c4 := by
        have w0 := W3.1
        have lo : ∀ j, j ≠ 2 → (j < 227 + c2 * 5 ∨ 227 + c2 * 5 + 5 ≤ j) → upd (r_wait N3 c2 (nI p) v (r_serve N p v).1) 2 (nI c2 + 1) j = N3 j := fun j h1 h2 => by
          rw [pk_un h1, r_wait_o h2]
        obtain ⟨⟨b0, _⟩, ⟨b1, _⟩, ⟨b2, _⟩, ⟨b3, _⟩, ⟨b4, x4⟩, hp', hk', hw', hr', ho'⟩ := w0
        refine ⟨⟨by rw [lo 0 (by decide) (by omega)]; exact b0, k0⟩, ⟨by rw [lo 1 (by decide) (by omega)]; exact b1, k1⟩, ⟨by rw [pk_us]; exact nI_1 c2, h12⟩, ⟨by rw [lo 3 (by decide) (by omega)]; exact b3, k3⟩, ⟨by rw [lo 4 (by decide) (by omega)]; exact b4, x4⟩, fun r hr => ?_, fun r hr => ?_, fun i hi => ?_, fun i hi => ?_, fun i hi => ?_⟩
        · obtain ⟨c, y1, y2, y3⟩ := hp' r hr
          refine ⟨c, y1, by rw [lo _ (by omega) (by omega)]; exact y2, fun k hk => ?_⟩
          obtain ⟨s, z1, z2⟩ := y3 k hk
          exact ⟨s, z1, by rw [lo _ (by omega) (by omega)]; exact z2⟩
        · obtain ⟨c, y1, y2, y3⟩ := hk' r hr
          refine ⟨c, y1, by rw [lo _ (by omega) (by omega)]; exact y2, fun k hk => ?_⟩
          obtain ⟨s, z1, z2⟩ := y3 k hk
          exact ⟨s, z1, by rw [lo _ (by omega) (by omega)]; exact z2⟩
        · by_cases z : i = c2
          · subst z
            refine ⟨p, hp, ?_⟩
            rw [pk_un (by omega)]
            unfold r_wait
            rw [pk_un (by omega), pk_un (by omega), pk_un (by omega), pk_us]
          · obtain ⟨s, z1, z2⟩ := hw' i (by omega)
            exact ⟨s, z1, by rw [lo _ (by omega) (by omega)]; exact z2⟩
        · obtain ⟨s, z1, z2⟩ := hr' i hi
          exact ⟨s, z1, by rw [lo _ (by omega) (by omega)]; exact z2⟩
        · obtain ⟨s, z1, z2⟩ := ho' i hi
          exact ⟨s, z1, by rw [lo _ (by omega) (by omega)]; exact z2⟩
      have V9 : Wv [] h0 H9 w σ ρ (upd (r_wait N3 c2 (nI p) v (r_serve N p v).1) 2 (nI c2 + 1)) c0 c1 (c2 + 1) c3 c4 := by
        refine ⟨wf9, W9.to (fun j hj hv => ⟨?_, rfl⟩), fun q hq => absurd hq List.not_mem_nil⟩
        rcases hv.add2 k0 k1 h12 k3 (fun i h1 h2 => by
          rw [pk_un (by omega), r_wait_o (by omega)]) with h | h | h | h | h | h
        · exact Or.inl (Or.inl (Or.inl (Or.inl (Or.inl (Or.inl h)))))
        · exact Or.inl (Or.inl (Or.inl (Or.inl (Or.inl (Or.inr h)))))
        · exact Or.inl (Or.inl (Or.inl (Or.inl (Or.inr h))))
        · exact Or.inl (Or.inl (Or.inl (Or.inr h)))
        · exact Or.inl (Or.inl (Or.inr h))
        · exact Or.inl (Or.inr h)
      exact fin _ (c2 + 1) H9 _ rfl rfl V9 (fun H' => q H' (c2 + 1)) _ (Nat.le_of_ble_eq_true rfl) (Nat.le_of_ble_eq_true rfl)
theorem d_obstacleToSending {l : Launch} (hst : l.stackTraces = false) {Q : Option Value → Hp → Prop} {X : String → Hp → Prop} {h0 H : Hp} {w : Nat} {σ ρ : Nat → Nat} {N : Nat → Int32} {c0 c1 c2 c3 c4 : Nat} (W : Wv [] h0 H w σ ρ N c0 c1 c2 c3 c4) {p : Nat} {P v : Int32} (hP : P = nI p) (hp : p < c0) (q : Q (some (.int (if N (7 + p * 23 + 1) < v then 2 else if c3 < 12 then 0 else 1))) H) : CX7_obstacleToSending l [.ref w, .int P, .int v] H Q X := by
  subst hP
  refine eX7_obstacleToSending hst (Nat.le_of_ble_eq_true rfl) (fun K => ?_)
  refine gParts W.k ?_
  refine aPart W.k rfl (W.p8 hp) ?_
  refine iPart W hp (k := 1) (by decide) ?_
  refine And.intro (fun hc => ?_) (fun hc => ?_)
  · rw [if_neg (Int32.not_lt.mpr hc)] at q
    refine gReps W.k ?_
    (repeat (refine And.intro (by first | assumption | rfl | exact Nat.le_of_ble_eq_true rfl | exact Nat.zero_le _ | decide) ?_)); refine And.intro (W.k.s_reps.2.1) ?_; (repeat (refine And.intro (by first | assumption | rfl | exact Nat.le_of_ble_eq_true rfl | exact Nat.zero_le _ | decide) ?_))
    refine d_isFullRep hst W ?_
    by_cases h12 : c3 < 12
    · rw [if_pos h12] at q ⊢
      refine And.intro (fun _ => ?_) (fun z => absurd rfl z)
      repeat (refine And.intro (by first | assumption | rfl | exact Nat.le_of_ble_eq_true rfl | exact Nat.zero_le _ | decide) ?_)
      exact q
    · rw [if_neg h12] at q ⊢
      refine And.intro (fun z => absurd z (by decide)) (fun _ => ?_)
      repeat (refine And.intro (by first | assumption | rfl | exact Nat.le_of_ble_eq_true rfl | exact Nat.zero_le _ | decide) ?_)
      exact q
  · rw [if_pos (Int32.not_le.mp hc)] at q
    repeat (refine And.intro (by first | assumption | rfl | exact Nat.le_of_ble_eq_true rfl | exact Nat.zero_le _ | decide) ?_)
    exact q
/-- pieces are sent to repair -/
def r_send (N : Nat → Int32) (p : Nat) (v : Int32) (c : Nat) : Nat → Int32 :=
  let N1 := upd N (7 + p * 23 + 1) (N (7 + p * 23 + 1) + -v)
  let N2 := upd N1 (7 + p * 23 + 17) (N1 (7 + p * 23 + 17) + v)
  r_start N2 287 3 c (nI p) v (N 5 + N (7 + p * 23 + 5))
theorem d_sendBroken {l : Launch} (hst : l.stackTraces = false) {Q : Option Value → Hp → Prop} {X : String → Hp → Prop} {h0 H : Hp} {w : Nat} {σ ρ : Nat → Nat} {N : Nat → Int32} {c0 c1 c2 c3 c4 : Nat} (W : Wv [] h0 H w σ ρ N c0 c1 c2 c3 c4) (nn : ∀ k, k < 36 → σ k = ρ k) {p : Nat} {P v : Int32} (hP : P = nI p) (hp : p < c0) (hc : c3 < 12) (q : ∀ H', Wv [] h0 H' w σ ρ (r_send N p v c3) c0 c1 c2 (c3 + 1) c4 → Q (some (.int (N 5 + N (7 + p * 23 + 5)))) H') : CX7_sendBroken l [.ref w, .int P, .int v] H Q X := by
  subst hP
  refine eX7_sendBroken hst (Nat.le_of_ble_eq_true rfl) (fun K => ?_)
  refine gParts W.k ?_
  refine aPart W.k rfl (W.p8 hp) ?_
  refine iDay W ?_
  refine iPart W hp (k := 5) (by decide) ?_
  refine iPart W hp (k := 1) (by decide) ?_
  refine wPart W hp (k := 1) (by decide) (fun H1 W1 => ?_)
  refine gMovs W1.k (W.p8 hp) ?_
  refine iMov W1 hp (k := 4) (by decide) rfl ?_
  refine wMov W1 hp (k := 4) (by decide) rfl (fun H2 W2 => ?_)
  refine gReps W2.k ?_
  (repeat (refine And.intro (by first | assumption | rfl | exact Nat.le_of_ble_eq_true rfl | exact Nat.zero_le _ | decide) ?_)); refine And.intro (W2.k.s_reps.2.1) ?_; (repeat (refine And.intro (by first | assumption | rfl | exact Nat.le_of_ble_eq_true rfl | exact Nat.zero_le _ | decide) ?_))
  refine d_addLastRep hst W2 (W.nrm nn).2.1 hp rfl hc (fun H3 W3 => ?_)
  repeat (refine And.intro (by first | assumption | rfl | exact Nat.le_of_ble_eq_true rfl | exact Nat.zero_le _ | decide) ?_)
  refine q H3 ?_
  unfold r_send
  rw [Int32.sub_eq_add_neg] at W3
  exact W3
end E1

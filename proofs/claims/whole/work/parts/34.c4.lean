section C4
theorem Wv.p8 {E : List (Nat × Int32)} {h0 H : Hp} {w : Nat} {σ ρ : Nat → Nat} {N : Nat → Int32} {c0 c1 c2 c3 c4 : Nat} (W : Wv E h0 H w σ ρ N c0 c1 c2 c3 c4) {p : Nat} (hp : p < c0) : p < 8 := Nat.lt_of_lt_of_le hp W.1.1.2
theorem d_issue {l : Launch} (hst : l.stackTraces = false) {Q : Option Value → Hp → Prop} {X : String → Hp → Prop} {E : List (Nat × Int32)} {h0 H : Hp} {w : Nat} {σ ρ : Nat → Nat} {N : Nat → Int32} {c0 c1 c2 c3 c4 : Nat} (W : Wv E h0 H w σ ρ N c0 c1 c2 c3 c4) {p : Nat} (hp : p < c0) {v : Int32} (q : ∀ H', Wv E h0 H' w σ ρ (r_issue N p v) c0 c1 c2 c3 c4 → Q (some (.int (lss (N (7 + p * 23 + 0)) v))) H') : CX3_issue l [.ref (w + 32 + 3 * p), .int v] H Q X := by
  refine eX3_issue hst (Nat.le_of_ble_eq_true rfl) (fun K => ?_)
  have fin : ∀ (L : LV) (x : Int32), lget L 0 = some (.ref (w + 32 + 3 * p)) → x = lss (N (7 + p * 23 + 0)) v → fX3_issue_16 l Q X K [(0, .ref (w + 32 + 3 * p)), (1, .int v)] [.int x] H (0, 0) := by
    intro L x _ hx
    refine iPart W hp (k := 0) (by decide) ?_
    refine wPart W hp (k := 0) (by decide) (fun H1 W1 => ?_)
    refine gMovs W1.k (W.p8 hp) ?_
    refine iMov W1 hp (k := 7) (by decide) rfl ?_
    refine wMov W1 hp (k := 7) (by decide) rfl (fun H2 W2 => ?_)
    repeat (refine And.intro (by first | assumption | rfl | exact Nat.le_of_ble_eq_true rfl | exact Nat.zero_le _ | decide) ?_)
    rw [hx]
    refine q H2 ?_
    have e : upd (upd N (7 + p * 23 + 0) (N (7 + p * 23 + 0) - x)) (7 + p * 23 + (13 + 7)) (upd N (7 + p * 23 + 0) (N (7 + p * 23 + 0) - x) (7 + p * 23 + (13 + 7)) + x) = r_issue N p v := by
      subst hx
      unfold r_issue
      rw [Int32.sub_eq_add_neg]
    rw [e] at W2
    exact W2
  refine iPart W hp (k := 0) (by decide) ?_
  refine And.intro (fun hc => ?_) (fun hc => ?_)
  · exact fin [(0, .ref (w + 32 + 3 * p))] v rfl (by unfold lss; rw [if_neg (Int32.not_lt.mpr hc)])
  · refine iPart W hp (k := 0) (by decide) ?_
    exact fin [(0, .ref (w + 32 + 3 * p))] _ rfl (by unfold lss; rw [if_pos (Int32.not_le.mp hc)])
theorem r_issue_wv {E : List (Nat × Int32)} {h0 H : Hp} {w : Nat} {σ ρ : Nat → Nat} {N : Nat → Int32} {c0 c1 c2 c3 c4 : Nat} (W : Wv E h0 H w σ ρ N c0 c1 c2 c3 c4) {p : Nat} (hp : p < c0) {v : Int32} : WFc (r_issue N p v) c0 c1 c2 c3 c4 := W.1.agree (fun _ hj => r_issue_s (W.p8 hp) hj)
theorem d_serve {l : Launch} (hst : l.stackTraces = false) {Q : Option Value → Hp → Prop} {X : String → Hp → Prop} {E : List (Nat × Int32)} {h0 H : Hp} {w : Nat} {σ ρ : Nat → Nat} {N : Nat → Int32} {c0 c1 c2 c3 c4 : Nat} (W : Wv E h0 H w σ ρ N c0 c1 c2 c3 c4) {p : Nat} (hp : p < c0) {P v : Int32} (hP : P = nI p) (q : ∀ H', Wv E h0 H' w σ ρ (r_serve N p v).2 c0 c1 c2 c3 c4 → Q (some (.int (v - (r_serve N p v).1))) H') : CX7_serve l [.ref w, .int P, .int v] H Q X := by
  subst hP
  obtain ⟨c, c4', hc, hsub⟩ := W.1.2.2.2.2.2.1 p hp
  have p8 := W.p8 hp
  have h1 : c0 ≤ 8 := W.1.1.2
  refine eX7_serve hst (Nat.le_of_ble_eq_true rfl) (fun K hK => ?_)
  refine gParts W.k ?_
  refine aPart W.k rfl p8 ?_
  (repeat (refine And.intro (by first | assumption | rfl | exact Nat.le_of_ble_eq_true rfl | exact Nat.zero_le _ | decide) ?_)); refine And.intro ((W.k.s_part p p8).2.1) ?_; (repeat (refine And.intro (by first | assumption | rfl | exact Nat.le_of_ble_eq_true rfl | exact Nat.zero_le _ | decide) ?_))
  refine d_issue hst W hp (fun H1 W1 => ?_)
  have hk : ∀ (n i : Nat) (r : Int32 × (Nat → Int32)) (H' : Hp), i + n = c → r = r_subs p i (r_issue N p v) (v - lss (N (7 + p * 23 + 0)) v) → Wv E h0 H' w σ ρ r.2 c0 c1 c2 c3 c4 → K 19 [(5, .int (nI i)), (4, .int r.1), (3, .ref (w + 32 + 3 * p)), (0, .ref w), (1, .int (nI p)), (2, .int v)] [] H' (0, 0) := by
    intro n
    induction n with
    | zero =>
      intro i r H' hi hr W'
      have e8 : r.2 (7 + p * 23 + 8) = nI c := by
        rw [hr, r_subs_o i (by omega) (by omega), r_issue_o (by omega) (by omega), hc]
      refine hK _ _ _ _ ?_
      refine iSC W' hp ?_
      rw [e8]
      refine And.intro (fun hcc => ?_) (fun hcc => ?_)
      · repeat (refine And.intro (by first | assumption | rfl | exact Nat.le_of_ble_eq_true rfl | exact Nat.zero_le _ | decide) ?_)
        unfold r_serve at q
        rw [hc, nI_clamp (by omega), show c = i by omega, ← hr] at q
        exact q H' W'
      · exact absurd (nI_le (by omega) (by omega)) hcc
    | succ n ih =>
      intro i r H' hi hr W'
      have e8 : r.2 (7 + p * 23 + 8) = nI c := by
        rw [hr, r_subs_o i (by omega) (by omega), r_issue_o (by omega) (by omega), hc]
      obtain ⟨s, hs8, hse⟩ := hsub i (by omega)
      have es : r.2 (7 + p * 23 + (9 + i)) = nI s := by
        rw [hr, r_subs_o i (by omega) (by omega), r_issue_o (by omega) (by omega), hse]
      refine hK _ _ _ _ ?_
      refine iSC W' hp ?_
      rw [e8]
      refine And.intro (fun hcc => ?_) (fun hcc => ?_)
      · exact absurd hcc (nI_ge (by omega) (by omega))
      · refine gParts W'.k ?_
        refine gSubs W'.k p8 ?_
        refine iSub W' hp e8 c4' (show i < c by omega) rfl ?_
        rw [es]
        refine aPart W'.k rfl (show s < 8 by omega) ?_
        (repeat (refine And.intro (by first | assumption | rfl | exact Nat.le_of_ble_eq_true rfl | exact Nat.zero_le _ | decide) ?_)); refine And.intro ((W'.k.s_part s (show s < 8 by omega)).2.1) ?_; (repeat (refine And.intro (by first | assumption | rfl | exact Nat.le_of_ble_eq_true rfl | exact Nat.zero_le _ | decide) ?_))
        refine d_issue hst W' hs8 (fun H2 W2 => ?_)
        have := ih (i + 1) (r.1 - lss (r.2 (7 + s * 23 + 0)) r.1, r_issue r.2 s r.1) H2 (by omega) (by
          show _ = (_, _)
          rw [← hr, es, nI_clamp (by omega)]) W2
        rw [← nI_1 i] at this
        exact this
  exact hk c 0 (_, _) H1 (by omega) rfl W1
end C4

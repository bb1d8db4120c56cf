section D6
theorem fu_no {N : Nat → Int32} {b k i c j : Nat} (hb : b = 287 ∧ k = 3 ∨ b = 323 ∧ k = 4) (hj : ¬ off j) : r_fu N b k i c j = N j := by
  unfold off at hj
  unfold r_fu
  rw [if_neg (by omega), if_neg (by omega)]
theorem drop_no {b k : Nat} {d : Int32} (hb : b = 287 ∧ k = 3 ∨ b = 323 ∧ k = 4) : ∀ (n i : Nat) {N : Nat → Int32} {j : Nat}, ¬ off j → r_drop b k d n i N j = N j
  | 0, _, _, _, _ => rfl
  | n + 1, i, N, j, hj => by
    rw [r_drop_s]
    split
    · rw [drop_no hb n i hj, fu_no hb hj]
    · rw [drop_no hb n (i + 1) hj]
theorem fu_off {A B : Nat → Int32} {b k i c j : Nat} (hb : b = 287 ∧ k = 3 ∨ b = 323 ∧ k = 4) (h : ∀ j, off j → A j = B j) (hj : off j) : r_fu A b k i c j = r_fu B b k i c j := by
  unfold r_fu
  split
  · exact h _ (by unfold off; omega)
  · split
    · rfl
    · exact h j hj
theorem drop_off {b k : Nat} {d : Int32} (hb : b = 287 ∧ k = 3 ∨ b = 323 ∧ k = 4) : ∀ (n i : Nat) {A B : Nat → Int32}, (∀ j, off j → A j = B j) → ∀ j, off j → r_drop b k d n i A j = r_drop b k d n i B j
  | 0, _, _, _, h, j, hj => h j hj
  | n + 1, i, A, B, h, j, hj => by
    rw [r_drop_s, r_drop_s, h (b + i * 3 + 2) (by unfold off; omega)]
    split
    · exact drop_off hb n i (fun j hj => fu_off hb h hj) j hj
    · exact drop_off hb n (i + 1) h j hj
/-- a repair ends, but for the stock -/
def r_rpC (N : Nat → Int32) (p : Nat) (v : Int32) : Nat → Int32 :=
  upd (upd (upd N (7 + p * 23 + 7) (N (7 + p * 23 + 7) + v * N (7 + p * 23 + 6) - 100 * s_rp N p v)) (7 + p * 23 + 18) (N (7 + p * 23 + 18) + s_rp N p v)) (7 + p * 23 + 19) (N (7 + p * 23 + 19) + (v - s_rp N p v))
theorem rpC_stk (N : Nat → Int32) (p : Nat) (v : Int32) : upd (r_rpC N p v) (7 + p * 23 + 0) (r_rpC N p v (7 + p * 23 + 0) + s_rp N p v) = r_rp N p v := by
  funext j
  unfold r_rpC r_rp
  by_cases h0 : j = 7 + p * 23 + 0
  · subst h0
    rw [pk_us, pk_un (by omega), pk_un (by omega), pk_un (by omega), pk_un (by omega), pk_un (by omega), pk_us]
  · rw [pk_un h0]
    by_cases h9 : j = 7 + p * 23 + 19
    · subst h9
      rw [pk_us, pk_us, pk_un (by omega), pk_un (by omega), pk_un (by omega)]
    · rw [pk_un h9, pk_un h9]
      by_cases h8 : j = 7 + p * 23 + 18
      · subst h8
        rw [pk_us, pk_us, pk_un (by omega), pk_un (by omega)]
      · rw [pk_un h8, pk_un h8, pk_un h0]
theorem rpC_0 (N : Nat → Int32) (p : Nat) (v : Int32) (h : s_rp N p v = 0) : r_rpC N p v = r_rp N p v := by
  rw [← rpC_stk, h, Int32.add_zero]
  funext j
  by_cases e : j = 7 + p * 23 + 0
  · subst e; rw [pk_us]
  · rw [pk_un e]
theorem d_endRepair {l : Launch} (hst : l.stackTraces = false) {Q : Option Value → Hp → Prop} {X : String → Hp → Prop} {E : List (Nat × Int32)} {h0 H : Hp} {w : Nat} {σ ρ : Nat → Nat} {N : Nat → Int32} {c0 c1 c2 c3 c4 : Nat} (W : Wv E h0 H w σ ρ N c0 c1 c2 c3 c4) {p : Nat} (hp : p < c0) {v : Int32} (q : ∀ H', Wv E h0 H' w σ ρ (r_rpC N p v) c0 c1 c2 c3 c4 → Q (some (.int (s_rp N p v))) H') : CX3_endRepair l [.ref (w + 32 + 3 * p), .int v] H Q X := by
  refine eX3_endRepair hst (Nat.le_of_ble_eq_true rfl) (fun K => ?_)
  refine iPart W hp (k := 7) (by decide) ?_
  refine iPart W hp (k := 6) (by decide) ?_
  refine wPart W hp (k := 7) (by decide) (fun H1 W1 => ?_)
  refine iPart W1 hp (k := 7) (by decide) ?_
  rw [pk_us]
  repeat (refine And.intro (by first | assumption | rfl | exact Nat.le_of_ble_eq_true rfl | exact Nat.zero_le _ | decide) ?_)
  have fin : ∀ x : Int32, x = s_rp N p v → fX3_endRepair_30 l Q X K [(2, .int x), (0, .ref (w + 32 + 3 * p)), (1, .int v)] [] H1 (0, 0) := by
    intro x hx
    refine iPart W1 hp (k := 7) (by decide) ?_
    refine wPart W1 hp (k := 7) (by decide) (fun H2 W2 => ?_)
    refine gMovs W2.k (W.p8 hp) ?_
    refine iMov W2 hp (k := 5) (by decide) rfl ?_
    refine wMov W2 hp (k := 5) (by decide) rfl (fun H3 W3 => ?_)
    refine gMovs W3.k (W.p8 hp) ?_
    refine iMov W3 hp (k := 6) (by decide) rfl ?_
    refine wMov W3 hp (k := 6) (by decide) rfl (fun H4 W4 => ?_)
    repeat (refine And.intro (by first | assumption | rfl | exact Nat.le_of_ble_eq_true rfl | exact Nat.zero_le _ | decide) ?_)
    subst hx
    rw [upd_upd, pk_us, pk_un (show 7 + p * 23 + (13 + 6) ≠ 7 + p * 23 + (13 + 5) by omega), pk_un (show 7 + p * 23 + (13 + 6) ≠ 7 + p * 23 + 7 by omega), pk_un (show 7 + p * 23 + (13 + 5) ≠ 7 + p * 23 + 7 by omega)] at W4
    exact q H4 W4
  refine And.intro (fun hc => ?_) (fun hc => ?_)
  · refine fin _ ?_
    unfold s_rp lss
    by_cases z : (N (7 + p * 23 + 7) + v * N (7 + p * 23 + 6)) / 100 < v
    · rw [if_pos z]
    · rw [if_neg z]
      exact Int32.le_antisymm hc (Int32.not_lt.mp z)
  · refine fin _ ?_
    unfold s_rp lss
    rw [if_neg (fun z => hc (Int32.le_of_lt z))]
theorem d_comeIn {l : Launch} (hst : l.stackTraces = false) {Q : Option Value → Hp → Prop} {X : String → Hp → Prop} {E : List (Nat × Int32)} {h0 H : Hp} {w : Nat} {σ ρ : Nat → Nat} {N : Nat → Int32} {c0 c1 c2 c3 c4 : Nat} (W : Wv E h0 H w σ ρ N c0 c1 c2 c3 c4) (nw : ∀ i, i < 12 → σ i = ρ i) {p : Nat} {P v : Int32} (hP : P = nI p) (hp : p < c0) (hs : Sk (upd N (7 + p * 23 + 0) (N (7 + p * 23 + 0) + v)) c0) (hm : Mp N c2) (hE : ∀ q, q ∈ E → q.1 ≠ 2)
    (q : ∀ H' σ' ρ' c2', Wv E h0 H' w σ' ρ' (r_swA (upd N (7 + p * 23 + 0) (N (7 + p * 23 + 0) + v))).1 c0 c1 c2' c3 c4 → (∀ i, i < 12 → σ' i = ρ' i) → (∀ i, 12 ≤ i → σ' i = σ i ∧ ρ' i = ρ i) → c2' + (r_swA (upd N (7 + p * 23 + 0) (N (7 + p * 23 + 0) + v))).2 = c2 → Sk (r_swA (upd N (7 + p * 23 + 0) (N (7 + p * 23 + 0) + v))).1 c0 → Mp (r_swA (upd N (7 + p * 23 + 0) (N (7 + p * 23 + 0) + v))).1 c2' → Q (some (.int (nI (r_swA (upd N (7 + p * 23 + 0) (N (7 + p * 23 + 0) + v))).2))) H') : CX7_comeIn l [.ref w, .int P, .int v] H Q X := by
  subst hP
  have p8 := W.p8 hp
  refine eX7_comeIn hst (Nat.le_of_ble_eq_true rfl) (fun K => ?_)
  refine gParts W.k ?_
  refine aPart W.k rfl p8 ?_
  refine iPart W hp (k := 0) (by decide) ?_
  refine wPart W hp (k := 0) (by decide) (fun H1 W1 => ?_)
  (repeat (refine And.intro (by first | assumption | rfl | exact Nat.le_of_ble_eq_true rfl | exact Nat.zero_le _ | decide) ?_)); refine And.intro (W1.k.s_w) ?_; (repeat (refine And.intro (by first | assumption | rfl | exact Nat.le_of_ble_eq_true rfl | exact Nat.zero_le _ | decide) ?_))
  refine d_serveWaiting hst W1 nw hs (fun i hi => ?_) hE (fun H2 σ' ρ' c2' W2 n2 r2 d2 s2 m2 => ?_)
  · rw [pk_un (by omega)]
    exact hm i hi
  · repeat (refine And.intro (by first | assumption | rfl | exact Nat.le_of_ble_eq_true rfl | exact Nat.zero_le _ | decide) ?_)
    exact q H2 σ' ρ' c2' W2 n2 r2 d2 s2 m2
end D6

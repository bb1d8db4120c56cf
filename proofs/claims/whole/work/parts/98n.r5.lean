section R5
/-- the parser's fields: the place F 17, whether the text is wrong F 20 -/
def PF (F : Nat → Int32) (p : Nat) (w : Int32) : Nat → Int32 := upd (upd F 17 (nI p)) 20 w
theorem PF_17 {F : Nat → Int32} {p : Nat} {w : Int32} : PF F p w 17 = nI p := (pk_un (by decide)).trans pk_us
theorem PF_20 {F : Nat → Int32} {p : Nat} {w : Int32} : PF F p w 20 = w := pk_us
theorem PF_o {F : Nat → Int32} {p : Nat} {w : Int32} {k : Nat} (h1 : k ≠ 17) (h2 : k ≠ 20) : PF F p w k = F k := (pk_un h2).trans (pk_un h1)
theorem PF_u20 {F : Nat → Int32} {p : Nat} {w w' : Int32} : upd (PF F p w) 20 w' = PF F p w' := upd_upd _ _ _ _
theorem PF_u17 {F : Nat → Int32} {p p' : Nat} {w : Int32} : upd (PF F p w) 17 (nI p') = PF F p' w := funext fun k => by
  unfold PF
  by_cases z : k = 17
  · subst z; rw [pk_us, pk_un (by decide), pk_us]
  · rw [pk_un z]
    by_cases y : k = 20
    · subst y; rw [pk_us, pk_us]
    · rw [pk_un y, pk_un z, pk_un y, pk_un z]
theorem st_o_at {h : Hp} {m b j : Nat} {F N : Nat → Int32} (h1 : b ≠ m) (h2 : b ≠ m + 1) : hI (st h m F N) b j = hI h b j := congrFun (st_o h1 h2) j
theorem c_sees {l : Launch} (hst : l.stackTraces = false) {Q : Option Value → Hp → Prop} {X : String → Hp → Prop} {h : Hp} {m : Nat} {F N : Nat → Int32} (hM : MdS h m) (hL9 : MdL h m) {n p : Nat} (e16 : F 16 = nI n) (n60 : n ≤ 60) (pn : p ≤ n) {lo hi : Int32} (hlo : 0 < lo) (q1 : isC lo hi (tat (hI h (m + 22)) n p) → Q (some (.int 1)) (st h m (PF F p 0) N)) (q0 : ¬ isC lo hi (tat (hI h (m + 22)) n p) → Q (some (.int 0)) (st h m (PF F p 0) N)) : CX9_sees l [.ref m, .int lo, .int hi] (st h m (PF F p 0) N) Q X := by
  refine eX9_sees hst (Nat.le_of_ble_eq_true rfl) (fun K => ?_)
  repeat (first | (refine And.intro hM.1 (And.intro hM.2.1 ?_); rw [g_st hM]) | (refine And.intro hM.1 ?_; rw [fp_st hM]) | (refine And.intro hM.1 ?_; rw [fg_st hM]) | refine And.intro (by first | exact hM.1 | assumption | rfl | exact Nat.le_of_ble_eq_true rfl | exact Nat.zero_le _ | decide) ?_)
  refine And.intro (fun z => absurd PF_20 z) (fun _ => ?_)
  repeat (first | (refine And.intro hM.1 (And.intro hM.2.1 ?_); rw [g_st hM]) | (refine And.intro hM.1 ?_; rw [fp_st hM]) | (refine And.intro hM.1 ?_; rw [fg_st hM]) | refine And.intro (by first | exact hM.1 | assumption | rfl | exact Nat.le_of_ble_eq_true rfl | exact Nat.zero_le _ | decide) ?_)
  rw [PF_17, PF_o (k := 16) (by decide) (by decide), e16]
  by_cases hp : p < n
  · have et : tat (hI h (m + 22)) n p = hI h (m + 22) p := if_pos hp
    rw [et] at q1 q0
    refine And.intro (fun z => absurd (show nI n ≤ nI p from z) (nI_ge hp (by omega))) (fun _ => ?_)
    refine And.intro hM.1 ?_
    refine And.intro (g15n hL9) ?_
    rw [g15 hL9]
    repeat (first | (refine And.intro hM.1 (And.intro hM.2.1 ?_); rw [g_st hM]) | (refine And.intro hM.1 ?_; rw [fp_st hM]) | (refine And.intro hM.1 ?_; rw [fg_st hM]) | refine And.intro (by first | exact hM.1 | assumption | rfl | exact Nat.le_of_ble_eq_true rfl | exact Nat.zero_le _ | decide) ?_)
    rw [PF_17]
    refine ca_of (H := st h m (PF F p 0) N) hL9.2.2.2.2.2.2.2.2.2.2 rfl (show p < 60 by omega) (by decide) (st_o_at (by omega) (by omega)) ?_
    refine And.intro (fun h1 => ?_) (fun h1 => ?_)
    · repeat (refine And.intro (by first | assumption | rfl | exact Nat.le_of_ble_eq_true rfl | exact Nat.zero_le _ | decide) ?_)
      exact q0 (fun z => Int32.lt_irrefl (Int32.lt_of_lt_of_le h1 z.1))
    refine And.intro hM.1 ?_
    refine And.intro (g15n hL9) ?_
    rw [g15 hL9]
    repeat (first | (refine And.intro hM.1 (And.intro hM.2.1 ?_); rw [g_st hM]) | (refine And.intro hM.1 ?_; rw [fp_st hM]) | (refine And.intro hM.1 ?_; rw [fg_st hM]) | refine And.intro (by first | exact hM.1 | assumption | rfl | exact Nat.le_of_ble_eq_true rfl | exact Nat.zero_le _ | decide) ?_)
    rw [PF_17]
    refine ca_of (H := st h m (PF F p 0) N) hL9.2.2.2.2.2.2.2.2.2.2 rfl (show p < 60 by omega) (by decide) (st_o_at (by omega) (by omega)) ?_
    refine And.intro (fun h2 => ?_) (fun h2 => ?_)
    · repeat (refine And.intro (by first | assumption | rfl | exact Nat.le_of_ble_eq_true rfl | exact Nat.zero_le _ | decide) ?_)
      exact q0 (fun z => Int32.lt_irrefl (Int32.lt_of_lt_of_le h2 z.2))
    · repeat (refine And.intro (by first | assumption | rfl | exact Nat.le_of_ble_eq_true rfl | exact Nat.zero_le _ | decide) ?_)
      exact q1 ⟨Int32.not_lt.mp h1, Int32.not_lt.mp h2⟩
  · have et : tat (hI h (m + 22)) n p = 0 := if_neg hp
    rw [et] at q0
    refine And.intro (fun _ => ?_) (fun z => absurd (show nI n ≤ nI p from nI_le (by omega) (by omega)) z)
    repeat (refine And.intro (by first | assumption | rfl | exact Nat.le_of_ble_eq_true rfl | exact Nat.zero_le _ | decide) ?_)
    exact q0 (fun z => absurd (Int32.lt_of_lt_of_le hlo z.1) (by decide))
theorem c_sees1 {l : Launch} (hst : l.stackTraces = false) {Q : Option Value → Hp → Prop} {X : String → Hp → Prop} {h : Hp} {m : Nat} {F N : Nat → Int32} (hM : MdS h m) (hL9 : MdL h m) {p : Nat} {lo hi : Int32} (q0 : Q (some (.int 0)) (st h m (PF F p 1) N)) : CX9_sees l [.ref m, .int lo, .int hi] (st h m (PF F p 1) N) Q X := by
  refine eX9_sees hst (Nat.le_of_ble_eq_true rfl) (fun K => ?_)
  repeat (first | (refine And.intro hM.1 (And.intro hM.2.1 ?_); rw [g_st hM]) | (refine And.intro hM.1 ?_; rw [fp_st hM]) | (refine And.intro hM.1 ?_; rw [fg_st hM]) | refine And.intro (by first | exact hM.1 | assumption | rfl | exact Nat.le_of_ble_eq_true rfl | exact Nat.zero_le _ | decide) ?_)
  rw [PF_20]
  refine And.intro (fun _ => ?_) (fun z => absurd z (by decide))
  repeat (refine And.intro (by first | assumption | rfl | exact Nat.le_of_ble_eq_true rfl | exact Nat.zero_le _ | decide) ?_)
  exact q0
theorem c_pass {l : Launch} (hst : l.stackTraces = false) {Q : Option Value → Hp → Prop} {X : String → Hp → Prop} {h : Hp} {m : Nat} {F N : Nat → Int32} (hM : MdS h m) (hL9 : MdL h m) {n p : Nat} (e16 : F 16 = nI n) (n60 : n ≤ 60) (pn : p ≤ n) {lo hi : Int32} (hlo : 0 < lo) (q1 : isC lo hi (tat (hI h (m + 22)) n p) → p < n → Q (some (.int (tat (hI h (m + 22)) n p - lo))) (st h m (PF F (p + 1) 0) N)) (q0 : ¬ isC lo hi (tat (hI h (m + 22)) n p) → Q (some (.int 0)) (st h m (PF F p 1) N)) : CX9_pass l [.ref m, .int lo, .int hi] (st h m (PF F p 0) N) Q X := by
  refine eX9_pass hst (Nat.le_of_ble_eq_true rfl) (fun K => ?_)
  repeat (first | (refine And.intro hM.1 (And.intro hM.2.1 ?_); rw [g_st hM]) | (refine And.intro hM.1 ?_; rw [fp_st hM]) | (refine And.intro hM.1 ?_; rw [fg_st hM]) | refine And.intro (by first | exact hM.1 | assumption | rfl | exact Nat.le_of_ble_eq_true rfl | exact Nat.zero_le _ | decide) ?_)
  rw [PF_20]
  refine c_sees hst hM hL9 e16 n60 pn hlo (fun hc => ?_) (fun hc => ?_)
  · have pl : p < n := tat_lt (isC_ne hc hlo)
    have et : tat (hI h (m + 22)) n p = hI h (m + 22) p := if_pos pl
    have fin := q1 hc pl
    rw [et] at fin
    refine And.intro (fun _ => ?_) (fun z => absurd z (by decide))
    refine And.intro hM.1 ?_
    refine And.intro (Or.inl (by decide)) ?_
    rw [fp_st hM, show (0 : Int32) ||| 0 = 0 by decide, PF_u20]
    refine And.intro hM.1 ?_
    rw [fg_st hM, PF_20]
    refine And.intro (fun _ => ?_) (fun z => absurd rfl z)
    repeat (first | (refine And.intro hM.1 (And.intro hM.2.1 ?_); rw [g_st hM]) | (refine And.intro hM.1 ?_; rw [fp_st hM]) | (refine And.intro hM.1 ?_; rw [fg_st hM]) | refine And.intro (by first | exact hM.1 | assumption | rfl | exact Nat.le_of_ble_eq_true rfl | exact Nat.zero_le _ | decide) ?_)
    rw [PF_17, nI_1, PF_u17]
    refine And.intro (g15n hL9) ?_
    rw [g15 hL9]
    repeat (first | (refine And.intro hM.1 (And.intro hM.2.1 ?_); rw [g_st hM]) | (refine And.intro hM.1 ?_; rw [fp_st hM]) | (refine And.intro hM.1 ?_; rw [fg_st hM]) | refine And.intro (by first | exact hM.1 | assumption | rfl | exact Nat.le_of_ble_eq_true rfl | exact Nat.zero_le _ | decide) ?_)
    rw [PF_17]
    refine ca_of (H := st h m (PF F (p + 1) 0) N) hL9.2.2.2.2.2.2.2.2.2.2 (show nI (p + 1) - 1 = nI p from nI_pred p) (show p < 60 by omega) (by decide) (st_o_at (by omega) (by omega)) ?_
    repeat (refine And.intro (by first | assumption | rfl | exact Nat.le_of_ble_eq_true rfl | exact Nat.zero_le _ | decide) ?_)
    exact fin
  · refine And.intro (fun z => absurd rfl z) (fun _ => ?_)
    refine And.intro hM.1 ?_
    refine And.intro (Or.inr (by decide)) ?_
    rw [fp_st hM, show (0 : Int32) ||| 1 = 1 by decide, PF_u20]
    refine And.intro hM.1 ?_
    rw [fg_st hM, PF_20]
    refine And.intro (fun z => absurd z (by decide)) (fun _ => ?_)
    repeat (refine And.intro (by first | assumption | rfl | exact Nat.le_of_ble_eq_true rfl | exact Nat.zero_le _ | decide) ?_)
    exact q0 hc
theorem c_pass1 {l : Launch} (hst : l.stackTraces = false) {Q : Option Value → Hp → Prop} {X : String → Hp → Prop} {h : Hp} {m : Nat} {F N : Nat → Int32} (hM : MdS h m) (hL9 : MdL h m) {p : Nat} {lo hi : Int32} (q0 : Q (some (.int 0)) (st h m (PF F p 1) N)) : CX9_pass l [.ref m, .int lo, .int hi] (st h m (PF F p 1) N) Q X := by
  refine eX9_pass hst (Nat.le_of_ble_eq_true rfl) (fun K => ?_)
  repeat (first | (refine And.intro hM.1 (And.intro hM.2.1 ?_); rw [g_st hM]) | (refine And.intro hM.1 ?_; rw [fp_st hM]) | (refine And.intro hM.1 ?_; rw [fg_st hM]) | refine And.intro (by first | exact hM.1 | assumption | rfl | exact Nat.le_of_ble_eq_true rfl | exact Nat.zero_le _ | decide) ?_)
  rw [PF_20]
  refine c_sees1 hst hM hL9 ?_
  refine And.intro (fun z => absurd rfl z) (fun _ => ?_)
  refine And.intro hM.1 ?_
  refine And.intro (Or.inr (by decide)) ?_
  rw [fp_st hM, show (1 : Int32) ||| 1 = 1 by decide, PF_u20]
  refine And.intro hM.1 ?_
  rw [fg_st hM, PF_20]
  refine And.intro (fun z => absurd z (by decide)) (fun _ => ?_)
  repeat (refine And.intro (by first | assumption | rfl | exact Nat.le_of_ble_eq_true rfl | exact Nat.zero_le _ | decide) ?_)
  exact q0
/-- the quantity at p: its value and what is behind it -/
def pq (tx : Nat → Int32) (n p : Nat) : Option (Nat × Nat) :=
  if isC 49 57 (tat tx n p) then
    (if isC 48 57 (tat tx n (p + 1)) then
      (if isC 48 57 (tat tx n (p + 2)) then some (10 * (10 * dg (tat tx n p) + dg (tat tx n (p + 1))) + dg (tat tx n (p + 2)), p + 3)
      else some (10 * dg (tat tx n p) + dg (tat tx n (p + 1)), p + 2))
    else some (dg (tat tx n p), p + 1))
  else none
theorem pqty_eq {tx : Nat → Int32} {n p : Nat} {k : Int32} {a : Nat} : pqty tx n p k a = match pq tx n p with | none => .inr p | some (b, p') => pend tx n p' (k, a, b) := by
  unfold pqty pq
  split
  · split
    · split <;> rfl
    · rfl
  · rfl
theorem one_dg {c : Int32} (h : isC 49 57 c) : 1 + (c - 49) = nI (dg c) := by
  rw [← (dg_le h (by decide) (by decide)).1]
  rw [Int32.sub_eq_add_neg, Int32.sub_eq_add_neg, ← Int32.add_assoc, Int32.add_comm 1 c, Int32.add_assoc]
  rfl
theorem c_passQuantity {l : Launch} (hst : l.stackTraces = false) {Q : Option Value → Hp → Prop} {X : String → Hp → Prop} {h : Hp} {m : Nat} {F N : Nat → Int32} (hM : MdS h m) (hL9 : MdL h m) {n p : Nat} (e16 : F 16 = nI n) (n60 : n ≤ 60) (pn : p ≤ n) (q1 : ∀ b p', pq (hI h (m + 22)) n p = some (b, p') → p' ≤ n → Q (some (.int (nI b))) (st h m (PF F p' 0) N)) (q0 : pq (hI h (m + 22)) n p = none → ∀ v, Q (some (.int v)) (st h m (PF F p 1) N)) : CX9_passQuantity l [.ref m] (st h m (PF F p 0) N) Q X := by
  refine eX9_passQuantity hst (Nat.le_of_ble_eq_true rfl) (fun K hK => ?_)
  repeat (first | (refine And.intro hM.1 (And.intro hM.2.1 ?_); rw [g_st hM]) | (refine And.intro hM.1 ?_; rw [fp_st hM]) | (refine And.intro hM.1 ?_; rw [fg_st hM]) | refine And.intro (by first | exact hM.1 | assumption | rfl | exact Nat.le_of_ble_eq_true rfl | exact Nat.zero_le _ | decide) ?_)
  refine c_pass hst hM hL9 e16 n60 pn (by decide) (fun h1 l1 => ?_) (fun h1 => ?_)
  rotate_left
  · have e : pq (hI h (m + 22)) n p = none := by unfold pq; rw [if_neg h1]
    refine hK _ _ _ _ ?_
    refine And.intro (fun hc => ?_) (fun hc => ?_)
    · exact absurd (show (2 : Int32) ≤ 0 from hc) (by decide)
    repeat (first | (refine And.intro hM.1 (And.intro hM.2.1 ?_); rw [g_st hM]) | (refine And.intro hM.1 ?_; rw [fp_st hM]) | (refine And.intro hM.1 ?_; rw [fg_st hM]) | refine And.intro (by first | exact hM.1 | assumption | rfl | exact Nat.le_of_ble_eq_true rfl | exact Nat.zero_le _ | decide) ?_)
    refine c_sees1 hst hM hL9 ?_
    refine And.intro (fun _ => ?_) (fun z => absurd rfl z)
    repeat (refine And.intro (by first | assumption | rfl | exact Nat.le_of_ble_eq_true rfl | exact Nat.zero_le _ | decide) ?_)
    exact q0 e _
  have d1 := (dg_le h1 (by decide) (by decide)).2
  have o1 := one_dg h1
  have upq : pq (hI h (m + 22)) n p = (if isC 48 57 (tat (hI h (m + 22)) n (p + 1)) then
      (if isC 48 57 (tat (hI h (m + 22)) n (p + 2)) then some (10 * (10 * dg (tat (hI h (m + 22)) n p) + dg (tat (hI h (m + 22)) n (p + 1))) + dg (tat (hI h (m + 22)) n (p + 2)), p + 3)
      else some (10 * dg (tat (hI h (m + 22)) n p) + dg (tat (hI h (m + 22)) n (p + 1)), p + 2))
    else some (dg (tat (hI h (m + 22)) n p), p + 1)) := if_pos h1
  have mul10 : ∀ a b : Nat, (10 : Int32) * nI a + nI b = nI (10 * a + b) := fun a b => by rw [show (10 : Int32) = nI 10 from rfl, pk_mul, nI_add]
  have A0 : K 13 [(2, .int 0), (1, .int (nI (dg (tat (hI h (m + 22)) n p)))), (0, .ref m)] [] (st h m (PF F (p + 1) 0) N) (0, 0) := by
    refine hK _ _ _ _ ?_
    refine And.intro (fun hc => ?_) (fun hc => ?_)
    · exact absurd (show (2 : Int32) ≤ 0 from hc) (by decide)
    repeat (first | (refine And.intro hM.1 (And.intro hM.2.1 ?_); rw [g_st hM]) | (refine And.intro hM.1 ?_; rw [fp_st hM]) | (refine And.intro hM.1 ?_; rw [fg_st hM]) | refine And.intro (by first | exact hM.1 | assumption | rfl | exact Nat.le_of_ble_eq_true rfl | exact Nat.zero_le _ | decide) ?_)
    refine c_sees hst hM hL9 e16 n60 (by omega) (by decide) (fun h2 => ?_) (fun h2 => ?_)
    rotate_left
    · rw [if_neg h2] at upq
      refine And.intro (fun _ => ?_) (fun z => absurd rfl z)
      repeat (refine And.intro (by first | assumption | rfl | exact Nat.le_of_ble_eq_true rfl | exact Nat.zero_le _ | decide) ?_)
      exact q1 _ _ upq (by omega)
    rw [if_pos h2] at upq
    refine And.intro (fun z => absurd z (by decide)) (fun _ => ?_)
    repeat (first | (refine And.intro hM.1 (And.intro hM.2.1 ?_); rw [g_st hM]) | (refine And.intro hM.1 ?_; rw [fp_st hM]) | (refine And.intro hM.1 ?_; rw [fg_st hM]) | refine And.intro (by first | exact hM.1 | assumption | rfl | exact Nat.le_of_ble_eq_true rfl | exact Nat.zero_le _ | decide) ?_)
    refine c_pass hst hM hL9 e16 n60 (by omega) (by decide) (fun h2' l2 => ?_) (fun h2' => absurd h2 h2')
    have A1 : K 13 [(2, .int 1), (1, .int (nI (10 * dg (tat (hI h (m + 22)) n p) + dg (tat (hI h (m + 22)) n (p + 1))))), (0, .ref m)] [] (st h m (PF F (p + 1 + 1) 0) N) (0, 0) := by
      refine hK _ _ _ _ ?_
      refine And.intro (fun hc => ?_) (fun hc => ?_)
      · exact absurd (show (2 : Int32) ≤ 1 from hc) (by decide)
      repeat (first | (refine And.intro hM.1 (And.intro hM.2.1 ?_); rw [g_st hM]) | (refine And.intro hM.1 ?_; rw [fp_st hM]) | (refine And.intro hM.1 ?_; rw [fg_st hM]) | refine And.intro (by first | exact hM.1 | assumption | rfl | exact Nat.le_of_ble_eq_true rfl | exact Nat.zero_le _ | decide) ?_)
      refine c_sees hst hM hL9 e16 n60 (by omega) (by decide) (fun h3 => ?_) (fun h3 => ?_)
      rotate_left
      · rw [if_neg h3] at upq
        refine And.intro (fun _ => ?_) (fun z => absurd rfl z)
        repeat (refine And.intro (by first | assumption | rfl | exact Nat.le_of_ble_eq_true rfl | exact Nat.zero_le _ | decide) ?_)
        exact q1 _ _ upq (by omega)
      rw [if_pos h3] at upq
      refine And.intro (fun z => absurd z (by decide)) (fun _ => ?_)
      repeat (first | (refine And.intro hM.1 (And.intro hM.2.1 ?_); rw [g_st hM]) | (refine And.intro hM.1 ?_; rw [fp_st hM]) | (refine And.intro hM.1 ?_; rw [fg_st hM]) | refine And.intro (by first | exact hM.1 | assumption | rfl | exact Nat.le_of_ble_eq_true rfl | exact Nat.zero_le _ | decide) ?_)
      refine c_pass hst hM hL9 e16 n60 (by omega) (by decide) (fun h3' l3 => ?_) (fun h3' => absurd h3 h3')
      have A2 : K 13 [(2, .int 2), (1, .int (nI (10 * (10 * dg (tat (hI h (m + 22)) n p) + dg (tat (hI h (m + 22)) n (p + 1))) + dg (tat (hI h (m + 22)) n (p + 2))))), (0, .ref m)] [] (st h m (PF F (p + 1 + 1 + 1) 0) N) (0, 0) := by
        refine hK _ _ _ _ ?_
        refine And.intro (fun hc => ?_) (fun hc => ?_)
        · repeat (refine And.intro (by first | assumption | rfl | exact Nat.le_of_ble_eq_true rfl | exact Nat.zero_le _ | decide) ?_)
          exact q1 _ _ upq (by omega)
        · exact absurd (show (2 : Int32) ≤ 2 by decide) hc
      rw [← mul10, ← (dg_le h3 (by decide) (by decide)).1] at A2
      exact A2
    rw [← mul10, ← (dg_le h2 (by decide) (by decide)).1] at A1
    exact A1
  rw [← o1] at A0
  exact A0
end R5

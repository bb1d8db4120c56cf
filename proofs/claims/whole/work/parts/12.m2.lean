section M2
theorem c_fails {l : Launch} (hst : l.stackTraces = false) {Q : Option Value → Hp → Prop} {X : String → Hp → Prop} {h : Hp} {m : Nat} {F N : Nat → Int32} (hM : MdS h m) {v b : Int32} (q1 : b ≠ 0 → b = 1 → Q (some (.int b)) (st h m (upd F 0 v) N)) (q0 : b = 0 → Q (some (.int b)) (st h m (upd F 0 0) N)) (hb : b = 0 ∨ b = 1) : CX9_fails l [.ref m, .int v, .int b] (st h m F N) Q X := by
  refine eX9_fails hst (Nat.le_of_ble_eq_true rfl) (fun K => ?_)
  refine And.intro (fun hc => ?_) (fun hc => ?_)
  · repeat (first | (refine And.intro hM.1 (And.intro hM.2.1 ?_); rw [g_st hM]) | (refine And.intro hM.1 ?_; rw [fp_st hM]) | (refine And.intro hM.1 ?_; rw [fg_st hM]) | refine And.intro (by first | exact hM.1 | assumption | rfl | exact Nat.le_of_ble_eq_true rfl | exact Nat.zero_le _ | decide) ?_)
    exact q0 hc
  · repeat (first | (refine And.intro hM.1 (And.intro hM.2.1 ?_); rw [g_st hM]) | (refine And.intro hM.1 ?_; rw [fp_st hM]) | (refine And.intro hM.1 ?_; rw [fg_st hM]) | refine And.intro (by first | exact hM.1 | assumption | rfl | exact Nat.le_of_ble_eq_true rfl | exact Nat.zero_le _ | decide) ?_)
    rcases hb with e | e
    · exact absurd e hc
    · exact q1 hc e
theorem c_isPart {l : Launch} (hst : l.stackTraces = false) {Q : Option Value → Hp → Prop} {X : String → Hp → Prop} {h : Hp} {m : Nat} {F N : Nat → Int32} (hM : MdS h m) {v : Int32} {c : Nat} (hc : N 0 = nI c) (c8 : c ≤ 8) (q : Q (some (.int (if 0 ≤ v ∧ v < nI c then 1 else 0))) (st h m F N)) : CX9_isPart l [.ref m, .int v] (st h m F N) Q X := by
  refine eX9_isPart hst (Nat.le_of_ble_eq_true rfl) (fun K => ?_)
  repeat (first | (refine And.intro hM.1 (And.intro hM.2.1 ?_); rw [g_st hM]) | (refine And.intro hM.1 ?_; rw [fp_st hM]) | (refine And.intro hM.1 ?_; rw [fg_st hM]) | refine And.intro (by first | exact hM.1 | assumption | rfl | exact Nat.le_of_ble_eq_true rfl | exact Nat.zero_le _ | decide) ?_)
  refine And.intro (k20 hM) (And.intro (vin hM (x := (0 : Int32)) (i := 0) rfl (by decide)) ?_); rw [ld_st hM (x := (0 : Int32)) (i := 0) rfl (by decide)]
  repeat (first | (refine And.intro hM.1 (And.intro hM.2.1 ?_); rw [g_st hM]) | (refine And.intro hM.1 ?_; rw [fp_st hM]) | (refine And.intro hM.1 ?_; rw [fg_st hM]) | refine And.intro (by first | exact hM.1 | assumption | rfl | exact Nat.le_of_ble_eq_true rfl | exact Nat.zero_le _ | decide) ?_)
  refine c_isBetween hst ?_
  repeat (first | (refine And.intro hM.1 (And.intro hM.2.1 ?_); rw [g_st hM]) | (refine And.intro hM.1 ?_; rw [fp_st hM]) | (refine And.intro hM.1 ?_; rw [fg_st hM]) | refine And.intro (by first | exact hM.1 | assumption | rfl | exact Nat.le_of_ble_eq_true rfl | exact Nat.zero_le _ | decide) ?_)
  refine And.intro (by split <;> decide) ?_
  have e : (0 ≤ v ∧ v ≤ N 0 - 1) = (0 ≤ v ∧ v < nI c) := by
    rw [hc]
    refine propext (and_congr_right fun h0 => ?_)
    rw [Int32.le_iff_toInt_le, Int32.lt_iff_toInt_lt, show nI c - 1 = nI c - nI 1 from rfl, pk_sub_toInt (by omega) (by omega), nI_toInt (by omega)]
    omega
  simp only [e]
  exact q
theorem c_isKit {l : Launch} (hst : l.stackTraces = false) {Q : Option Value → Hp → Prop} {X : String → Hp → Prop} {h : Hp} {m : Nat} {F N : Nat → Int32} (hM : MdS h m) {v : Int32} {c : Nat} (hc : N 1 = nI c) (c8 : c ≤ 4) (q : Q (some (.int (if 0 ≤ v ∧ v < nI c then 1 else 0))) (st h m F N)) : CX9_isKit l [.ref m, .int v] (st h m F N) Q X := by
  refine eX9_isKit hst (Nat.le_of_ble_eq_true rfl) (fun K => ?_)
  repeat (first | (refine And.intro hM.1 (And.intro hM.2.1 ?_); rw [g_st hM]) | (refine And.intro hM.1 ?_; rw [fp_st hM]) | (refine And.intro hM.1 ?_; rw [fg_st hM]) | refine And.intro (by first | exact hM.1 | assumption | rfl | exact Nat.le_of_ble_eq_true rfl | exact Nat.zero_le _ | decide) ?_)
  refine And.intro (k20 hM) (And.intro (vin hM (x := (1 : Int32)) (i := 1) rfl (by decide)) ?_); rw [ld_st hM (x := (1 : Int32)) (i := 1) rfl (by decide)]
  repeat (first | (refine And.intro hM.1 (And.intro hM.2.1 ?_); rw [g_st hM]) | (refine And.intro hM.1 ?_; rw [fp_st hM]) | (refine And.intro hM.1 ?_; rw [fg_st hM]) | refine And.intro (by first | exact hM.1 | assumption | rfl | exact Nat.le_of_ble_eq_true rfl | exact Nat.zero_le _ | decide) ?_)
  refine c_isBetween hst ?_
  repeat (first | (refine And.intro hM.1 (And.intro hM.2.1 ?_); rw [g_st hM]) | (refine And.intro hM.1 ?_; rw [fp_st hM]) | (refine And.intro hM.1 ?_; rw [fg_st hM]) | refine And.intro (by first | exact hM.1 | assumption | rfl | exact Nat.le_of_ble_eq_true rfl | exact Nat.zero_le _ | decide) ?_)
  refine And.intro (by split <;> decide) ?_
  have e : (0 ≤ v ∧ v ≤ N 1 - 1) = (0 ≤ v ∧ v < nI c) := by
    rw [hc]
    refine propext (and_congr_right fun h0 => ?_)
    rw [Int32.le_iff_toInt_le, Int32.lt_iff_toInt_lt, show nI c - 1 = nI c - nI 1 from rfl, pk_sub_toInt (by omega) (by omega), nI_toInt (by omega)]
    omega
  simp only [e]
  exact q
theorem c_items {l : Launch} (hst : l.stackTraces = false) {Q : Option Value → Hp → Prop} {X : String → Hp → Prop} {h : Hp} {m : Nat} {F N : Nat → Int32} (hM : MdS h m) {P : Int32} (p : Nat) (hp : P = nI p) (hb : 191 + p * 9 < 359) (q : Q (some (.int (N (191 + p * 9)))) (st h m F N)) : CX9_items l [.ref m, .int P] (st h m F N) Q X := by
  subst hp
  refine eX9_items hst (Nat.le_of_ble_eq_true rfl) (fun K => ?_)
  repeat (first | (refine And.intro hM.1 (And.intro hM.2.1 ?_); rw [g_st hM]) | (refine And.intro hM.1 ?_; rw [fp_st hM]) | (refine And.intro hM.1 ?_; rw [fg_st hM]) | refine And.intro (by first | exact hM.1 | assumption | rfl | exact Nat.le_of_ble_eq_true rfl | exact Nat.zero_le _ | decide) ?_)
  refine And.intro (k20 hM) (And.intro (vin hM (i := 191 + p * 9) (ix_k p) hb) ?_); rw [ld_st hM (i := 191 + p * 9) (ix_k p) hb]
  repeat (first | (refine And.intro hM.1 (And.intro hM.2.1 ?_); rw [g_st hM]) | (refine And.intro hM.1 ?_; rw [fp_st hM]) | (refine And.intro hM.1 ?_; rw [fg_st hM]) | refine And.intro (by first | exact hM.1 | assumption | rfl | exact Nat.le_of_ble_eq_true rfl | exact Nat.zero_le _ | decide) ?_)
  exact q
theorem c_itemOf {l : Launch} (hst : l.stackTraces = false) {Q : Option Value → Hp → Prop} {X : String → Hp → Prop} {h : Hp} {m : Nat} {F N : Nat → Int32} (hM : MdS h m) {P I W : Int32} (p i w : Nat) (hp : P = nI p) (hi : I = nI i) (hw : W = nI w) (hb : 191 + p * 9 + 1 + 2 * i + w < 359) (q : Q (some (.int (N (191 + p * 9 + 1 + 2 * i + w)))) (st h m F N)) : CX9_itemOf l [.ref m, .int P, .int I, .int W] (st h m F N) Q X := by
  subst hp; subst hi; subst hw
  have e : (191 : Int32) + nI p * 9 + 1 + 2 * nI i + nI w = nI (191 + p * 9 + 1 + 2 * i + w) := by
    rw [show (191 : Int32) = nI 191 from rfl, show (9 : Int32) = nI 9 from rfl, show (2 : Int32) = nI 2 from rfl, show (1 : Int32) = nI 1 from rfl, pk_mul, pk_mul, nI_add, nI_add, nI_add, nI_add]
  refine eX9_itemOf hst (Nat.le_of_ble_eq_true rfl) (fun K => ?_)
  repeat (first | (refine And.intro hM.1 (And.intro hM.2.1 ?_); rw [g_st hM]) | (refine And.intro hM.1 ?_; rw [fp_st hM]) | (refine And.intro hM.1 ?_; rw [fg_st hM]) | refine And.intro (by first | exact hM.1 | assumption | rfl | exact Nat.le_of_ble_eq_true rfl | exact Nat.zero_le _ | decide) ?_)
  refine And.intro (k20 hM) (And.intro (vin hM (i := 191 + p * 9 + 1 + 2 * i + w) e hb) ?_); rw [ld_st hM (i := 191 + p * 9 + 1 + 2 * i + w) e hb]
  repeat (first | (refine And.intro hM.1 (And.intro hM.2.1 ?_); rw [g_st hM]) | (refine And.intro hM.1 ?_; rw [fp_st hM]) | (refine And.intro hM.1 ?_; rw [fg_st hM]) | refine And.intro (by first | exact hM.1 | assumption | rfl | exact Nat.le_of_ble_eq_true rfl | exact Nat.zero_le _ | decide) ?_)
  exact q
theorem c_waits {l : Launch} (hst : l.stackTraces = false) {Q : Option Value → Hp → Prop} {X : String → Hp → Prop} {h : Hp} {m : Nat} {F N : Nat → Int32} (hM : MdS h m) {P W : Int32} (p w : Nat) (hp : P = nI p) (hw : W = nI w) (hb : 227 + p * 5 + w < 359) (q : Q (some (.int (N (227 + p * 5 + w)))) (st h m F N)) : CX9_waits l [.ref m, .int P, .int W] (st h m F N) Q X := by
  subst hp; subst hw
  refine eX9_waits hst (Nat.le_of_ble_eq_true rfl) (fun K => ?_)
  repeat (first | (refine And.intro hM.1 (And.intro hM.2.1 ?_); rw [g_st hM]) | (refine And.intro hM.1 ?_; rw [fp_st hM]) | (refine And.intro hM.1 ?_; rw [fg_st hM]) | refine And.intro (by first | exact hM.1 | assumption | rfl | exact Nat.le_of_ble_eq_true rfl | exact Nat.zero_le _ | decide) ?_)
  refine And.intro (k20 hM) (And.intro (vin hM (i := 227 + p * 5 + w) (ix_w p w) hb) ?_); rw [ld_st hM (i := 227 + p * 5 + w) (ix_w p w) hb]
  repeat (first | (refine And.intro hM.1 (And.intro hM.2.1 ?_); rw [g_st hM]) | (refine And.intro hM.1 ?_; rw [fp_st hM]) | (refine And.intro hM.1 ?_; rw [fg_st hM]) | refine And.intro (by first | exact hM.1 | assumption | rfl | exact Nat.le_of_ble_eq_true rfl | exact Nat.zero_le _ | decide) ?_)
  exact q
theorem c_underway {l : Launch} (hst : l.stackTraces = false) {Q : Option Value → Hp → Prop} {X : String → Hp → Prop} {h : Hp} {m : Nat} {F N : Nat → Int32} (hM : MdS h m) {B P W : Int32} (b p w : Nat) (hB : B = nI b) (hp : P = nI p) (hw : W = nI w) (hb : b + p * 3 + w < 359) (q : Q (some (.int (N (b + p * 3 + w)))) (st h m F N)) : CX9_underway l [.ref m, .int B, .int P, .int W] (st h m F N) Q X := by
  subst hp; subst hw; subst hB
  refine eX9_underway hst (Nat.le_of_ble_eq_true rfl) (fun K => ?_)
  repeat (first | (refine And.intro hM.1 (And.intro hM.2.1 ?_); rw [g_st hM]) | (refine And.intro hM.1 ?_; rw [fp_st hM]) | (refine And.intro hM.1 ?_; rw [fg_st hM]) | refine And.intro (by first | exact hM.1 | assumption | rfl | exact Nat.le_of_ble_eq_true rfl | exact Nat.zero_le _ | decide) ?_)
  refine And.intro (k20 hM) (And.intro (vin hM (i := b + p * 3 + w) (ix_u b p w) hb) ?_); rw [ld_st hM (i := b + p * 3 + w) (ix_u b p w) hb]
  repeat (first | (refine And.intro hM.1 (And.intro hM.2.1 ?_); rw [g_st hM]) | (refine And.intro hM.1 ?_; rw [fp_st hM]) | (refine And.intro hM.1 ?_; rw [fg_st hM]) | refine And.intro (by first | exact hM.1 | assumption | rfl | exact Nat.le_of_ble_eq_true rfl | exact Nat.zero_le _ | decide) ?_)
  exact q
theorem c_keepReason {l : Launch} (hst : l.stackTraces = false) {Q : Option Value → Hp → Prop} {X : String → Hp → Prop} {h : Hp} {m : Nat} {F N : Nat → Int32} (hM : MdS h m) {v : Int32} (q : Q none (st h m (upd F 7 v) N)) : CX9_keepReason l [.ref m, .int v] (st h m F N) Q X := by
  refine eX9_keepReason hst (Nat.le_of_ble_eq_true rfl) (fun K => ?_)
  repeat (first | (refine And.intro hM.1 (And.intro hM.2.1 ?_); rw [g_st hM]) | (refine And.intro hM.1 ?_; rw [fp_st hM]) | (refine And.intro hM.1 ?_; rw [fg_st hM]) | refine And.intro (by first | exact hM.1 | assumption | rfl | exact Nat.le_of_ble_eq_true rfl | exact Nat.zero_le _ | decide) ?_)
  exact q
theorem c_isQuantity {l : Launch} (hst : l.stackTraces = false) {Q : Option Value → Hp → Prop} {X : String → Hp → Prop} {h : Hp} {v : Int32} (q : Q (some (.int (if 1 ≤ v ∧ v ≤ 999 then 1 else 0))) h) : CX9_isQuantity l [.int v] h Q X := by
  refine eX9_isQuantity hst (Nat.le_of_ble_eq_true rfl) (fun K => ?_)
  repeat refine And.intro (by first | assumption | rfl | exact Nat.le_of_ble_eq_true rfl | exact Nat.zero_le _ | decide) ?_
  refine c_isBetween hst ?_
  repeat refine And.intro (by first | assumption | rfl | exact Nat.le_of_ble_eq_true rfl | exact Nat.zero_le _ | decide) ?_
  refine And.intro (by split <;> decide) ?_
  exact q
/-- what is missing to the waiting requests of a part (of all, below 0) among the first k -/
def s_miss (N : Nat → Int32) (P : Int32) : Nat → Int32
  | 0 => 0
  | k + 1 => s_miss N P k + (if P < 0 ∨ N (227 + k * 5 + 1) = P then N (227 + k * 5 + 3) else 0)
theorem c_missingOf {l : Launch} (hst : l.stackTraces = false) {Q : Option Value → Hp → Prop} {X : String → Hp → Prop} {h : Hp} {m : Nat} {F N : Nat → Int32} (hM : MdS h m) {P : Int32} {c : Nat} (hc : N 2 = nI c) (c12 : c ≤ 12) (q : Q (some (.int (s_miss N P c))) (st h m F N)) : CX9_missingOf l [.ref m, .int P] (st h m F N) Q X := by
  refine eX9_missingOf hst (Nat.le_of_ble_eq_true rfl) (fun K hK => ?_)
  repeat (first | (refine And.intro hM.1 (And.intro hM.2.1 ?_); rw [g_st hM]) | (refine And.intro hM.1 ?_; rw [fp_st hM]) | (refine And.intro hM.1 ?_; rw [fg_st hM]) | refine And.intro (by first | exact hM.1 | assumption | rfl | exact Nat.le_of_ble_eq_true rfl | exact Nat.zero_le _ | decide) ?_)
  have hk : ∀ (n i : Nat) (v : Int32), i + n = c → v = s_miss N P i → K 4 [(3, .int (nI i)), (2, .int v), (0, .ref m), (1, .int P)] [] (st h m F N) (0, 0) := by
    intro n
    induction n with
    | zero =>
      intro i v hi hv
      refine hK _ _ _ _ ?_
      repeat (first | (refine And.intro hM.1 (And.intro hM.2.1 ?_); rw [g_st hM]) | (refine And.intro hM.1 ?_; rw [fp_st hM]) | (refine And.intro hM.1 ?_; rw [fg_st hM]) | refine And.intro (by first | exact hM.1 | assumption | rfl | exact Nat.le_of_ble_eq_true rfl | exact Nat.zero_le _ | decide) ?_)
      refine And.intro (k20 hM) (And.intro (vin hM (x := (2 : Int32)) (i := 2) rfl (by decide)) ?_); rw [ld_st hM (x := (2 : Int32)) (i := 2) rfl (by decide)]
      rw [hc]
      refine And.intro (fun hcc => ?_) (fun hcc => ?_)
      · repeat (first | (refine And.intro hM.1 (And.intro hM.2.1 ?_); rw [g_st hM]) | (refine And.intro hM.1 ?_; rw [fp_st hM]) | (refine And.intro hM.1 ?_; rw [fg_st hM]) | refine And.intro (by first | exact hM.1 | assumption | rfl | exact Nat.le_of_ble_eq_true rfl | exact Nat.zero_le _ | decide) ?_)
        rw [hv, show i = c by omega]
        exact q
      · exact absurd (nI_le (by omega) (by omega)) hcc
    | succ n ih =>
      intro i v hi hv
      refine hK _ _ _ _ ?_
      repeat (first | (refine And.intro hM.1 (And.intro hM.2.1 ?_); rw [g_st hM]) | (refine And.intro hM.1 ?_; rw [fp_st hM]) | (refine And.intro hM.1 ?_; rw [fg_st hM]) | refine And.intro (by first | exact hM.1 | assumption | rfl | exact Nat.le_of_ble_eq_true rfl | exact Nat.zero_le _ | decide) ?_)
      refine And.intro (k20 hM) (And.intro (vin hM (x := (2 : Int32)) (i := 2) rfl (by decide)) ?_); rw [ld_st hM (x := (2 : Int32)) (i := 2) rfl (by decide)]
      rw [hc]
      have fin : ∀ x : Int32, v + x = s_miss N P (i + 1) → fX9_missingOf_39 l Q X K [(3, .int (nI i)), (2, .int v), (0, .ref m), (1, .int P)] [.int x, .int v] (st h m F N) (0, 0) := by
        intro x hx
        have := ih (i + 1) (v + x) (by omega) hx
        rw [← nI_1 i] at this
        exact this
      have go29 : (P < 0 ∨ N (227 + i * 5 + 1) = P) → fX9_missingOf_29 l Q X K [(3, .int (nI i)), (2, .int v), (0, .ref m), (1, .int P)] [.int v] (st h m F N) (0, 0) := by
        intro hor
        repeat (first | (refine And.intro hM.1 (And.intro hM.2.1 ?_); rw [g_st hM]) | (refine And.intro hM.1 ?_; rw [fp_st hM]) | (refine And.intro hM.1 ?_; rw [fg_st hM]) | refine And.intro (by first | exact hM.1 | assumption | rfl | exact Nat.le_of_ble_eq_true rfl | exact Nat.zero_le _ | decide) ?_)
        refine c_waits hst hM i 3 rfl rfl (by omega) ?_
        refine fin _ ?_
        rw [hv]
        show _ = s_miss N P i + _
        rw [if_pos hor]
      refine And.intro (fun hcc => ?_) (fun hcc => ?_)
      · exact absurd hcc (nI_ge (by omega) (by omega))
      · refine And.intro (fun hneg => ?_) (fun hneg => ?_)
        · exact go29 (Or.inl hneg)
        · repeat (first | (refine And.intro hM.1 (And.intro hM.2.1 ?_); rw [g_st hM]) | (refine And.intro hM.1 ?_; rw [fp_st hM]) | (refine And.intro hM.1 ?_; rw [fg_st hM]) | refine And.intro (by first | exact hM.1 | assumption | rfl | exact Nat.le_of_ble_eq_true rfl | exact Nat.zero_le _ | decide) ?_)
          refine c_waits hst hM i 1 rfl rfl (by omega) ?_
          refine And.intro (fun heq => ?_) (fun heq => ?_)
          · refine fin 0 ?_
            rw [hv]
            show _ = s_miss N P i + _
            rw [if_neg (fun z => z.elim hneg heq)]
          · exact go29 (Or.inr heq)
  exact hk c 0 _ (by omega) rfl
/-- pieces under way of a part among the first k orders; pieces that repairs will give -/
def s_ord (N : Nat → Int32) (P a : Int32) : Nat → Int32
  | 0 => a
  | k + 1 => s_ord N P a k + (if N (323 + k * 3 + 0) = P then N (323 + k * 3 + 1) else 0)
def s_rep (N : Nat → Int32) (P y a : Int32) : Nat → Int32
  | 0 => a
  | k + 1 => s_rep N P y a k + (if N (287 + k * 3 + 0) = P then N (287 + k * 3 + 1) * y / 100 else 0)
/-- the position of a part -/
def s_pos (N : Nat → Int32) (p : Nat) : Int32 := s_rep N (nI p) (N (7 + p * 23 + 6)) (s_ord N (nI p) (N (7 + p * 23 + 0) - s_miss N (nI p) (N 2).toNatClampNeg) (N 4).toNatClampNeg) (N 3).toNatClampNeg
/-- the counts of a row are in their ranges -/
def cOk (N : Nat → Int32) : Prop := (∃ c : Nat, N 0 = nI c ∧ c ≤ 8) ∧ (∃ c : Nat, N 1 = nI c ∧ c ≤ 4) ∧ (∃ c : Nat, N 2 = nI c ∧ c ≤ 12) ∧ (∃ c : Nat, N 3 = nI c ∧ c ≤ 12) ∧ (∃ c : Nat, N 4 = nI c ∧ c ≤ 12)
theorem c_position {l : Launch} (hst : l.stackTraces = false) {Q : Option Value → Hp → Prop} {X : String → Hp → Prop} {h : Hp} {m : Nat} {F N : Nat → Int32} (hM : MdS h m) {P : Int32} (p : Nat) (hp : P = nI p) (hb : p < 8) (hN : cOk N) (q : Q (some (.int (s_pos N p))) (st h m F N)) : CX9_position l [.ref m, .int P] (st h m F N) Q X := by
  subst hp
  obtain ⟨-, -, ⟨c2, h2, k2⟩, ⟨c3, h3, k3⟩, ⟨c4, h4, k4⟩⟩ := hN
  unfold s_pos at q
  rw [h2, h3, h4, nI_clamp (by omega), nI_clamp (by omega), nI_clamp (by omega)] at q
  refine eX9_position hst (Nat.le_of_ble_eq_true rfl) (fun K hK hK2 => ?_)
  repeat (first | (refine And.intro hM.1 (And.intro hM.2.1 ?_); rw [g_st hM]) | (refine And.intro hM.1 ?_; rw [fp_st hM]) | (refine And.intro hM.1 ?_; rw [fg_st hM]) | refine And.intro (by first | exact hM.1 | assumption | rfl | exact Nat.le_of_ble_eq_true rfl | exact Nat.zero_le _ | decide) ?_)
  refine c_of hst hM p 0 rfl rfl (by omega) ?_
  repeat (first | (refine And.intro hM.1 (And.intro hM.2.1 ?_); rw [g_st hM]) | (refine And.intro hM.1 ?_; rw [fp_st hM]) | (refine And.intro hM.1 ?_; rw [fg_st hM]) | refine And.intro (by first | exact hM.1 | assumption | rfl | exact Nat.le_of_ble_eq_true rfl | exact Nat.zero_le _ | decide) ?_)
  refine c_missingOf hst hM h2 k2 ?_
  repeat (first | (refine And.intro hM.1 (And.intro hM.2.1 ?_); rw [g_st hM]) | (refine And.intro hM.1 ?_; rw [fp_st hM]) | (refine And.intro hM.1 ?_; rw [fg_st hM]) | refine And.intro (by first | exact hM.1 | assumption | rfl | exact Nat.le_of_ble_eq_true rfl | exact Nat.zero_le _ | decide) ?_)
  generalize hA : N (7 + p * 23 + 0) - s_miss N (nI p) c2 = A at q ⊢
  generalize hB : s_ord N (nI p) A c4 = B at q
  have hk2 : ∀ (n i : Nat) (v : Int32), i + n = c3 → v = s_rep N (nI p) (N (7 + p * 23 + 6)) B i → K 62 [(3, .int (nI i)), (2, .int v), (0, .ref m), (1, .int (nI p))] [] (st h m F N) (0, 0) := by
    intro n
    induction n with
    | zero =>
      intro i v hi hv
      refine hK2 _ _ _ _ ?_
      repeat (first | (refine And.intro hM.1 (And.intro hM.2.1 ?_); rw [g_st hM]) | (refine And.intro hM.1 ?_; rw [fp_st hM]) | (refine And.intro hM.1 ?_; rw [fg_st hM]) | refine And.intro (by first | exact hM.1 | assumption | rfl | exact Nat.le_of_ble_eq_true rfl | exact Nat.zero_le _ | decide) ?_)
      refine And.intro (k20 hM) (And.intro (vin hM (x := (3 : Int32)) (i := 3) rfl (by decide)) ?_); rw [ld_st hM (x := (3 : Int32)) (i := 3) rfl (by decide)]
      rw [h3]
      refine And.intro (fun hcc => ?_) (fun hcc => ?_)
      · repeat (first | (refine And.intro hM.1 (And.intro hM.2.1 ?_); rw [g_st hM]) | (refine And.intro hM.1 ?_; rw [fp_st hM]) | (refine And.intro hM.1 ?_; rw [fg_st hM]) | refine And.intro (by first | exact hM.1 | assumption | rfl | exact Nat.le_of_ble_eq_true rfl | exact Nat.zero_le _ | decide) ?_)
        rw [hv, show i = c3 by omega]
        exact q
      · exact absurd (nI_le (by omega) (by omega)) hcc
    | succ n ih =>
      intro i v hi hv
      refine hK2 _ _ _ _ ?_
      repeat (first | (refine And.intro hM.1 (And.intro hM.2.1 ?_); rw [g_st hM]) | (refine And.intro hM.1 ?_; rw [fp_st hM]) | (refine And.intro hM.1 ?_; rw [fg_st hM]) | refine And.intro (by first | exact hM.1 | assumption | rfl | exact Nat.le_of_ble_eq_true rfl | exact Nat.zero_le _ | decide) ?_)
      refine And.intro (k20 hM) (And.intro (vin hM (x := (3 : Int32)) (i := 3) rfl (by decide)) ?_); rw [ld_st hM (x := (3 : Int32)) (i := 3) rfl (by decide)]
      rw [h3]
      have fin : ∀ x : Int32, v + x = s_rep N (nI p) (N (7 + p * 23 + 6)) B (i + 1) → fX9_position_110 l Q X K [(3, .int (nI i)), (2, .int v), (0, .ref m), (1, .int (nI p))] [.int x, .int v] (st h m F N) (0, 0) := by
        intro x hx
        have := ih (i + 1) (v + x) (by omega) hx
        rw [← nI_1 i] at this
        exact this
      refine And.intro (fun hcc => ?_) (fun hcc => ?_)
      · exact absurd hcc (nI_ge (by omega) (by omega))
      · repeat (first | (refine And.intro hM.1 (And.intro hM.2.1 ?_); rw [g_st hM]) | (refine And.intro hM.1 ?_; rw [fp_st hM]) | (refine And.intro hM.1 ?_; rw [fg_st hM]) | refine And.intro (by first | exact hM.1 | assumption | rfl | exact Nat.le_of_ble_eq_true rfl | exact Nat.zero_le _ | decide) ?_)
        refine c_underway hst hM 287 i 0 rfl rfl rfl (by omega) ?_
        refine And.intro (fun heq => ?_) (fun heq => ?_)
        · refine fin 0 ?_
          rw [hv]
          show _ = s_rep N _ _ _ i + _
          rw [if_neg heq]
        · repeat (first | (refine And.intro hM.1 (And.intro hM.2.1 ?_); rw [g_st hM]) | (refine And.intro hM.1 ?_; rw [fp_st hM]) | (refine And.intro hM.1 ?_; rw [fg_st hM]) | refine And.intro (by first | exact hM.1 | assumption | rfl | exact Nat.le_of_ble_eq_true rfl | exact Nat.zero_le _ | decide) ?_)
          refine c_underway hst hM 287 i 1 rfl rfl rfl (by omega) ?_
          repeat (first | (refine And.intro hM.1 (And.intro hM.2.1 ?_); rw [g_st hM]) | (refine And.intro hM.1 ?_; rw [fp_st hM]) | (refine And.intro hM.1 ?_; rw [fg_st hM]) | refine And.intro (by first | exact hM.1 | assumption | rfl | exact Nat.le_of_ble_eq_true rfl | exact Nat.zero_le _ | decide) ?_)
          refine c_of hst hM p 6 rfl rfl (by omega) ?_
          repeat (first | (refine And.intro hM.1 (And.intro hM.2.1 ?_); rw [g_st hM]) | (refine And.intro hM.1 ?_; rw [fp_st hM]) | (refine And.intro hM.1 ?_; rw [fg_st hM]) | refine And.intro (by first | exact hM.1 | assumption | rfl | exact Nat.le_of_ble_eq_true rfl | exact Nat.zero_le _ | decide) ?_)
          refine fin _ ?_
          rw [hv]
          show _ = s_rep N _ _ _ i + _
          rw [if_pos heq]
  have hk : ∀ (n i : Nat) (v : Int32), i + n = c4 → v = s_ord N (nI p) A i → K 15 [(3, .int (nI i)), (2, .int v), (0, .ref m), (1, .int (nI p))] [] (st h m F N) (0, 0) := by
    intro n
    induction n with
    | zero =>
      intro i v hi hv
      refine hK _ _ _ _ ?_
      repeat (first | (refine And.intro hM.1 (And.intro hM.2.1 ?_); rw [g_st hM]) | (refine And.intro hM.1 ?_; rw [fp_st hM]) | (refine And.intro hM.1 ?_; rw [fg_st hM]) | refine And.intro (by first | exact hM.1 | assumption | rfl | exact Nat.le_of_ble_eq_true rfl | exact Nat.zero_le _ | decide) ?_)
      refine And.intro (k20 hM) (And.intro (vin hM (x := (4 : Int32)) (i := 4) rfl (by decide)) ?_); rw [ld_st hM (x := (4 : Int32)) (i := 4) rfl (by decide)]
      rw [h4]
      refine And.intro (fun hcc => ?_) (fun hcc => ?_)
      · refine hk2 c3 0 v (by omega) ?_
        rw [hv, show i = c4 by omega, hB]
        rfl
      · exact absurd (nI_le (by omega) (by omega)) hcc
    | succ n ih =>
      intro i v hi hv
      refine hK _ _ _ _ ?_
      repeat (first | (refine And.intro hM.1 (And.intro hM.2.1 ?_); rw [g_st hM]) | (refine And.intro hM.1 ?_; rw [fp_st hM]) | (refine And.intro hM.1 ?_; rw [fg_st hM]) | refine And.intro (by first | exact hM.1 | assumption | rfl | exact Nat.le_of_ble_eq_true rfl | exact Nat.zero_le _ | decide) ?_)
      refine And.intro (k20 hM) (And.intro (vin hM (x := (4 : Int32)) (i := 4) rfl (by decide)) ?_); rw [ld_st hM (x := (4 : Int32)) (i := 4) rfl (by decide)]
      rw [h4]
      have fin : ∀ x : Int32, v + x = s_ord N (nI p) A (i + 1) → fX9_position_52 l Q X K [(3, .int (nI i)), (2, .int v), (0, .ref m), (1, .int (nI p))] [.int x, .int v] (st h m F N) (0, 0) := by
        intro x hx
        have := ih (i + 1) (v + x) (by omega) hx
        rw [← nI_1 i] at this
        exact this
      refine And.intro (fun hcc => ?_) (fun hcc => ?_)
      · exact absurd hcc (nI_ge (by omega) (by omega))
      · repeat (first | (refine And.intro hM.1 (And.intro hM.2.1 ?_); rw [g_st hM]) | (refine And.intro hM.1 ?_; rw [fp_st hM]) | (refine And.intro hM.1 ?_; rw [fg_st hM]) | refine And.intro (by first | exact hM.1 | assumption | rfl | exact Nat.le_of_ble_eq_true rfl | exact Nat.zero_le _ | decide) ?_)
        refine c_underway hst hM 323 i 0 rfl rfl rfl (by omega) ?_
        refine And.intro (fun heq => ?_) (fun heq => ?_)
        · refine fin 0 ?_
          rw [hv]
          show _ = s_ord N _ _ i + _
          rw [if_neg heq]
        · repeat (first | (refine And.intro hM.1 (And.intro hM.2.1 ?_); rw [g_st hM]) | (refine And.intro hM.1 ?_; rw [fp_st hM]) | (refine And.intro hM.1 ?_; rw [fg_st hM]) | refine And.intro (by first | exact hM.1 | assumption | rfl | exact Nat.le_of_ble_eq_true rfl | exact Nat.zero_le _ | decide) ?_)
          refine c_underway hst hM 323 i 1 rfl rfl rfl (by omega) ?_
          refine fin _ ?_
          rw [hv]
          show _ = s_ord N _ _ i + _
          rw [if_pos heq]
  exact hk c4 0 _ (by omega) (by rw [hA]; rfl)
end M2

section M5
theorem ix_s (b c : Nat) : nI b + nI c * 3 = nI (b + c * 3) := ix2 b 3 c
theorem ix_s1 (b c : Nat) : nI b + nI c * 3 + 1 = nI (b + c * 3 + 1) := by rw [ix_s]; exact nI_1 _
theorem ix_s2 (b c : Nat) : nI b + nI c * 3 + 2 = nI (b + c * 3 + 2) := by rw [ix_s]; exact nI_add _ 2
/-- the three numbers of a new repair or order -/
def r_st3 (N : Nat → Int32) (b c : Nat) (P v e : Int32) : Nat → Int32 := upd (upd (upd N (b + c * 3) P) (b + c * 3 + 1) v) (b + c * 3 + 2) e
def r_start (N : Nat → Int32) (b k c : Nat) (P v e : Int32) : Nat → Int32 := upd (r_st3 N b c P v e) k (r_st3 N b c P v e k + 1)
theorem c_start {l : Launch} (hst : l.stackTraces = false) {Q : Option Value → Hp → Prop} {X : String → Hp → Prop} {h : Hp} {m : Nat} {F N : Nat → Int32} (hM : MdS h m) {B K9 P v e : Int32} (b k c : Nat) (hB : B = nI b) (hK9 : K9 = nI k) (hk : k < 5) (hb : 5 ≤ b) (hc : N k = nI c) (hb2 : b + c * 3 + 2 < 359) (q : Q none (st h m F (r_start N b k c P v e))) : CX9_start l [.ref m, .int B, .int K9, .int P, .int v, .int e] (st h m F N) Q X := by
  subst hB; subst hK9
  refine eX9_start hst (Nat.le_of_ble_eq_true rfl) (fun K => ?_)
  repeat (first | (refine And.intro hM.1 (And.intro hM.2.1 ?_); rw [g_st hM]) | (refine And.intro hM.1 ?_; rw [fp_st hM]) | (refine And.intro hM.1 ?_; rw [fg_st hM]) | refine And.intro (by first | exact hM.1 | assumption | rfl | exact Nat.le_of_ble_eq_true rfl | exact Nat.zero_le _ | decide) ?_)
  refine And.intro (k20 hM) (And.intro (vin hM (i := k) rfl (by omega)) ?_); rw [ld_st hM (i := k) rfl (by omega)]
  rw [hc]
  repeat (first | (refine And.intro hM.1 (And.intro hM.2.1 ?_); rw [g_st hM]) | (refine And.intro hM.1 ?_; rw [fp_st hM]) | (refine And.intro hM.1 ?_; rw [fg_st hM]) | refine And.intro (by first | exact hM.1 | assumption | rfl | exact Nat.le_of_ble_eq_true rfl | exact Nat.zero_le _ | decide) ?_)
  refine And.intro (k20 hM) (And.intro (vin hM (i := b + c * 3) (ix_s b c) (by omega)) ?_); rw [sd_st hM (i := b + c * 3) (ix_s b c) (by omega)]
  repeat (first | (refine And.intro hM.1 (And.intro hM.2.1 ?_); rw [g_st hM]) | (refine And.intro hM.1 ?_; rw [fp_st hM]) | (refine And.intro hM.1 ?_; rw [fg_st hM]) | refine And.intro (by first | exact hM.1 | assumption | rfl | exact Nat.le_of_ble_eq_true rfl | exact Nat.zero_le _ | decide) ?_)
  refine And.intro (k20 hM) (And.intro (vin hM (i := b + c * 3 + 1) (ix_s1 b c) (by omega)) ?_); rw [sd_st hM (i := b + c * 3 + 1) (ix_s1 b c) (by omega)]
  repeat (first | (refine And.intro hM.1 (And.intro hM.2.1 ?_); rw [g_st hM]) | (refine And.intro hM.1 ?_; rw [fp_st hM]) | (refine And.intro hM.1 ?_; rw [fg_st hM]) | refine And.intro (by first | exact hM.1 | assumption | rfl | exact Nat.le_of_ble_eq_true rfl | exact Nat.zero_le _ | decide) ?_)
  refine And.intro (k20 hM) (And.intro (vin hM (i := b + c * 3 + 2) (ix_s2 b c) (by omega)) ?_); rw [sd_st hM (i := b + c * 3 + 2) (ix_s2 b c) (by omega)]
  repeat (first | (refine And.intro hM.1 (And.intro hM.2.1 ?_); rw [g_st hM]) | (refine And.intro hM.1 ?_; rw [fp_st hM]) | (refine And.intro hM.1 ?_; rw [fg_st hM]) | refine And.intro (by first | exact hM.1 | assumption | rfl | exact Nat.le_of_ble_eq_true rfl | exact Nat.zero_le _ | decide) ?_)
  refine And.intro (k20 hM) (And.intro (vin hM (i := k) rfl (by omega)) ?_); rw [ld_st hM (i := k) rfl (by omega)]
  refine And.intro (k20 hM) (And.intro (vin hM (i := k) rfl (by omega)) ?_); rw [sd_st hM (i := k) rfl (by omega)]
  repeat (first | (refine And.intro hM.1 (And.intro hM.2.1 ?_); rw [g_st hM]) | (refine And.intro hM.1 ?_; rw [fp_st hM]) | (refine And.intro hM.1 ?_; rw [fg_st hM]) | refine And.intro (by first | exact hM.1 | assumption | rfl | exact Nat.le_of_ble_eq_true rfl | exact Nat.zero_le _ | decide) ?_)
  exact q
/-- row i of those under way is taken out; c is how many remain -/
def r_fu (N : Nat → Int32) (b k i c : Nat) : Nat → Int32 := fun j => if b + i * 3 ≤ j ∧ j < b + c * 3 then N (j + 3) else if j = k then nI c else N j
theorem c_forgetUnderway {l : Launch} (hst : l.stackTraces = false) {Q : Option Value → Hp → Prop} {X : String → Hp → Prop} {h : Hp} {m : Nat} {F N : Nat → Int32} (hM : MdS h m) {B K9 P : Int32} (b k i c : Nat) (hB : B = nI b) (hK9 : K9 = nI k) (hp : P = nI i) (hk5 : k < 5) (hb5 : 5 ≤ b) (hc : N k = nI (c + 1)) (c12 : c + 1 ≤ 12) (hb2 : b + 36 ≤ 359) (hi : i < c + 1) (q : Q none (st h m F (r_fu N b k i c))) : CX9_forgetUnderway l [.ref m, .int B, .int K9, .int P] (st h m F N) Q X := by
  subst hp; subst hB; subst hK9
  refine eX9_forgetUnderway hst (Nat.le_of_ble_eq_true rfl) (fun K hK => ?_)
  repeat (first | (refine And.intro hM.1 (And.intro hM.2.1 ?_); rw [g_st hM]) | (refine And.intro hM.1 ?_; rw [fp_st hM]) | (refine And.intro hM.1 ?_; rw [fg_st hM]) | refine And.intro (by first | exact hM.1 | assumption | rfl | exact Nat.le_of_ble_eq_true rfl | exact Nat.zero_le _ | decide) ?_)
  refine And.intro (k20 hM) (And.intro (vin hM (i := k) rfl (by omega)) ?_); rw [ld_st hM (i := k) rfl (by omega)]
  refine And.intro (k20 hM) (And.intro (vin hM (i := k) rfl (by omega)) ?_); rw [sd_st hM (i := k) rfl (by omega)]
  rw [hc, show nI (c + 1) - 1 = nI c from nI_pred c]
  have hk : ∀ (n j : Nat) (M : Nat → Int32), j + n = b + c * 3 → b + i * 3 ≤ j → (M = fun x => if b + i * 3 ≤ x ∧ x < j then N (x + 3) else if x = k then nI c else N x) → K 17 [(4, .int (nI j)), (0, .ref m), (1, .int (nI b)), (2, .int (nI k)), (3, .int (nI i))] [] (st h m F M) (0, 0) := by
    intro n
    induction n with
    | zero =>
      intro j M hj h1 hMM
      have e2 : M k = nI c := by rw [hMM]; show (if _ then _ else _) = _; rw [if_neg (by omega)]; exact if_pos rfl
      refine hK _ _ _ _ ?_
      repeat (first | (refine And.intro hM.1 (And.intro hM.2.1 ?_); rw [g_st hM]) | (refine And.intro hM.1 ?_; rw [fp_st hM]) | (refine And.intro hM.1 ?_; rw [fg_st hM]) | refine And.intro (by first | exact hM.1 | assumption | rfl | exact Nat.le_of_ble_eq_true rfl | exact Nat.zero_le _ | decide) ?_)
      refine And.intro (k20 hM) (And.intro (vin hM (i := k) rfl (by omega)) ?_); rw [ld_st hM (i := k) rfl (by omega)]
      rw [e2]
      refine And.intro (fun hcc => ?_) (fun hcc => ?_)
      · repeat (first | (refine And.intro hM.1 (And.intro hM.2.1 ?_); rw [g_st hM]) | (refine And.intro hM.1 ?_; rw [fp_st hM]) | (refine And.intro hM.1 ?_; rw [fg_st hM]) | refine And.intro (by first | exact hM.1 | assumption | rfl | exact Nat.le_of_ble_eq_true rfl | exact Nat.zero_le _ | decide) ?_)
        rw [hMM, show j = b + c * 3 by omega]
        exact q
      · exact absurd (by rw [ix_s]; exact nI_le (by omega) (by omega)) hcc
    | succ n ih =>
      intro j M hj h1 hMM
      have e2 : M k = nI c := by rw [hMM]; show (if _ then _ else _) = _; rw [if_neg (by omega)]; exact if_pos rfl
      refine hK _ _ _ _ ?_
      repeat (first | (refine And.intro hM.1 (And.intro hM.2.1 ?_); rw [g_st hM]) | (refine And.intro hM.1 ?_; rw [fp_st hM]) | (refine And.intro hM.1 ?_; rw [fg_st hM]) | refine And.intro (by first | exact hM.1 | assumption | rfl | exact Nat.le_of_ble_eq_true rfl | exact Nat.zero_le _ | decide) ?_)
      refine And.intro (k20 hM) (And.intro (vin hM (i := k) rfl (by omega)) ?_); rw [ld_st hM (i := k) rfl (by omega)]
      rw [e2]
      refine And.intro (fun hcc => ?_) (fun hcc => ?_)
      · exact absurd hcc (by rw [ix_s]; exact nI_ge (by omega) (by omega))
      · repeat (first | (refine And.intro hM.1 (And.intro hM.2.1 ?_); rw [g_st hM]) | (refine And.intro hM.1 ?_; rw [fp_st hM]) | (refine And.intro hM.1 ?_; rw [fg_st hM]) | refine And.intro (by first | exact hM.1 | assumption | rfl | exact Nat.le_of_ble_eq_true rfl | exact Nat.zero_le _ | decide) ?_)
        refine And.intro (k20 hM) (And.intro (vin hM (i := j + 3) (show nI j + (3 : Int32) = nI (j + 3) from nI_add j 3) (by omega)) ?_); rw [ld_st hM (i := j + 3) (show nI j + (3 : Int32) = nI (j + 3) from nI_add j 3) (by omega)]
        refine And.intro (k20 hM) (And.intro (vin hM (i := j) rfl (by omega)) ?_); rw [sd_st hM (i := j) rfl (by omega)]
        have := ih (j + 1) (upd M j (M (j + 3))) (by omega) (by omega) (by
          funext x
          by_cases e : x = j
          · subst e
            rw [pk_us, hMM]
            show (if _ then _ else _) = if _ then _ else _
            rw [if_neg (by omega), if_neg (by omega), if_pos (by omega)]
          · rw [pk_un e, hMM]
            show (if _ then _ else _) = if _ then _ else _
            by_cases g : b + i * 3 ≤ x ∧ x < j
            · rw [if_pos g, if_pos (by omega)]
            · rw [if_neg g, if_neg (show ¬ (b + i * 3 ≤ x ∧ x < j + 1) by omega)])
        rw [← nI_1 j] at this
        exact this
  have := hk (b + c * 3 - (b + i * 3)) (b + i * 3) (upd N k (nI c)) (by omega) (by omega) (by
    funext x
    show _ = if _ then _ else _
    rw [if_neg (by omega)]
    rfl)
  rw [← ix_s] at this
  exact this
/-- a request, without asking -/
def r_wait (N : Nat → Int32) (c : Nat) (P q miss : Int32) : Nat → Int32 := upd (upd (upd (upd (upd N (227 + c * 5) (N 6)) (227 + c * 5 + 1) P) (227 + c * 5 + 2) q) (227 + c * 5 + 3) miss) (227 + c * 5 + 4) (N 5)
def r_req1 (N : Nat → Int32) (p : Nat) (q : Int32) : Nat → Int32 :=
  let r := r_serve N p q
  let N2 := upd r.2 (7 + p * 23 + 21) (r.2 (7 + p * 23 + 21) + q)
  upd N2 (7 + p * 23 + 22) (N2 (7 + p * 23 + 22) + (q - r.1))
def r_req (N : Nat → Int32) (p : Nat) (q : Int32) (c : Nat) : Nat → Int32 :=
  let N3 := r_req1 N p q
  let N5 := if (r_serve N p q).1 ≤ 0 then N3 else upd (r_wait N3 c (nI p) q (r_serve N p q).1) 2 (nI c + 1)
  upd N5 6 (N5 6 + 1)
/-- whether a request is refused -/
def s_reqBad (N : Nat → Int32) (p : Nat) (q : Int32) : Prop := s_av N p (N (7 + p * 23 + 8)).toNatClampNeg < q ∧ N 2 = 12
theorem ix_q (c : Nat) : (227 : Int32) + nI c * 5 = nI (227 + c * 5) := ix2 227 5 c
theorem ix_qk (c k : Nat) : (227 : Int32) + nI c * 5 + nI k = nI (227 + c * 5 + k) := by rw [ix_q]; exact nI_add _ k
theorem r_wait_o {N : Nat → Int32} {c : Nat} {P q z : Int32} {j : Nat} (h : j < 227 + c * 5 ∨ 227 + c * 5 + 5 ≤ j) : r_wait N c P q z j = N j := by
  unfold r_wait
  rw [pk_un (by omega), pk_un (by omega), pk_un (by omega), pk_un (by omega), pk_un (by omega)]
theorem r_req1_s {N : Nat → Int32} {p : Nat} {w : Int32} (hp : p < 8) (hs : subOk N p) {j : Nat} (h : stru j) : r_req1 N p w j = N j := by
  unfold r_req1
  show upd _ _ _ j = _
  rw [pk_un (by unfold stru at h; omega), pk_un (by unfold stru at h; omega), r_serve_s hp hs h]
theorem c_doRequest {l : Launch} (hst : l.stackTraces = false) {Q : Option Value → Hp → Prop} {X : String → Hp → Prop} {h : Hp} {m : Nat} {F N : Nat → Int32} (hM : MdS h m) {P v : Int32} {c0 c1 c2 c3 c4 : Nat} (p : Nat) (hp : P = nI p) (hp0 : p < c0) (hN : WFc N c0 c1 c2 c3 c4) (q1 : s_reqBad N p v → Q (some (.int (-1))) (st h m (upd F 7 1) N)) (q2 : ¬ s_reqBad N p v → c2 < 12 ∨ (r_serve N p v).1 ≤ 0 → Q (some (.int (v - (r_serve N p v).1))) (st h m F (r_req N p v c2))) (hfull : ¬ s_reqBad N p v → c2 < 12 ∨ (r_serve N p v).1 ≤ 0) : CX9_doRequest l [.ref m, .int P, .int v] (st h m F N) Q X := by
  subst hp
  have k0 := hN.1.2
  have e2 := hN.2.2.1.1
  have k2 := hN.2.2.1.2
  have hsub := hN.sub hp0
  refine eX9_doRequest hst (Nat.le_of_ble_eq_true rfl) (fun K => ?_)
  repeat (first | (refine And.intro hM.1 (And.intro hM.2.1 ?_); rw [g_st hM]) | (refine And.intro hM.1 ?_; rw [fp_st hM]) | (refine And.intro hM.1 ?_; rw [fg_st hM]) | refine And.intro (by first | exact hM.1 | assumption | rfl | exact Nat.le_of_ble_eq_true rfl | exact Nat.zero_le _ | decide) ?_)
  refine c_availableOf hst hM p rfl (by omega) hsub ?_
  have go27 : ¬ s_reqBad N p v → fX9_doRequest_27 l Q X K (lv_args 0 [.ref m, .int (nI p), .int v]) [] (st h m F N) (0, 0) := by
    intro hbad
    repeat (first | (refine And.intro hM.1 (And.intro hM.2.1 ?_); rw [g_st hM]) | (refine And.intro hM.1 ?_; rw [fp_st hM]) | (refine And.intro hM.1 ?_; rw [fg_st hM]) | refine And.intro (by first | exact hM.1 | assumption | rfl | exact Nat.le_of_ble_eq_true rfl | exact Nat.zero_le _ | decide) ?_)
    refine c_serve hst hM p rfl (by omega) hsub ?_
    repeat (first | (refine And.intro hM.1 (And.intro hM.2.1 ?_); rw [g_st hM]) | (refine And.intro hM.1 ?_; rw [fp_st hM]) | (refine And.intro hM.1 ?_; rw [fg_st hM]) | refine And.intro (by first | exact hM.1 | assumption | rfl | exact Nat.le_of_ble_eq_true rfl | exact Nat.zero_le _ | decide) ?_)
    refine c_increase hst hM p 21 rfl rfl (by omega) ?_
    repeat (first | (refine And.intro hM.1 (And.intro hM.2.1 ?_); rw [g_st hM]) | (refine And.intro hM.1 ?_; rw [fp_st hM]) | (refine And.intro hM.1 ?_; rw [fg_st hM]) | refine And.intro (by first | exact hM.1 | assumption | rfl | exact Nat.le_of_ble_eq_true rfl | exact Nat.zero_le _ | decide) ?_)
    refine c_increase hst hM p 22 rfl rfl (by omega) ?_
    have fin := q2 hbad (hfull hbad)
    generalize hN3 : upd (upd (r_serve N p v).2 (7 + p * 23 + 21) ((r_serve N p v).2 (7 + p * 23 + 21) + v)) (7 + p * 23 + 22) (upd (r_serve N p v).2 (7 + p * 23 + 21) ((r_serve N p v).2 (7 + p * 23 + 21) + v) (7 + p * 23 + 22) + (v - (r_serve N p v).1)) = N3
    have eN3 : r_req1 N p v = N3 := hN3
    have e3 : N3 2 = nI c2 := by rw [← eN3, r_req1_s (by omega) hsub (Or.inl (by decide))]; exact e2
    unfold r_req at fin
    dsimp only at fin
    rw [eN3] at fin
    refine And.intro (fun hz => ?_) (fun hz => ?_)
    · rw [if_pos hz] at fin
      repeat (first | (refine And.intro hM.1 (And.intro hM.2.1 ?_); rw [g_st hM]) | (refine And.intro hM.1 ?_; rw [fp_st hM]) | (refine And.intro hM.1 ?_; rw [fg_st hM]) | refine And.intro (by first | exact hM.1 | assumption | rfl | exact Nat.le_of_ble_eq_true rfl | exact Nat.zero_le _ | decide) ?_)
      refine And.intro (k20 hM) (And.intro (vin hM (x := (6 : Int32)) (i := 6) rfl (by decide)) ?_); rw [ld_st hM (x := (6 : Int32)) (i := 6) rfl (by decide)]
      refine And.intro (k20 hM) (And.intro (vin hM (x := (6 : Int32)) (i := 6) rfl (by decide)) ?_); rw [sd_st hM (x := (6 : Int32)) (i := 6) rfl (by decide)]
      repeat (first | (refine And.intro hM.1 (And.intro hM.2.1 ?_); rw [g_st hM]) | (refine And.intro hM.1 ?_; rw [fp_st hM]) | (refine And.intro hM.1 ?_; rw [fg_st hM]) | refine And.intro (by first | exact hM.1 | assumption | rfl | exact Nat.le_of_ble_eq_true rfl | exact Nat.zero_le _ | decide) ?_)
      exact fin
    · rw [if_neg hz] at fin
      have hc12 : c2 < 12 := (hfull hbad).resolve_right hz
      repeat (first | (refine And.intro hM.1 (And.intro hM.2.1 ?_); rw [g_st hM]) | (refine And.intro hM.1 ?_; rw [fp_st hM]) | (refine And.intro hM.1 ?_; rw [fg_st hM]) | refine And.intro (by first | exact hM.1 | assumption | rfl | exact Nat.le_of_ble_eq_true rfl | exact Nat.zero_le _ | decide) ?_)
      refine And.intro (k20 hM) (And.intro (vin hM (x := (2 : Int32)) (i := 2) rfl (by decide)) ?_); rw [ld_st hM (x := (2 : Int32)) (i := 2) rfl (by decide)]
      rw [e3]
      repeat (first | (refine And.intro hM.1 (And.intro hM.2.1 ?_); rw [g_st hM]) | (refine And.intro hM.1 ?_; rw [fp_st hM]) | (refine And.intro hM.1 ?_; rw [fg_st hM]) | refine And.intro (by first | exact hM.1 | assumption | rfl | exact Nat.le_of_ble_eq_true rfl | exact Nat.zero_le _ | decide) ?_)
      refine And.intro (k20 hM) (And.intro (vin hM (x := (6 : Int32)) (i := 6) rfl (by decide)) ?_); rw [ld_st hM (x := (6 : Int32)) (i := 6) rfl (by decide)]
      refine And.intro (k20 hM) (And.intro (vin hM (i := 227 + c2 * 5) (show (227 : Int32) + nI c2 * 5 + 0 = nI (227 + c2 * 5) from ix_qk c2 0) (by omega)) ?_); rw [sd_st hM (i := 227 + c2 * 5) (show (227 : Int32) + nI c2 * 5 + 0 = nI (227 + c2 * 5) from ix_qk c2 0) (by omega)]
      repeat (first | (refine And.intro hM.1 (And.intro hM.2.1 ?_); rw [g_st hM]) | (refine And.intro hM.1 ?_; rw [fp_st hM]) | (refine And.intro hM.1 ?_; rw [fg_st hM]) | refine And.intro (by first | exact hM.1 | assumption | rfl | exact Nat.le_of_ble_eq_true rfl | exact Nat.zero_le _ | decide) ?_)
      refine And.intro (k20 hM) (And.intro (vin hM (i := 227 + c2 * 5 + 1) (show (227 : Int32) + nI c2 * 5 + 1 = nI (227 + c2 * 5 + 1) from ix_qk c2 1) (by omega)) ?_); rw [sd_st hM (i := 227 + c2 * 5 + 1) (show (227 : Int32) + nI c2 * 5 + 1 = nI (227 + c2 * 5 + 1) from ix_qk c2 1) (by omega)]
      repeat (first | (refine And.intro hM.1 (And.intro hM.2.1 ?_); rw [g_st hM]) | (refine And.intro hM.1 ?_; rw [fp_st hM]) | (refine And.intro hM.1 ?_; rw [fg_st hM]) | refine And.intro (by first | exact hM.1 | assumption | rfl | exact Nat.le_of_ble_eq_true rfl | exact Nat.zero_le _ | decide) ?_)
      refine And.intro (k20 hM) (And.intro (vin hM (i := 227 + c2 * 5 + 2) (show (227 : Int32) + nI c2 * 5 + 2 = nI (227 + c2 * 5 + 2) from ix_qk c2 2) (by omega)) ?_); rw [sd_st hM (i := 227 + c2 * 5 + 2) (show (227 : Int32) + nI c2 * 5 + 2 = nI (227 + c2 * 5 + 2) from ix_qk c2 2) (by omega)]
      repeat (first | (refine And.intro hM.1 (And.intro hM.2.1 ?_); rw [g_st hM]) | (refine And.intro hM.1 ?_; rw [fp_st hM]) | (refine And.intro hM.1 ?_; rw [fg_st hM]) | refine And.intro (by first | exact hM.1 | assumption | rfl | exact Nat.le_of_ble_eq_true rfl | exact Nat.zero_le _ | decide) ?_)
      refine And.intro (k20 hM) (And.intro (vin hM (i := 227 + c2 * 5 + 3) (show (227 : Int32) + nI c2 * 5 + 3 = nI (227 + c2 * 5 + 3) from ix_qk c2 3) (by omega)) ?_); rw [sd_st hM (i := 227 + c2 * 5 + 3) (show (227 : Int32) + nI c2 * 5 + 3 = nI (227 + c2 * 5 + 3) from ix_qk c2 3) (by omega)]
      repeat (first | (refine And.intro hM.1 (And.intro hM.2.1 ?_); rw [g_st hM]) | (refine And.intro hM.1 ?_; rw [fp_st hM]) | (refine And.intro hM.1 ?_; rw [fg_st hM]) | refine And.intro (by first | exact hM.1 | assumption | rfl | exact Nat.le_of_ble_eq_true rfl | exact Nat.zero_le _ | decide) ?_)
      refine And.intro (k20 hM) (And.intro (vin hM (x := (5 : Int32)) (i := 5) rfl (by decide)) ?_); rw [ld_st hM (x := (5 : Int32)) (i := 5) rfl (by decide)]
      refine And.intro (k20 hM) (And.intro (vin hM (i := 227 + c2 * 5 + 4) (show (227 : Int32) + nI c2 * 5 + 4 = nI (227 + c2 * 5 + 4) from ix_qk c2 4) (by omega)) ?_); rw [sd_st hM (i := 227 + c2 * 5 + 4) (show (227 : Int32) + nI c2 * 5 + 4 = nI (227 + c2 * 5 + 4) from ix_qk c2 4) (by omega)]
      have e5 : upd (upd (upd (upd N3 (227 + c2 * 5) (N3 6)) (227 + c2 * 5 + 1) (nI p)) (227 + c2 * 5 + 2) v) (227 + c2 * 5 + 3) (r_serve N p v).1 5 = N3 5 := by
        rw [pk_un (by omega), pk_un (by omega), pk_un (by omega), pk_un (by omega)]
      rw [e5]
      have eW : upd (upd (upd (upd (upd N3 (227 + c2 * 5) (N3 6)) (227 + c2 * 5 + 1) (nI p)) (227 + c2 * 5 + 2) v) (227 + c2 * 5 + 3) (r_serve N p v).1) (227 + c2 * 5 + 4) (N3 5) = r_wait N3 c2 (nI p) v (r_serve N p v).1 := rfl
      rw [eW]
      repeat (first | (refine And.intro hM.1 (And.intro hM.2.1 ?_); rw [g_st hM]) | (refine And.intro hM.1 ?_; rw [fp_st hM]) | (refine And.intro hM.1 ?_; rw [fg_st hM]) | refine And.intro (by first | exact hM.1 | assumption | rfl | exact Nat.le_of_ble_eq_true rfl | exact Nat.zero_le _ | decide) ?_)
      refine And.intro (k20 hM) (And.intro (vin hM (x := (2 : Int32)) (i := 2) rfl (by decide)) ?_); rw [ld_st hM (x := (2 : Int32)) (i := 2) rfl (by decide)]
      refine And.intro (k20 hM) (And.intro (vin hM (x := (2 : Int32)) (i := 2) rfl (by decide)) ?_); rw [sd_st hM (x := (2 : Int32)) (i := 2) rfl (by decide)]
      rw [r_wait_o (j := 2) (by omega), e3]
      repeat (first | (refine And.intro hM.1 (And.intro hM.2.1 ?_); rw [g_st hM]) | (refine And.intro hM.1 ?_; rw [fp_st hM]) | (refine And.intro hM.1 ?_; rw [fg_st hM]) | refine And.intro (by first | exact hM.1 | assumption | rfl | exact Nat.le_of_ble_eq_true rfl | exact Nat.zero_le _ | decide) ?_)
      refine And.intro (k20 hM) (And.intro (vin hM (x := (6 : Int32)) (i := 6) rfl (by decide)) ?_); rw [ld_st hM (x := (6 : Int32)) (i := 6) rfl (by decide)]
      refine And.intro (k20 hM) (And.intro (vin hM (x := (6 : Int32)) (i := 6) rfl (by decide)) ?_); rw [sd_st hM (x := (6 : Int32)) (i := 6) rfl (by decide)]
      repeat (first | (refine And.intro hM.1 (And.intro hM.2.1 ?_); rw [g_st hM]) | (refine And.intro hM.1 ?_; rw [fp_st hM]) | (refine And.intro hM.1 ?_; rw [fg_st hM]) | refine And.intro (by first | exact hM.1 | assumption | rfl | exact Nat.le_of_ble_eq_true rfl | exact Nat.zero_le _ | decide) ?_)
      exact fin
  refine And.intro (fun hge => ?_) (fun hge => ?_)
  · exact go27 (fun z => absurd z.1 (Int32.not_lt.mpr hge))
  · repeat (first | (refine And.intro hM.1 (And.intro hM.2.1 ?_); rw [g_st hM]) | (refine And.intro hM.1 ?_; rw [fp_st hM]) | (refine And.intro hM.1 ?_; rw [fg_st hM]) | refine And.intro (by first | exact hM.1 | assumption | rfl | exact Nat.le_of_ble_eq_true rfl | exact Nat.zero_le _ | decide) ?_)
    refine And.intro (k20 hM) (And.intro (vin hM (x := (2 : Int32)) (i := 2) rfl (by decide)) ?_); rw [ld_st hM (x := (2 : Int32)) (i := 2) rfl (by decide)]
    refine And.intro (fun hne => ?_) (fun hne => ?_)
    · exact go27 (fun z => hne z.2)
    · repeat (first | (refine And.intro hM.1 (And.intro hM.2.1 ?_); rw [g_st hM]) | (refine And.intro hM.1 ?_; rw [fp_st hM]) | (refine And.intro hM.1 ?_; rw [fg_st hM]) | refine And.intro (by first | exact hM.1 | assumption | rfl | exact Nat.le_of_ble_eq_true rfl | exact Nat.zero_le _ | decide) ?_)
      refine c_keepReason hst hM ?_
      repeat (first | (refine And.intro hM.1 (And.intro hM.2.1 ?_); rw [g_st hM]) | (refine And.intro hM.1 ?_; rw [fp_st hM]) | (refine And.intro hM.1 ?_; rw [fg_st hM]) | refine And.intro (by first | exact hM.1 | assumption | rfl | exact Nat.le_of_ble_eq_true rfl | exact Nat.zero_le _ | decide) ?_)
      exact q1 ⟨Int32.not_le.mp hge, hne⟩
/-- pieces from a repair that ends, and the row then -/
def s_rp (N : Nat → Int32) (p : Nat) (v : Int32) : Int32 := lss ((N (7 + p * 23 + 7) + v * N (7 + p * 23 + 6)) / 100) v
def r_rp (N : Nat → Int32) (p : Nat) (v : Int32) : Nat → Int32 :=
  let s := N (7 + p * 23 + 7) + v * N (7 + p * 23 + 6)
  let x := s_rp N p v
  let N1 := upd N (7 + p * 23 + 7) (s - 100 * x)
  let N2 := upd N1 (7 + p * 23 + 0) (N1 (7 + p * 23 + 0) + x)
  let N3 := upd N2 (7 + p * 23 + 18) (N2 (7 + p * 23 + 18) + x)
  upd N3 (7 + p * 23 + 19) (N3 (7 + p * 23 + 19) + (v - x))
theorem r_rp_s {N : Nat → Int32} {p : Nat} {v : Int32} (hp : p < 8) {j : Nat} (h : stru j) : r_rp N p v j = N j := by
  unfold r_rp
  show upd _ _ _ j = _
  rw [pk_un (by unfold stru at h; omega), pk_un (by unfold stru at h; omega), pk_un (by unfold stru at h; omega), pk_un (by unfold stru at h; omega)]
theorem c_repairPieces {l : Launch} (hst : l.stackTraces = false) {Q : Option Value → Hp → Prop} {X : String → Hp → Prop} {h : Hp} {m : Nat} {F N : Nat → Int32} (hM : MdS h m) {P v : Int32} (p : Nat) (hp : P = nI p) (hb : p < 8) (q : Q (some (.int (s_rp N p v))) (st h m F (r_rp N p v))) : CX9_repairPieces l [.ref m, .int P, .int v] (st h m F N) Q X := by
  subst hp
  refine eX9_repairPieces hst (Nat.le_of_ble_eq_true rfl) (fun K => ?_)
  repeat (first | (refine And.intro hM.1 (And.intro hM.2.1 ?_); rw [g_st hM]) | (refine And.intro hM.1 ?_; rw [fp_st hM]) | (refine And.intro hM.1 ?_; rw [fg_st hM]) | refine And.intro (by first | exact hM.1 | assumption | rfl | exact Nat.le_of_ble_eq_true rfl | exact Nat.zero_le _ | decide) ?_)
  refine c_of hst hM p 7 rfl rfl (by omega) ?_
  repeat (first | (refine And.intro hM.1 (And.intro hM.2.1 ?_); rw [g_st hM]) | (refine And.intro hM.1 ?_; rw [fp_st hM]) | (refine And.intro hM.1 ?_; rw [fg_st hM]) | refine And.intro (by first | exact hM.1 | assumption | rfl | exact Nat.le_of_ble_eq_true rfl | exact Nat.zero_le _ | decide) ?_)
  refine c_of hst hM p 6 rfl rfl (by omega) ?_
  repeat (first | (refine And.intro hM.1 (And.intro hM.2.1 ?_); rw [g_st hM]) | (refine And.intro hM.1 ?_; rw [fp_st hM]) | (refine And.intro hM.1 ?_; rw [fg_st hM]) | refine And.intro (by first | exact hM.1 | assumption | rfl | exact Nat.le_of_ble_eq_true rfl | exact Nat.zero_le _ | decide) ?_)
  refine c_lesser hst ?_
  repeat (first | (refine And.intro hM.1 (And.intro hM.2.1 ?_); rw [g_st hM]) | (refine And.intro hM.1 ?_; rw [fp_st hM]) | (refine And.intro hM.1 ?_; rw [fg_st hM]) | refine And.intro (by first | exact hM.1 | assumption | rfl | exact Nat.le_of_ble_eq_true rfl | exact Nat.zero_le _ | decide) ?_)
  refine c_set hst hM p 7 rfl rfl (by omega) ?_
  repeat (first | (refine And.intro hM.1 (And.intro hM.2.1 ?_); rw [g_st hM]) | (refine And.intro hM.1 ?_; rw [fp_st hM]) | (refine And.intro hM.1 ?_; rw [fg_st hM]) | refine And.intro (by first | exact hM.1 | assumption | rfl | exact Nat.le_of_ble_eq_true rfl | exact Nat.zero_le _ | decide) ?_)
  refine c_increase hst hM p 0 rfl rfl (by omega) ?_
  repeat (first | (refine And.intro hM.1 (And.intro hM.2.1 ?_); rw [g_st hM]) | (refine And.intro hM.1 ?_; rw [fp_st hM]) | (refine And.intro hM.1 ?_; rw [fg_st hM]) | refine And.intro (by first | exact hM.1 | assumption | rfl | exact Nat.le_of_ble_eq_true rfl | exact Nat.zero_le _ | decide) ?_)
  refine c_increase hst hM p 18 rfl rfl (by omega) ?_
  repeat (first | (refine And.intro hM.1 (And.intro hM.2.1 ?_); rw [g_st hM]) | (refine And.intro hM.1 ?_; rw [fp_st hM]) | (refine And.intro hM.1 ?_; rw [fg_st hM]) | refine And.intro (by first | exact hM.1 | assumption | rfl | exact Nat.le_of_ble_eq_true rfl | exact Nat.zero_le _ | decide) ?_)
  refine c_increase hst hM p 19 rfl rfl (by omega) ?_
  repeat (first | (refine And.intro hM.1 (And.intro hM.2.1 ?_); rw [g_st hM]) | (refine And.intro hM.1 ?_; rw [fp_st hM]) | (refine And.intro hM.1 ?_; rw [fg_st hM]) | refine And.intro (by first | exact hM.1 | assumption | rfl | exact Nat.le_of_ble_eq_true rfl | exact Nat.zero_le _ | decide) ?_)
  exact q
end M5

section R6
theorem c_isLetter {l : Launch} (hst : l.stackTraces = false) {Q : Option Value → Hp → Prop} {X : String → Hp → Prop} {h : Hp} {c : Int32} (q1 : isL c → Q (some (.int 1)) h) (q0 : ¬ isL c → Q (some (.int 0)) h) : CX9_isLetter l [.int c] h Q X := by
  refine eX9_isLetter hst (Nat.le_of_ble_eq_true rfl) (fun K => ?_)
  refine And.intro (fun h1 => ?_) (fun h1 => ?_)
  · repeat (refine And.intro (by first | assumption | rfl | exact Nat.le_of_ble_eq_true rfl | exact Nat.zero_le _ | decide) ?_)
    exact q1 (Or.inl h1)
  refine And.intro (fun h2 => ?_) (fun h2 => ?_)
  · repeat (refine And.intro (by first | assumption | rfl | exact Nat.le_of_ble_eq_true rfl | exact Nat.zero_le _ | decide) ?_)
    exact q1 (Or.inr (Or.inl h2))
  refine And.intro (fun h3 => ?_) (fun h3 => ?_)
  · repeat (refine And.intro (by first | assumption | rfl | exact Nat.le_of_ble_eq_true rfl | exact Nat.zero_le _ | decide) ?_)
    exact q1 (Or.inr (Or.inr (Or.inl h3)))
  refine And.intro (fun h4 => ?_) (fun h4 => ?_)
  · repeat (refine And.intro (by first | assumption | rfl | exact Nat.le_of_ble_eq_true rfl | exact Nat.zero_le _ | decide) ?_)
    exact q0 (fun z => by
      rcases z with z | z | z | z
      · exact h1 z
      · exact h2 z
      · exact h3 z
      · exact h4 z)
  · repeat (refine And.intro (by first | assumption | rfl | exact Nat.le_of_ble_eq_true rfl | exact Nat.zero_le _ | decide) ?_)
    exact q1 (Or.inr (Or.inr (Or.inr h4)))
/-- F' is what a refused entry leaves, but for the parser's lack -/
def EF (N : Nat → Int32) (e : Ent) (F F' : Nat → Int32) : Prop := ∀ j, j ≠ 10 → j ≠ 11 → F' j = enF N e F j
theorem c_carryOut {l : Launch} (hst : l.stackTraces = false) {Q : Option Value → Hp → Prop} {X : String → Hp → Prop} {h : Hp} {m : Nat} {F N : Nat → Int32} (hM : MdS h m) (hL9 : MdL h m) {c0 c1 c2 c3 c4 : Nat} {B : Int} (g : GI N c0 c1 c2 c3 c4 B) {e : Ent} (he : EnOk e) (hday : ∀ p, p < c0 → 0 ≤ N 5 + N (7 + p * 23 + 5)) (q1 : ∀ h' N', en N e = some N' → Mf m h h' → hI h' (m + 3) = hI h (m + 3) → Q (some (.int 1)) (st h' m F N')) (q0 : ∀ h' F' N', en N e = none → Mf m h h' → hI h' (m + 3) = hI h (m + 3) → EF N e F F' → Q (some (.int 0)) (st h' m F' N')) : CX9_carryOut l [.ref m, .int e.k, .int (nI e.a), .int (nI e.b)] (st h m F N) Q X := by
  obtain ⟨k, a, b⟩ := e
  obtain ⟨hk, ha9, hb9, ha7⟩ := he
  have ha9' : a ≤ 9 := ha9
  have hb9' : b ≤ 999 := hb9
  have hN := g.wf
  have k8 := hN.1.2
  have k4 := hN.2.1.2
  have k3 := hN.2.2.2.1
  have bi : (nI b).toInt = b := nI_toInt (by omega)
  have ap : 0 ≤ nI a := nI_pos' (show a < 2 ^ 31 by omega)
  have m2 : (N 2).toNatClampNeg = c2 := by rw [hN.2.2.1.1]; exact nI_clamp (by have := hN.2.2.1.2; omega)
  have m3 : (N 3).toNatClampNeg = c3 := by rw [k3.1]; exact nI_clamp (by omega)
  have m3l : N 3 < 12 ↔ c3 < 12 := by rw [k3.1]; exact nI_ltI (a := c3) (b := 12) (by omega) (by decide)
  have hm0 : nI a < N 0 ↔ a < c0 := by rw [hN.1.1]; exact nI_ltI (by omega) (by omega)
  have hm1 : nI a < N 1 ↔ a < c1 := by rw [hN.2.1.1]; exact nI_ltI (by omega) (by omega)
  refine eX9_carryOut hst (Nat.le_of_ble_eq_true rfl) (fun K => ?_)
  rcases hk with hk | hk | ⟨hl, b1⟩
  · have : k = 107 := hk
    subst this
    refine And.intro (fun _ => ?_) (fun z => absurd (show (107 : Int32) = 100 from z) (by decide))
    refine And.intro (fun z => absurd rfl z) (fun _ => ?_)
    by_cases hv : a < c1
    · repeat (first | (refine And.intro hM.1 (And.intro hM.2.1 ?_); rw [g_st hM]) | (refine And.intro hM.1 ?_; rw [fp_st hM]) | (refine And.intro hM.1 ?_; rw [fg_st hM]) | refine And.intro (by first | exact hM.1 | assumption | rfl | exact Nat.le_of_ble_eq_true rfl | exact Nat.zero_le _ | decide) ?_)
      refine c_isKit1 hst hM hN.2.1.1 hN.2.1.2 hv ?_
      refine And.intro (fun z => absurd z (by decide)) (fun _ => ?_)
      repeat (first | (refine And.intro hM.1 (And.intro hM.2.1 ?_); rw [g_st hM]) | (refine And.intro hM.1 ?_; rw [fp_st hM]) | (refine And.intro hM.1 ?_; rw [fg_st hM]) | refine And.intro (by first | exact hM.1 | assumption | rfl | exact Nat.le_of_ble_eq_true rfl | exact Nat.zero_le _ | decide) ?_)
      refine c_doTake hst hM hL9 g hv (fun h' f e3 hb => ?_) (fun h' N' f e3 en9 hb => ?_) (kt_ge hv g)
      · refine And.intro (fun z => absurd (kt_ge hv g hb) (Int32.not_le.mpr z)) (fun _ => ?_)
        repeat (refine And.intro (by first | assumption | rfl | exact Nat.le_of_ble_eq_true rfl | exact Nat.zero_le _ | decide) ?_)
        refine q1 h' _ ?_ f e3
        unfold en
        dsimp only [Ent.k, Ent.a, Ent.b]
        rw [if_neg (show ¬ (107 : Int32) = 100 by decide), if_pos rfl, if_pos (hm1.mpr hv), if_pos hb]
      · refine And.intro (fun _ => ?_) (fun z => absurd (by decide) z)
        repeat (refine And.intro (by first | assumption | rfl | exact Nat.le_of_ble_eq_true rfl | exact Nat.zero_le _ | decide) ?_)
        refine q0 h' _ N' ?_ f e3 (fun j j1 j2 => ?_)
        · unfold en
          dsimp only [Ent.k, Ent.a, Ent.b]
          rw [if_neg (show ¬ (107 : Int32) = 100 by decide), if_pos rfl, if_pos (hm1.mpr hv), if_neg (by rw [hb]; decide)]
        · unfold enF
          dsimp only [Ent.k, Ent.a, Ent.b]
          rw [if_pos rfl, if_pos (hm1.mpr hv)]
          by_cases z9 : j = 9
          · subst z9; rw [pk_us, pk_us]
          rw [pk_un z9, pk_un z9]
          by_cases z8 : j = 8
          · subst z8; rw [pk_us, pk_us]
          rw [pk_un z8, pk_un z8]
          by_cases z7 : j = 7
          · subst z7; rw [pk_us, pk_us]
          rw [pk_un z7, pk_un z7, pk_un j2, pk_un j1]
    · repeat (first | (refine And.intro hM.1 (And.intro hM.2.1 ?_); rw [g_st hM]) | (refine And.intro hM.1 ?_; rw [fp_st hM]) | (refine And.intro hM.1 ?_; rw [fg_st hM]) | refine And.intro (by first | exact hM.1 | assumption | rfl | exact Nat.le_of_ble_eq_true rfl | exact Nat.zero_le _ | decide) ?_)
      refine c_isKit0 hst hM hN.2.1.1 hN.2.1.2 (fun z => hv ((nI_ltI (by omega) (by omega)).mp z.2)) ?_
      refine And.intro (fun _ => ?_) (fun z => absurd rfl z)
      repeat (refine And.intro (by first | assumption | rfl | exact Nat.le_of_ble_eq_true rfl | exact Nat.zero_le _ | decide) ?_)
      refine q0 h F N ?_ Mf.rf rfl (fun j _ _ => ?_)
      · unfold en
        dsimp only [Ent.k, Ent.a, Ent.b]
        rw [if_neg (show ¬ (107 : Int32) = 100 by decide), if_pos rfl, if_neg (fun z => hv (hm1.mp z))]
      · unfold enF
        dsimp only [Ent.k, Ent.a, Ent.b]
        rw [if_pos rfl, if_neg (fun z => hv (hm1.mp z))]
  · have : k = 100 := hk
    subst this
    refine And.intro (fun z => absurd rfl z) (fun _ => ?_)
    repeat (first | (refine And.intro hM.1 (And.intro hM.2.1 ?_); rw [g_st hM]) | (refine And.intro hM.1 ?_; rw [fp_st hM]) | (refine And.intro hM.1 ?_; rw [fg_st hM]) | refine And.intro (by first | exact hM.1 | assumption | rfl | exact Nat.le_of_ble_eq_true rfl | exact Nat.zero_le _ | decide) ?_)
    refine c_doAdvance hst hM a rfl (by omega) hN ?_
    repeat (first | (refine And.intro hM.1 (And.intro hM.2.1 ?_); rw [g_st hM]) | (refine And.intro hM.1 ?_; rw [fp_st hM]) | (refine And.intro hM.1 ?_; rw [fg_st hM]) | refine And.intro (by first | exact hM.1 | assumption | rfl | exact Nat.le_of_ble_eq_true rfl | exact Nat.zero_le _ | decide) ?_)
    refine q1 h _ ?_ Mf.rf rfl
    unfold en
    rw [if_pos rfl]
  · have n1 : ¬ k = 100 := by rcases hl with hl | hl | hl | hl <;> (rw [show k = _ from hl]; decide)
    have n2 : ¬ k = 107 := by rcases hl with hl | hl | hl | hl <;> (rw [show k = _ from hl]; decide)
    refine And.intro (fun _ => ?_) (fun z => absurd z n1)
    refine And.intro (fun _ => ?_) (fun z => absurd z n2)
    by_cases hv : a < c0
    rotate_left
    · repeat (first | (refine And.intro hM.1 (And.intro hM.2.1 ?_); rw [g_st hM]) | (refine And.intro hM.1 ?_; rw [fp_st hM]) | (refine And.intro hM.1 ?_; rw [fg_st hM]) | refine And.intro (by first | exact hM.1 | assumption | rfl | exact Nat.le_of_ble_eq_true rfl | exact Nat.zero_le _ | decide) ?_)
      refine c_isPart0 hst hM hN.1.1 hN.1.2 (fun z => hv ((nI_ltI (by omega) (by omega)).mp z.2)) ?_
      refine And.intro (fun z => absurd rfl z) (fun _ => ?_)
      repeat (refine And.intro (by first | assumption | rfl | exact Nat.le_of_ble_eq_true rfl | exact Nat.zero_le _ | decide) ?_)
      refine q0 h F N ?_ Mf.rf rfl (fun j _ _ => ?_)
      · unfold en
        rw [if_neg n1, if_neg n2, if_neg (fun z => hv (hm0.mp z))]
      · unfold enF
        rw [if_neg n2, if_neg (fun z => hv (hm0.mp z))]
    have h0 := hm0.mpr hv
    have bi1 : 1 ≤ (nI b).toInt ∧ (nI b).toInt ≤ 999 := by have : 1 ≤ b := b1; omega
    repeat (first | (refine And.intro hM.1 (And.intro hM.2.1 ?_); rw [g_st hM]) | (refine And.intro hM.1 ?_; rw [fp_st hM]) | (refine And.intro hM.1 ?_; rw [fg_st hM]) | refine And.intro (by first | exact hM.1 | assumption | rfl | exact Nat.le_of_ble_eq_true rfl | exact Nat.zero_le _ | decide) ?_)
    refine c_isPart1 hst hM hN.1.1 hN.1.2 hv ?_
    refine And.intro (fun _ => ?_) (fun z => absurd z (by decide))
    have hl' : k = 114 ∨ k = 103 ∨ k = 98 ∨ k = 115 := hl
    rcases hl' with rfl | rfl | rfl | rfl
    · have eN : en N (114, a, b) = if rqB N a (nI b) then none else some (r_req N a (nI b) c2) := by
        unfold en
        dsimp only [Ent.k, Ent.a, Ent.b]
        rw [if_neg (by decide), if_neg (by decide), if_pos h0, if_pos rfl, m2]
      refine And.intro (fun z => absurd rfl z) (fun _ => ?_)
      repeat (first | (refine And.intro hM.1 (And.intro hM.2.1 ?_); rw [g_st hM]) | (refine And.intro hM.1 ?_; rw [fp_st hM]) | (refine And.intro hM.1 ?_; rw [fg_st hM]) | refine And.intro (by first | exact hM.1 | assumption | rfl | exact Nat.le_of_ble_eq_true rfl | exact Nat.zero_le _ | decide) ?_)
      have sn := serve_num hN g.ni.sk hv (v := nI b) (by omega)
      have ge0 : 0 ≤ nI b - (r_serve N a (nI b)).1 := Int32.le_iff_toInt_le.mpr (by
        rw [isub_i (by omega) (by omega)]
        have e0 : (0 : Int32).toInt = 0 := rfl
        omega)
      refine c_doRequest hst hM a rfl hv hN (fun hb => ?_) (fun hb hf => ?_) (fun hb => av_full g hv (v := nI b) (by omega) hb)
      · rw [if_pos (show rqB N a (nI b) from hb)] at eN
        refine And.intro (fun _ => ?_) (fun z => absurd (by decide) z)
        repeat (refine And.intro (by first | assumption | rfl | exact Nat.le_of_ble_eq_true rfl | exact Nat.zero_le _ | decide) ?_)
        refine q0 h _ N eN Mf.rf rfl (fun j _ _ => ?_)
        unfold enF
        dsimp only [Ent.k, Ent.a, Ent.b]
        rw [if_neg (by decide), if_pos h0, if_pos rfl]
      · rw [if_neg (show ¬ rqB N a (nI b) from hb)] at eN
        refine And.intro (fun z => absurd ge0 (Int32.not_le.mpr z)) (fun _ => ?_)
        repeat (refine And.intro (by first | assumption | rfl | exact Nat.le_of_ble_eq_true rfl | exact Nat.zero_le _ | decide) ?_)
        exact q1 h _ eN Mf.rf rfl
    · have eN : en N (103, a, b) = some (r_swA (r_bkG N a (nI b))).1 := by
        unfold en
        dsimp only [Ent.k, Ent.a, Ent.b]
        rw [if_neg (by decide), if_neg (by decide), if_pos h0, if_neg (by decide), if_neg (by decide), if_pos rfl]
      refine And.intro (fun _ => ?_) (fun z => absurd (show (103 : Int32) = 114 from z) (by decide))
      refine And.intro (fun _ => ?_) (fun z => absurd (show (103 : Int32) = 115 from z) (by decide))
      refine And.intro (fun z => absurd rfl z) (fun _ => ?_)
      repeat (first | (refine And.intro hM.1 (And.intro hM.2.1 ?_); rw [g_st hM]) | (refine And.intro hM.1 ?_; rw [fp_st hM]) | (refine And.intro hM.1 ?_; rw [fg_st hM]) | refine And.intro (by first | exact hM.1 | assumption | rfl | exact Nat.le_of_ble_eq_true rfl | exact Nat.zero_le _ | decide) ?_)
      refine c_doGiveBackG hst hM hN (by decide) hv ?_
      repeat (first | (refine And.intro hM.1 (And.intro hM.2.1 ?_); rw [g_st hM]) | (refine And.intro hM.1 ?_; rw [fp_st hM]) | (refine And.intro hM.1 ?_; rw [fg_st hM]) | refine And.intro (by first | exact hM.1 | assumption | rfl | exact Nat.le_of_ble_eq_true rfl | exact Nat.zero_le _ | decide) ?_)
      exact q1 h _ eN Mf.rf rfl
    · have eN : en N (98, a, b) = some (r_bkB N a (nI b)) := by
        unfold en
        dsimp only [Ent.k, Ent.a, Ent.b]
        rw [if_neg (by decide), if_neg (by decide), if_pos h0, if_neg (by decide), if_neg (by decide), if_neg (by decide)]
      refine And.intro (fun _ => ?_) (fun z => absurd (show (98 : Int32) = 114 from z) (by decide))
      refine And.intro (fun _ => ?_) (fun z => absurd (show (98 : Int32) = 115 from z) (by decide))
      refine And.intro (fun _ => ?_) (fun z => absurd (show (98 : Int32) = 103 from z) (by decide))
      repeat (first | (refine And.intro hM.1 (And.intro hM.2.1 ?_); rw [g_st hM]) | (refine And.intro hM.1 ?_; rw [fp_st hM]) | (refine And.intro hM.1 ?_; rw [fg_st hM]) | refine And.intro (by first | exact hM.1 | assumption | rfl | exact Nat.le_of_ble_eq_true rfl | exact Nat.zero_le _ | decide) ?_)
      refine c_doGiveBackB hst hM hN hv ?_
      repeat (first | (refine And.intro hM.1 (And.intro hM.2.1 ?_); rw [g_st hM]) | (refine And.intro hM.1 ?_; rw [fp_st hM]) | (refine And.intro hM.1 ?_; rw [fg_st hM]) | refine And.intro (by first | exact hM.1 | assumption | rfl | exact Nat.le_of_ble_eq_true rfl | exact Nat.zero_le _ | decide) ?_)
      exact q1 h _ eN Mf.rf rfl
    · have eN : en N (115, a, b) = if N (7 + a * 23 + 1) < nI b then none else if N 3 < 12 then some (r_send N a (nI b) c3) else none := by
        unfold en
        dsimp only [Ent.k, Ent.a, Ent.b]
        rw [if_neg (by decide), if_neg (by decide), if_pos h0, if_neg (by decide), if_pos rfl, m3]
      have eF : enF N (115, a, b) F = if N (7 + a * 23 + 1) < nI b then upd F 7 2 else upd F 7 1 := by
        unfold enF
        dsimp only [Ent.k, Ent.a, Ent.b]
        rw [if_neg (by decide), if_pos h0, if_neg (by decide)]
      refine And.intro (fun _ => ?_) (fun z => absurd (show (115 : Int32) = 114 from z) (by decide))
      refine And.intro (fun z => absurd rfl z) (fun _ => ?_)
      repeat (first | (refine And.intro hM.1 (And.intro hM.2.1 ?_); rw [g_st hM]) | (refine And.intro hM.1 ?_; rw [fp_st hM]) | (refine And.intro hM.1 ?_; rw [fg_st hM]) | refine And.intro (by first | exact hM.1 | assumption | rfl | exact Nat.le_of_ble_eq_true rfl | exact Nat.zero_le _ | decide) ?_)
      refine c_doSend hst hM hN hv (fun h1 => ?_) (fun h1 h3 => ?_) (fun h1 h3 => ?_)
      · rw [if_pos h1] at eN eF
        refine And.intro (fun _ => ?_) (fun z => absurd (by decide) z)
        repeat (refine And.intro (by first | assumption | rfl | exact Nat.le_of_ble_eq_true rfl | exact Nat.zero_le _ | decide) ?_)
        exact q0 h _ N eN Mf.rf rfl (fun j _ _ => by rw [eF])
      · rw [if_neg h1] at eN eF
        rw [if_neg (fun z => by have := m3l.mp z; omega)] at eN
        refine And.intro (fun _ => ?_) (fun z => absurd (by decide) z)
        repeat (refine And.intro (by first | assumption | rfl | exact Nat.le_of_ble_eq_true rfl | exact Nat.zero_le _ | decide) ?_)
        exact q0 h _ N eN Mf.rf rfl (fun j _ _ => by rw [eF])
      · rw [if_neg h1, if_pos (m3l.mpr h3)] at eN
        refine And.intro (fun z => absurd (hday a hv) (Int32.not_le.mpr z)) (fun _ => ?_)
        repeat (refine And.intro (by first | assumption | rfl | exact Nat.le_of_ble_eq_true rfl | exact Nat.zero_le _ | decide) ?_)
        exact q1 h _ eN Mf.rf rfl
end R6

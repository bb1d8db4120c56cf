section H2
theorem cmpV : Op.cmpValue (some .gt) .g = 1 ∧ Op.cmpValue (some .lt) .g = -1 ∧ Op.cmpValue (some .eq) .g = 0 := ⟨rfl, rfl, rfl⟩
theorem dec32 (e : Nat) (h : e < 127) : nI (e + 1) + (-1) = nI e := (show ∀ e : Fin 127, nI (e.val + 1) + (-1) = nI e.val by decide +kernel) ⟨e, h⟩
theorem gt32 (e : Nat) (h : 1 < e) (h2 : e < 128) : ¬ nI e ≤ 1 := (show ∀ e : Fin 128, 1 < e.val → ¬ nI e.val ≤ 1 by decide +kernel) ⟨e, h2⟩ h
theorem dec64 (e : Nat) (h : e < 1023) : Int64.ofNat (e + 1) - 1 = Int64.ofNat e := (show ∀ e : Fin 1023, Int64.ofNat (e.val + 1) - 1 = Int64.ofNat e.val by decide +kernel) ⟨e, h⟩
theorem gt64 (e : Nat) (h : 1 < e) (h2 : e < 1024) : ¬ lg_cmp (Int64.ofNat e) 1 ≤ 0 := (show ∀ e : Fin 1024, 1 < e.val → ¬ lg_cmp (Int64.ofNat e.val) 1 ≤ 0 by decide +kernel) ⟨e, h2⟩ h
theorem d_bitsOf {l : Launch} (hst : l.stackTraces = false) {Q : Option Value → Hp → Prop} {X : String → Hp → Prop} {H : Hp} {v : UInt32} (hv : FlOk v) (q : Q (some (.int v.toInt32)) H) : CX8_bitsOf l [.float v] H Q X := by
  refine eX8_bitsOf hst (Nat.le_of_ble_eq_true rfl) (fun K hK => ?_)
  rcases hv with rfl | ⟨c, q0, e, h1, h2, h3, h4, -⟩
  · refine And.intro (fun hg => ?_) (fun hg => ?_)
    · exact absurd hg (by decide +kernel)
    · repeat (refine And.intro (by first | assumption | rfl | exact Nat.le_of_ble_eq_true rfl | exact Nat.zero_le _ | decide) ?_)
      exact q
  · have ez : FP.fcmp v 0 = some .gt := fl_zero32 e h1
    obtain ⟨t, rfl⟩ : ∃ t, c = FP.Core.b32.tails + t := ⟨c - 2 ^ 23, by rw [FP.Core.tails_b32]; omega⟩
    have ht : t < FP.Core.b32.tails := by rw [FP.Core.tails_b32] at h2 ⊢; omega
    have ht' : t < 2 ^ 23 := ht
    have eb := FlOk.bits e h1
    have loop : ∀ (n : Nat) (s : UInt32) (q1 : Int), q1 + n = -23 → q0 ≤ q1 → FP.Core.val32 s = .fin false (FP.Core.b32.tails + t) q1 → K 13 [(2, .int (nI (q0 + 150 + n).toNat)), (1, .float s), (0, .float v)] [] H (0, 0) := by
      intro n
      induction n with
      | zero =>
        intro s q1 hq hq0 es
        have : q1 = -23 := by omega
        subst this
        obtain ⟨g1, g2, g3⟩ := fl_frac32 es ht
        refine hK _ _ _ _ ?_
        have hc := (fl_cmp32 es h1 h2).2 rfl
        refine And.intro (fun hg => ?_) (fun hg => ?_)
        · refine And.intro (vf_n32_of g1) ?_
          refine And.intro (vf_n32_of g2) ?_
          repeat (refine And.intro (by first | assumption | rfl | exact Nat.le_of_ble_eq_true rfl | exact Nat.zero_le _ | decide) ?_)
          have ev : nI (q0 + 150 + (0 : Nat)).toNat <<< ((23 : Int32) &&& 31) ||| FP.f2i (FP.fmul (FP.fsub s 1065353216) 1258291200) = v.toInt32 := by
            rw [g3, fl_toInt32, eb, show ((23 : Int32) &&& 31) = 23 from by decide]
            have j := fl_join32 (e := (q0 + 149).toNat + 1) (t := t) (by omega) ht'
            have k : (q0 + 150 + (0 : Nat)).toNat = (q0 + 149).toNat + 1 := by omega
            have k2 : FP.Core.b32.tails + t - 2 ^ 23 = t := by rw [FP.Core.tails_b32]; omega
            rw [k2, ← j, k]
            rfl
          rw [ev]
          exact q
        · exfalso
          rcases hc with hc | hc
          · exact hg (by show (0 : Int32) ≤ Op.cmpValue (FP.fcmp s 1065353216) .g; rw [hc]; decide)
          · exact hg (by show (0 : Int32) ≤ Op.cmpValue (FP.fcmp s 1065353216) .g; rw [hc]; decide)
      | succ n ih =>
        intro s q1 hq hq0 es
        have hl : q1 < -23 := by omega
        have hc := (fl_cmp32 es h1 h2).1 hl
        have hd := fl_dbl32 es h1 h2 (by omega) hl
        have en : (q0 + 150 + (n + 1 : Nat)).toNat = (q0 + 150 + n).toNat + 1 := by omega
        refine hK _ _ _ _ ?_
        refine And.intro (fun hg => ?_) (fun hg => ?_)
        · exfalso
          have hg' : (0 : Int32) ≤ Op.cmpValue (FP.fcmp s 1065353216) .g := hg
          rw [hc] at hg'
          exact absurd hg' (by decide)
        · refine And.intro (fun hg2 => ?_) (fun hg2 => ?_)
          · exact absurd hg2 (gt32 _ (by omega) (by omega))
          · refine And.intro (vf_n32_of (by rw [hd]; exact fun z => nomatch z)) ?_
            have := ih _ (q1 + 1) (by omega) (by omega) hd
            have ed := dec32 (q0 + 150 + n).toNat (by omega)
            rw [← ed, ← en] at this
            exact this
    refine And.intro (fun hg => ?_) (fun hg => ?_)
    · have := loop (-23 - q0).toNat v q0 (by omega) (Int.le_refl _) e
      have k : (q0 + 150 + ((-23 - q0).toNat : Nat)).toNat = 127 := by omega
      rw [k] at this
      exact this
    · exfalso
      exact hg (by show (0 : Int32) < Op.cmpValue (FP.fcmp v 0) .g; rw [ez]; decide)
theorem d_longBitsOf {l : Launch} (hst : l.stackTraces = false) {Q : Option Value → Hp → Prop} {X : String → Hp → Prop} {H : Hp} {v : UInt64} (hv : DlOk v) (q : Q (some (.long v.toInt64)) H) : CX8_longBitsOf l [.double v] H Q X := by
  refine eX8_longBitsOf hst (Nat.le_of_ble_eq_true rfl) (fun K hK => ?_)
  rcases hv with rfl | ⟨c, q0, e, h1, h2, h3, h4⟩
  · refine And.intro (fun hg => ?_) (fun hg => ?_)
    · exact absurd hg (by decide +kernel)
    · repeat (refine And.intro (by first | assumption | rfl | exact Nat.le_of_ble_eq_true rfl | exact Nat.zero_le _ | decide) ?_)
      exact q
  · have ez : FP.dcmp v 0 = some .gt := fl_zero64 e h1
    obtain ⟨t, rfl⟩ : ∃ t, c = FP.Core.b64.tails + t := ⟨c - 2 ^ 52, by rw [FP.Core.tails_b64]; omega⟩
    have ht : t < FP.Core.b64.tails := by rw [FP.Core.tails_b64] at h2 ⊢; omega
    have ht' : t < 2 ^ 52 := ht
    have eb := DlOk.bits e h1
    have loop : ∀ (n : Nat) (s : UInt64) (q1 : Int), q1 + n = -52 → q0 ≤ q1 → FP.Core.val64 s = .fin false (FP.Core.b64.tails + t) q1 → K 15 [(4, .long (Int64.ofNat (q0 + 1075 + n).toNat)), (2, .double s), (0, .double v)] [] H (0, 0) := by
      intro n
      induction n with
      | zero =>
        intro s q1 hq hq0 es
        have : q1 = -52 := by omega
        subst this
        obtain ⟨g1, g2, g3⟩ := fl_frac64 es ht
        refine hK _ _ _ _ ?_
        have hc := (fl_cmp64 es h1 h2).2 rfl
        refine And.intro (fun hg => ?_) (fun hg => ?_)
        · refine And.intro (vf_n64_of g1) ?_
          refine And.intro (vf_n64_of g2) ?_
          repeat (refine And.intro (by first | assumption | rfl | exact Nat.le_of_ble_eq_true rfl | exact Nat.zero_le _ | decide) ?_)
          have ev : Int64.ofNat (q0 + 1075 + (0 : Nat)).toNat <<< ((52 : Int32).toInt64 &&& 63) ||| FP.d2l (FP.dmul (FP.dsub s 4607182418800017408) 4841369599423283200) = v.toInt64 := by
            rw [g3, fl_toInt64, eb, show ((52 : Int32).toInt64 &&& 63) = 52 from by decide]
            have j := fl_join64 (e := (q0 + 1074).toNat + 1) (t := t) (by omega) ht'
            have k : (q0 + 1075 + (0 : Nat)).toNat = (q0 + 1074).toNat + 1 := by omega
            have k2 : FP.Core.b64.tails + t - 2 ^ 52 = t := by rw [FP.Core.tails_b64]; omega
            rw [k2, ← j, k]
          rw [ev]
          exact q
        · exfalso
          rcases hc with hc | hc
          · exact hg (by show (0 : Int32) ≤ Op.cmpValue (FP.dcmp s 4607182418800017408) .g; rw [hc]; decide)
          · exact hg (by show (0 : Int32) ≤ Op.cmpValue (FP.dcmp s 4607182418800017408) .g; rw [hc]; decide)
      | succ n ih =>
        intro s q1 hq hq0 es
        have hl : q1 < -52 := by omega
        have hc := (fl_cmp64 es h1 h2).1 hl
        have hd := fl_dbl64 es h1 h2 (by omega) hl
        have en : (q0 + 1075 + (n + 1 : Nat)).toNat = (q0 + 1075 + n).toNat + 1 := by omega
        refine hK _ _ _ _ ?_
        refine And.intro (fun hg => ?_) (fun hg => ?_)
        · exfalso
          have hg' : (0 : Int32) ≤ Op.cmpValue (FP.dcmp s 4607182418800017408) .g := hg
          rw [hc] at hg'
          exact absurd hg' (by decide)
        · refine And.intro (fun hg2 => ?_) (fun hg2 => ?_)
          · exact absurd hg2 (gt64 _ (by omega) (by omega))
          · refine And.intro (vf_n64_of (by rw [hd]; exact fun z => nomatch z)) ?_
            have := ih _ (q1 + 1) (by omega) (by omega) hd
            have ed := dec64 (q0 + 1075 + n).toNat (by omega)
            rw [← ed, ← en] at this
            exact this
    refine And.intro (fun hg => ?_) (fun hg => ?_)
    · have := loop (-52 - q0).toNat v q0 (by omega) (Int.le_refl _) e
      have k : (q0 + 1075 + ((-52 - q0).toNat : Nat)).toNat = 1023 := by omega
      rw [k] at this
      exact this
    · exfalso
      exact hg (by show (0 : Int32) < Op.cmpValue (FP.dcmp v 0) .g; rw [ez]; decide)
/-- the share of part p -/
def s_sh (N : Nat → Int32) (p : Nat) : UInt32 := FP.fdiv (FP.i2f (N (7 + p * 23 + 22))) (FP.i2f (N (7 + p * 23 + 21)))
theorem sh_ok {N : Nat → Int32} {c0 c1 c2 c3 c4 : Nat} {B : Int} (g : GI N c0 c1 c2 c3 c4 B) {p : Nat} (hp : p < c0) (hr : ¬ N (7 + p * 23 + 21) ≤ 0) : FlOk (s_sh N p) := by
  obtain ⟨a1, a2, a3⟩ := g.2.2.2.1 p hp
  have b := g.b16
  have r0 : 0 < (N (7 + p * 23 + 21)).toInt := by
    have : ¬ (N (7 + p * 23 + 21)).toInt ≤ 0 := fun z => hr (Int32.le_iff_toInt_le.mpr z)
    omega
  exact fs_ok (a := (N (7 + p * 23 + 22)).toInt.toNat) (b := (N (7 + p * 23 + 21)).toInt.toNat) (by omega) (by omega) (by omega) (by omega) (by omega)
/-- how many of the first n parts were requested -/
def s_cnt (N : Nat → Int32) : Nat → Nat
  | 0 => 0
  | n + 1 => s_cnt N n + (if N (7 + n * 23 + 21) ≤ 0 then 0 else 1)
theorem s_cnt_le (N : Nat → Int32) : ∀ n, s_cnt N n ≤ n
  | 0 => Nat.le_refl _
  | n + 1 => by
    have := s_cnt_le N n
    have e : s_cnt N (n + 1) = s_cnt N n + (if N (7 + n * 23 + 21) ≤ 0 then 0 else 1) := rfl
    rw [e]
    split <;> omega
/-- the sum of their shares -/
def s_sum (N : Nat → Int32) : Nat → UInt64
  | 0 => 0
  | n + 1 => if N (7 + n * 23 + 21) ≤ 0 then s_sum N n else FP.dadd (s_sum N n) (FP.f2d (s_sh N n))
theorem sum_ok {N : Nat → Int32} {c0 c1 c2 c3 c4 : Nat} {B : Int} (g : GI N c0 c1 c2 c3 c4 B) : ∀ n, n ≤ c0 → SOk (s_sum N n) (s_cnt N n)
  | 0, _ => SOk.zero
  | n + 1, hn => by
    have ih := sum_ok g n (by omega)
    have c8 := g.wf.1.2
    have e1 : s_cnt N (n + 1) = s_cnt N n + (if N (7 + n * 23 + 21) ≤ 0 then 0 else 1) := rfl
    have e2 : s_sum N (n + 1) = if N (7 + n * 23 + 21) ≤ 0 then s_sum N n else FP.dadd (s_sum N n) (FP.f2d (s_sh N n)) := rfl
    have := s_cnt_le N n
    by_cases h : N (7 + n * 23 + 21) ≤ 0
    · rw [e1, e2, if_pos h, if_pos h]; exact ih
    · rw [e1, e2, if_neg h, if_neg h]
      exact sm_add ih (sm_f2d (sh_ok g (by omega) h)) (by omega)
/-- the weakest of the first n parts -/
def s_wk (N : Nat → Int32) : Nat → Option Nat
  | 0 => none
  | n + 1 => if N (7 + n * 23 + 21) ≤ 0 then s_wk N n else match s_wk N n with
    | none => some n
    | some p => if 0 ≤ Op.cmpValue (FP.fcmp (s_sh N n) (s_sh N p)) .g then some p else some n
def wkI : Option Nat → Int32
  | none => -1
  | some p => nI p
def wkF (N : Nat → Int32) : Option Nat → UInt32
  | none => 0
  | some p => s_sh N p
theorem s_wk_lt (N : Nat → Int32) : ∀ n p, s_wk N n = some p → p < n ∧ ¬ N (7 + p * 23 + 21) ≤ 0
  | 0, p => fun h => nomatch h
  | n + 1, p => by
    intro h
    have ih := s_wk_lt N n
    have e : s_wk N (n + 1) = if N (7 + n * 23 + 21) ≤ 0 then s_wk N n else match s_wk N n with | none => some n | some p => if 0 ≤ Op.cmpValue (FP.fcmp (s_sh N n) (s_sh N p)) .g then some p else some n := rfl
    rw [e] at h
    by_cases hz : N (7 + n * 23 + 21) ≤ 0
    · rw [if_pos hz] at h
      exact ⟨Nat.lt_succ_of_lt (ih p h).1, (ih p h).2⟩
    · rw [if_neg hz] at h
      cases w : s_wk N n with
      | none =>
        rw [w] at h
        cases h
        exact ⟨Nat.lt_succ_self _, hz⟩
      | some p' =>
        rw [w] at h
        dsimp only at h
        split at h
        · cases h
          exact ⟨Nat.lt_succ_of_lt (ih p w).1, (ih p w).2⟩
        · cases h
          exact ⟨Nat.lt_succ_self _, hz⟩
theorem d_share {l : Launch} (hst : l.stackTraces = false) {Q : Option Value → Hp → Prop} {X : String → Hp → Prop} {h0 H : Hp} {w : Nat} {σ ρ : Nat → Nat} {N : Nat → Int32} {c0 c1 c2 c3 c4 : Nat} (W : Wv [] h0 H w σ ρ N c0 c1 c2 c3 c4) {B : Int} (g : GI N c0 c1 c2 c3 c4 B) {p : Nat} (hp : p < c0) (hr : ¬ N (7 + p * 23 + 21) ≤ 0) (q : Q (some (.float (s_sh N p))) H) : CX3_share l [.ref (w + 32 + 3 * p)] H Q X := by
  refine eX3_share hst (Nat.le_of_ble_eq_true rfl) (fun K => ?_)
  refine iRqd W hp ?_
  refine And.intro (fun hz => ?_) (fun hz => ?_)
  · exact absurd hz hr
  · refine iSrv W hp ?_
    refine iRqd W hp ?_
    refine And.intro (vf_n32_of (sh_ok g hp hr).nn) ?_
    repeat (refine And.intro (by first | assumption | rfl | exact Nat.le_of_ble_eq_true rfl | exact Nat.zero_le _ | decide) ?_)
    exact q
theorem d_requestedParts {l : Launch} (hst : l.stackTraces = false) {Q : Option Value → Hp → Prop} {X : String → Hp → Prop} {h0 H : Hp} {w : Nat} {σ ρ : Nat → Nat} {N : Nat → Int32} {c0 c1 c2 c3 c4 : Nat} (W : Wv [] h0 H w σ ρ N c0 c1 c2 c3 c4) (q : Q (some (.int (nI (s_cnt N c0)))) H) : CX7_requestedParts l [.ref w] H Q X := by
  have c8 := W.1.1.2
  refine eX7_requestedParts hst (Nat.le_of_ble_eq_true rfl) (fun K hK => ?_)
  have loop : ∀ n i, i + n = c0 → K 4 [(2, .int (nI i)), (1, .int (nI (s_cnt N i))), (0, .ref w)] [] H (0, 0) := by
    intro n
    induction n with
    | zero =>
      intro i hi
      have : i = c0 := by omega
      subst this
      refine hK _ _ _ _ ?_
      refine iPC W ?_
      refine And.intro (fun hc => ?_) (fun hc => ?_)
      · repeat (refine And.intro (by first | assumption | rfl | exact Nat.le_of_ble_eq_true rfl | exact Nat.zero_le _ | decide) ?_)
        exact q
      · exact absurd (show N 0 ≤ nI i by rw [W.1.1.1]; exact Int32.le_refl _) hc
    | succ n ih =>
      intro i hi
      have hi' : i < c0 := by omega
      have i1 := ih (i + 1) (by omega)
      have e : s_cnt N (i + 1) = s_cnt N i + (if N (7 + i * 23 + 21) ≤ 0 then 0 else 1) := rfl
      refine hK _ _ _ _ ?_
      refine iPC W ?_
      refine And.intro (fun hc => ?_) (fun hc => ?_)
      · exact absurd (show N 0 ≤ nI i from hc) (by rw [W.1.1.1]; exact nI_ge hi' (by omega))
      · refine gParts W.k ?_
        refine aPart W.k rfl (by omega) ?_
        refine iRqd W hi' ?_
        refine And.intro (fun hz => ?_) (fun hz => ?_)
        · rw [if_pos hz, Nat.add_zero] at e
          rw [e, ← nI_1 i] at i1
          exact i1
        · rw [if_neg hz] at e
          rw [e, ← nI_1 i, ← nI_1 (s_cnt N i)] at i1
          exact i1
  exact loop c0 0 (by omega)
theorem d_sumOfShares {l : Launch} (hst : l.stackTraces = false) {Q : Option Value → Hp → Prop} {X : String → Hp → Prop} {h0 H : Hp} {w : Nat} {σ ρ : Nat → Nat} {N : Nat → Int32} {c0 c1 c2 c3 c4 : Nat} (W : Wv [] h0 H w σ ρ N c0 c1 c2 c3 c4) {B : Int} (g : GI N c0 c1 c2 c3 c4 B) (q : Q (some (.double (s_sum N c0))) H) : CX7_sumOfShares l [.ref w] H Q X := by
  have c8 := W.1.1.2
  refine eX7_sumOfShares hst (Nat.le_of_ble_eq_true rfl) (fun K hK => ?_)
  have loop : ∀ n i, i + n = c0 → K 4 [(3, .int (nI i)), (1, .double (s_sum N i)), (0, .ref w)] [] H (0, 0) := by
    intro n
    induction n with
    | zero =>
      intro i hi
      have : i = c0 := by omega
      subst this
      refine hK _ _ _ _ ?_
      refine iPC W ?_
      refine And.intro (fun hc => ?_) (fun hc => ?_)
      · repeat (refine And.intro (by first | assumption | rfl | exact Nat.le_of_ble_eq_true rfl | exact Nat.zero_le _ | decide) ?_)
        exact q
      · exact absurd (show N 0 ≤ nI i by rw [W.1.1.1]; exact Int32.le_refl _) hc
    | succ n ih =>
      intro i hi
      have hi' : i < c0 := by omega
      have i1 := ih (i + 1) (by omega)
      have e : s_sum N (i + 1) = if N (7 + i * 23 + 21) ≤ 0 then s_sum N i else FP.dadd (s_sum N i) (FP.f2d (s_sh N i)) := rfl
      have ok := sum_ok g (i + 1) hi'
      refine hK _ _ _ _ ?_
      refine iPC W ?_
      refine And.intro (fun hc => ?_) (fun hc => ?_)
      · exact absurd (show N 0 ≤ nI i from hc) (by rw [W.1.1.1]; exact nI_ge hi' (by omega))
      · refine gParts W.k ?_
        refine aPart W.k rfl (by omega) ?_
        refine iRqd W hi' ?_
        refine And.intro (fun hz => ?_) (fun hz => ?_)
        · rw [if_pos hz] at e
          rw [e, ← nI_1 i] at i1
          exact i1
        · rw [if_neg hz] at e
          refine gParts W.k ?_
          refine aPart W.k rfl (by omega) ?_
          (repeat (refine And.intro (by first | assumption | rfl | exact Nat.le_of_ble_eq_true rfl | exact Nat.zero_le _ | decide) ?_)); refine And.intro ((W.k.s_part i (by omega)).2.1) ?_; (repeat (refine And.intro (by first | assumption | rfl | exact Nat.le_of_ble_eq_true rfl | exact Nat.zero_le _ | decide) ?_))
          refine d_share hst W g hi' hz ?_
          have fo := sm_f2d (sh_ok g hi' hz)
          rw [e] at ok
          refine And.intro (vf_n64_of fo.nn) ?_
          refine And.intro (vf_n64_of ok.nn) ?_
          rw [e, ← nI_1 i] at i1
          exact i1
  exact loop c0 0 (by omega)
theorem wkI_ne {N : Nat → Int32} {n p : Nat} (h8 : n ≤ 8) (h : s_wk N n = some p) : ¬ wkI (s_wk N n) = -1 := by
  have := (s_wk_lt N n p h).1
  rw [h]
  exact (show ∀ p : Fin 8, ¬ nI p.val = -1 by decide) ⟨p, by omega⟩
theorem d_weakestPart {l : Launch} (hst : l.stackTraces = false) {Q : Option Value → Hp → Prop} {X : String → Hp → Prop} {h0 H : Hp} {w : Nat} {σ ρ : Nat → Nat} {N : Nat → Int32} {c0 c1 c2 c3 c4 : Nat} (W : Wv [] h0 H w σ ρ N c0 c1 c2 c3 c4) {B : Int} (g : GI N c0 c1 c2 c3 c4 B) (q : Q (some (.int (wkI (s_wk N c0)))) H) : CX7_weakestPart l [.ref w] H Q X := by
  have c8 := W.1.1.2
  refine eX7_weakestPart hst (Nat.le_of_ble_eq_true rfl) (fun K hK => ?_)
  have loop : ∀ n i, i + n = c0 → K 6 [(3, .int (nI i)), (2, .float (wkF N (s_wk N i))), (1, .int (wkI (s_wk N i))), (0, .ref w)] [] H (0, 0) ∧ (∀ z, K 6 [(3, .int (nI i)), (2, .float (wkF N (s_wk N i))), (1, .int (wkI (s_wk N i))), (4, .float z), (0, .ref w)] [] H (0, 0)) ∧ (∀ z, K 6 [(3, .int (nI i)), (4, .float z), (2, .float (wkF N (s_wk N i))), (1, .int (wkI (s_wk N i))), (0, .ref w)] [] H (0, 0)) := by
    intro n
    induction n with
    | zero =>
      intro i hi
      have : i = c0 := by omega
      subst this
      refine ⟨?_, fun z => ?_, fun z => ?_⟩
      all_goals
        refine hK _ _ _ _ ?_
        refine iPC W ?_
        refine And.intro (fun hc => ?_) (fun hc => ?_)
        · repeat (refine And.intro (by first | assumption | rfl | exact Nat.le_of_ble_eq_true rfl | exact Nat.zero_le _ | decide) ?_)
          exact q
        · exact absurd (show N 0 ≤ nI i by rw [W.1.1.1]; exact Int32.le_refl _) hc
    | succ n ih =>
      intro i hi
      have hi' : i < c0 := by omega
      obtain ⟨i1, i2, i3⟩ := ih (i + 1) (by omega)
      have e : s_wk N (i + 1) = if N (7 + i * 23 + 21) ≤ 0 then s_wk N i else match s_wk N i with | none => some i | some p => if 0 ≤ Op.cmpValue (FP.fcmp (s_sh N i) (s_sh N p)) .g then some p else some i := rfl
      refine ⟨?_, fun z => ?_, fun z => ?_⟩
      all_goals
        refine hK _ _ _ _ ?_
        refine iPC W ?_
        refine And.intro (fun hc => ?_) (fun hc => ?_)
        · exact absurd (show N 0 ≤ nI i from hc) (by rw [W.1.1.1]; exact nI_ge hi' (by omega))
        · refine gParts W.k ?_
          refine aPart W.k rfl (by omega) ?_
          refine iRqd W hi' ?_
          refine And.intro (fun hz => ?_) (fun hz => ?_)
          · rw [if_pos hz] at e
            rw [e, ← nI_1 i] at i1 i2 i3
            first
              | exact i1
              | exact i2 z
              | exact i3 z
          · rw [if_neg hz] at e
            refine gParts W.k ?_
            refine aPart W.k rfl (by omega) ?_
            (repeat (refine And.intro (by first | assumption | rfl | exact Nat.le_of_ble_eq_true rfl | exact Nat.zero_le _ | decide) ?_)); refine And.intro ((W.k.s_part i (by omega)).2.1) ?_; (repeat (refine And.intro (by first | assumption | rfl | exact Nat.le_of_ble_eq_true rfl | exact Nat.zero_le _ | decide) ?_))
            refine d_share hst W g hi' hz ?_
            cases wv : s_wk N i with
            | none =>
              rw [wv] at e
              rw [e, ← nI_1 i] at i2
              refine And.intro (fun _ => ?_) (fun hn => absurd rfl hn)
              exact i2 _
            | some p =>
              rw [wv] at e
              dsimp only at e
              refine And.intro (fun hn => absurd hn (by have := wkI_ne (N := N) (n := i) (by omega) wv; rw [wv] at this; exact this)) (fun _ => ?_)
              refine And.intro (fun hg => ?_) (fun hg => ?_)
              · have hg' : 0 ≤ Op.cmpValue (FP.fcmp (s_sh N i) (s_sh N p)) .g := hg
                rw [if_pos hg'] at e
                rw [e, ← nI_1 i] at i3
                exact i3 _
              · have hg' : ¬ 0 ≤ Op.cmpValue (FP.fcmp (s_sh N i) (s_sh N p)) .g := hg
                rw [if_neg hg'] at e
                rw [e, ← nI_1 i] at i2
                exact i2 _
  exact (loop c0 0 (by omega)).1
theorem e_service {l : Launch} (hst : l.stackTraces = false) {Q : Option Value → Hp → Prop} {X : String → Hp → Prop} {H : Hp} {x : Nat} {N F : Nat → Int32} {hi : Nat → Nat → Int32} {sv : Nat → Int32} {sm : Nat → Nat → Int32} {hd tx : Nat → Int32} {B : Int} (C : CR H x N F hi sv sm hd tx B) {σ : Nat → Nat} {c0 c1 c2 c3 c4 : Nat} (W : Wv [] H H (x + 1) σ σ N c0 c1 c2 c3 c4) (g : GI N c0 c1 c2 c3 c4 B) {P : Int32} (x1 : (¬ (0 ≤ P ∧ P < nI c0)) → ∀ n, hn H ≤ n → X "java/lang/IndexOutOfBoundsException" (hxn H n)) (x2 : (∃ p, P = nI p ∧ p < c0 ∧ N (7 + p * 23 + 21) ≤ 0) → ∀ n, hn H ≤ n → X "java/lang/ArithmeticException" (hxn H n)) (q : ∀ p, P = nI p → p < c0 → ¬ N (7 + p * 23 + 21) ≤ 0 → Q (some (.float (s_sh N p))) H) : CX8_service l [.ref x, .int P] H Q X := by
  have c8 := W.1.1.2
  refine eX8_service hst (Nat.le_of_ble_eq_true rfl) (fun K => ?_)
  (repeat (refine And.intro (by first | assumption | rfl | exact Nat.le_of_ble_eq_true rfl | exact Nat.zero_le _ | decide) ?_)); refine And.intro (C.s0) ?_; (repeat (refine And.intro (by first | assumption | rfl | exact Nat.le_of_ble_eq_true rfl | exact Nat.zero_le _ | decide) ?_))
  refine d_needPart hst C W.1.1.1 W.1.1.2 (fun hP => ?_) (fun hP => x1 hP)
  obtain ⟨p, p1, p2⟩ := in9 (by omega) hP
  subst p2
  refine xw C ?_
  refine gParts W.k ?_
  refine aPart W.k rfl (W.p8 p1) ?_
  refine iRqd W p1 ?_
  obtain ⟨a1, a2, a3⟩ := g.2.2.2.1 p p1
  refine And.intro (fun hz => ?_) (fun hz => ?_)
  · have hr : ¬ N (7 + p * 23 + 21) ≤ 0 := fun z => hz (Int32.toInt_inj.mp (by
      have := Int32.le_iff_toInt_le.mp z
      have e0 : (0 : Int32).toInt = 0 := rfl
      omega))
    refine xw C ?_
    refine gParts W.k ?_
    refine aPart W.k rfl (W.p8 p1) ?_
    (repeat (refine And.intro (by first | assumption | rfl | exact Nat.le_of_ble_eq_true rfl | exact Nat.zero_le _ | decide) ?_)); refine And.intro ((W.k.s_part p (by omega)).2.1) ?_; (repeat (refine And.intro (by first | assumption | rfl | exact Nat.le_of_ble_eq_true rfl | exact Nat.zero_le _ | decide) ?_))
    refine d_share hst W g p1 hr ?_
    repeat (refine And.intro (by first | assumption | rfl | exact Nat.le_of_ble_eq_true rfl | exact Nat.zero_le _ | decide) ?_)
    exact q p rfl p1 hr
  · exact ⟨Nat.le_of_ble_eq_true rfl, Nat.le_of_ble_eq_true rfl, x2 ⟨p, rfl, p1, by rw [hz]; exact Int32.le_refl _⟩⟩
theorem e_serviceBits {l : Launch} (hst : l.stackTraces = false) {Q : Option Value → Hp → Prop} {X : String → Hp → Prop} {H : Hp} {x : Nat} {N F : Nat → Int32} {hi : Nat → Nat → Int32} {sv : Nat → Int32} {sm : Nat → Nat → Int32} {hd tx : Nat → Int32} {B : Int} (C : CR H x N F hi sv sm hd tx B) {σ : Nat → Nat} {c0 c1 c2 c3 c4 : Nat} (W : Wv [] H H (x + 1) σ σ N c0 c1 c2 c3 c4) (g : GI N c0 c1 c2 c3 c4 B) {P : Int32} (x1 : (¬ (0 ≤ P ∧ P < nI c0)) → ∀ n, hn H ≤ n → X "java/lang/IndexOutOfBoundsException" (hxn H n)) (x2 : (∃ p, P = nI p ∧ p < c0 ∧ N (7 + p * 23 + 21) ≤ 0) → ∀ n, hn H ≤ n → X "java/lang/ArithmeticException" (hxn H n)) (q : ∀ p, P = nI p → p < c0 → ¬ N (7 + p * 23 + 21) ≤ 0 → Q (some (.int (s_sh N p).toInt32)) H) : CX8_serviceBits l [.ref x, .int P] H Q X := by
  refine eX8_serviceBits hst (Nat.le_of_ble_eq_true rfl) (fun K => ?_)
  (repeat (refine And.intro (by first | assumption | rfl | exact Nat.le_of_ble_eq_true rfl | exact Nat.zero_le _ | decide) ?_)); refine And.intro (C.s0) ?_; (repeat (refine And.intro (by first | assumption | rfl | exact Nat.le_of_ble_eq_true rfl | exact Nat.zero_le _ | decide) ?_))
  refine e_service hst C W g (fun h => x1 h) (fun h => x2 h) (fun p hP p1 hr => ?_)
  repeat (refine And.intro (by first | assumption | rfl | exact Nat.le_of_ble_eq_true rfl | exact Nat.zero_le _ | decide) ?_)
  refine d_bitsOf hst (sh_ok g p1 hr) ?_
  repeat (refine And.intro (by first | assumption | rfl | exact Nat.le_of_ble_eq_true rfl | exact Nat.zero_le _ | decide) ?_)
  exact q p hP p1 hr
theorem e_weakest {l : Launch} (hst : l.stackTraces = false) {Q : Option Value → Hp → Prop} {X : String → Hp → Prop} {H : Hp} {x : Nat} {N F : Nat → Int32} {hi : Nat → Nat → Int32} {sv : Nat → Int32} {sm : Nat → Nat → Int32} {hd tx : Nat → Int32} {B : Int} (C : CR H x N F hi sv sm hd tx B) {σ : Nat → Nat} {c0 c1 c2 c3 c4 : Nat} (W : Wv [] H H (x + 1) σ σ N c0 c1 c2 c3 c4) (g : GI N c0 c1 c2 c3 c4 B) (x1 : (s_wk N c0 = none) → ∀ n, hn H ≤ n → X "java/util/NoSuchElementException" (hxn H n)) (q : ∀ p, s_wk N c0 = some p → Q (some (.int (nI p))) H) : CX8_weakest l [.ref x] H Q X := by
  refine eX8_weakest hst (Nat.le_of_ble_eq_true rfl) (fun K => ?_)
  refine xw C ?_
  (repeat (refine And.intro (by first | assumption | rfl | exact Nat.le_of_ble_eq_true rfl | exact Nat.zero_le _ | decide) ?_)); refine And.intro (W.k.s_w) ?_; (repeat (refine And.intro (by first | assumption | rfl | exact Nat.le_of_ble_eq_true rfl | exact Nat.zero_le _ | decide) ?_))
  refine d_weakestPart hst W g ?_
  cases wv : s_wk N c0 with
  | none =>
    refine And.intro (fun hn => absurd rfl hn) (fun _ => ?_)
    exact ⟨Nat.le_of_ble_eq_true rfl, Nat.le_of_ble_eq_true rfl, x1 wv⟩
  | some p =>
    refine And.intro (fun _ => ?_) (fun hn => absurd hn (by have := wkI_ne (N := N) (n := c0) W.1.1.2 wv; rw [wv] at this; exact this))
    repeat (refine And.intro (by first | assumption | rfl | exact Nat.le_of_ble_eq_true rfl | exact Nat.zero_le _ | decide) ?_)
    exact q p wv
theorem e_averageService {l : Launch} (hst : l.stackTraces = false) {Q : Option Value → Hp → Prop} {X : String → Hp → Prop} {H : Hp} {x : Nat} {N F : Nat → Int32} {hi : Nat → Nat → Int32} {sv : Nat → Int32} {sm : Nat → Nat → Int32} {hd tx : Nat → Int32} {B : Int} (C : CR H x N F hi sv sm hd tx B) {σ : Nat → Nat} {c0 c1 c2 c3 c4 : Nat} (W : Wv [] H H (x + 1) σ σ N c0 c1 c2 c3 c4) (g : GI N c0 c1 c2 c3 c4 B) (x1 : (s_cnt N c0 = 0) → ∀ n, hn H ≤ n → X "java/lang/ArithmeticException" (hxn H n)) (q : 0 < s_cnt N c0 → Q (some (.double (FP.ddiv (s_sum N c0) (FP.i2d (nI (s_cnt N c0)))))) H) : CX8_averageService l [.ref x] H Q X := by
  have c8 := W.1.1.2
  have cl := s_cnt_le N c0
  refine eX8_averageService hst (Nat.le_of_ble_eq_true rfl) (fun K => ?_)
  refine xw C ?_
  (repeat (refine And.intro (by first | assumption | rfl | exact Nat.le_of_ble_eq_true rfl | exact Nat.zero_le _ | decide) ?_)); refine And.intro (W.k.s_w) ?_; (repeat (refine And.intro (by first | assumption | rfl | exact Nat.le_of_ble_eq_true rfl | exact Nat.zero_le _ | decide) ?_))
  refine d_requestedParts hst W ?_
  refine And.intro (fun hz => ?_) (fun hz => ?_)
  · have h0 : 0 < s_cnt N c0 := by
      have : s_cnt N c0 ≠ 0 := fun z => hz (by rw [z]; rfl)
      omega
    refine xw C ?_
    (repeat (refine And.intro (by first | assumption | rfl | exact Nat.le_of_ble_eq_true rfl | exact Nat.zero_le _ | decide) ?_)); refine And.intro (W.k.s_w) ?_; (repeat (refine And.intro (by first | assumption | rfl | exact Nat.le_of_ble_eq_true rfl | exact Nat.zero_le _ | decide) ?_))
    refine d_sumOfShares hst W g ?_
    have ok := sm_avg (x := nI (s_cnt N c0)) (sum_ok g c0 (Nat.le_refl _)) h0 (by omega) (nI_toInt (by omega))
    refine And.intro (vf_n64_of ok.nn) ?_
    repeat (refine And.intro (by first | assumption | rfl | exact Nat.le_of_ble_eq_true rfl | exact Nat.zero_le _ | decide) ?_)
    exact q h0
  · have e0 : s_cnt N c0 = 0 := (nI_eq (by omega) (by decide)).mp (show nI (s_cnt N c0) = nI 0 from hz)
    exact ⟨Nat.le_of_ble_eq_true rfl, Nat.le_of_ble_eq_true rfl, x1 e0⟩
theorem avg_ok {N : Nat → Int32} {c0 c1 c2 c3 c4 : Nat} {B : Int} (g : GI N c0 c1 c2 c3 c4 B) (h0 : 0 < s_cnt N c0) : DlOk (FP.ddiv (s_sum N c0) (FP.i2d (nI (s_cnt N c0)))) := by
  have c8 := g.wf.1.2
  have cl := s_cnt_le N c0
  exact sm_avg (x := nI (s_cnt N c0)) (sum_ok g c0 (Nat.le_refl _)) h0 (by omega) (nI_toInt (by omega))
theorem e_averageBits {l : Launch} (hst : l.stackTraces = false) {Q : Option Value → Hp → Prop} {X : String → Hp → Prop} {H : Hp} {x : Nat} {N F : Nat → Int32} {hi : Nat → Nat → Int32} {sv : Nat → Int32} {sm : Nat → Nat → Int32} {hd tx : Nat → Int32} {B : Int} (C : CR H x N F hi sv sm hd tx B) {σ : Nat → Nat} {c0 c1 c2 c3 c4 : Nat} (W : Wv [] H H (x + 1) σ σ N c0 c1 c2 c3 c4) (g : GI N c0 c1 c2 c3 c4 B) (x1 : (s_cnt N c0 = 0) → ∀ n, hn H ≤ n → X "java/lang/ArithmeticException" (hxn H n)) (q : 0 < s_cnt N c0 → Q (some (.long (FP.ddiv (s_sum N c0) (FP.i2d (nI (s_cnt N c0)))).toInt64)) H) : CX8_averageBits l [.ref x] H Q X := by
  refine eX8_averageBits hst (Nat.le_of_ble_eq_true rfl) (fun K => ?_)
  (repeat (refine And.intro (by first | assumption | rfl | exact Nat.le_of_ble_eq_true rfl | exact Nat.zero_le _ | decide) ?_)); refine And.intro (C.s0) ?_; (repeat (refine And.intro (by first | assumption | rfl | exact Nat.le_of_ble_eq_true rfl | exact Nat.zero_le _ | decide) ?_))
  refine e_averageService hst C W g (fun h => x1 h) (fun h0 => ?_)
  repeat (refine And.intro (by first | assumption | rfl | exact Nat.le_of_ble_eq_true rfl | exact Nat.zero_le _ | decide) ?_)
  refine d_longBitsOf hst (avg_ok g h0) ?_
  repeat (refine And.intro (by first | assumption | rfl | exact Nat.le_of_ble_eq_true rfl | exact Nat.zero_le _ | decide) ?_)
  exact q h0
end H2

section H1
theorem fl_dbl {f : FP.Core.Fmt} (hf : FP.Core.Good f) {s : Bool} {c : Nat} {q : Int} (hd : FP.Core.fits f (.fin s c (q + 1))) : FP.Core.round f (FP.Core.exactProduct (.fin s c q) (.fin false f.tails (1 - ((f.p - 1 : Nat) : Int)))) = .fin s c (q + 1) := by
  show FP.Core.roundRatio f (s != false) (c * f.tails) 1 (q + (1 - ((f.p - 1 : Nat) : Int))) = _
  rw [show (s != false) = s by cases s <;> rfl]
  refine FP.Core.roundRatio_exact hf (by decide) hd ?_
  rw [show (q + (1 - ((f.p - 1 : Nat) : Int)) - (q + 1)).toNat = 0 by omega, show (q + 1 - (q + (1 - ((f.p - 1 : Nat) : Int)))).toNat = f.p - 1 by omega]
  show c * f.tails * 2 ^ 0 = c * 1 * 2 ^ (f.p - 1)
  rw [Nat.pow_zero, Nat.mul_one, Nat.mul_one]; rfl
theorem fl_sub {f : FP.Core.Fmt} {t : Nat} {q : Int} : FP.Core.exactSum (.fin false (f.tails + t) q) (FP.Core.negate (.fin false f.tails q)) = .fin false t q := by
  show FP.Core.Datum.fin (FP.Core.sumSign false true (FP.Core.sumUnits false (f.tails + t) q true f.tails q (min q q))) (FP.Core.sumUnits false (f.tails + t) q true f.tails q (min q q)).natAbs (min q q) = _
  have e : FP.Core.sumUnits false (f.tails + t) q true f.tails q (min q q) = (t : Int) := by
    unfold FP.Core.sumUnits FP.Core.inUnits FP.Core.signed
    rw [Int.min_self, Int.sub_self]
    simp
    omega
  rw [e, Int.min_self]
  have e2 : FP.Core.sumSign false true (t : Int) = false := by
    unfold FP.Core.sumSign
    split
    · rfl
    · exact decide_eq_false (by omega)
  rw [e2, Int.natAbs_natCast]
theorem fl_scale {f : FP.Core.Fmt} (hf : FP.Core.Good f) (hw : FP.Core.Wide f) {t : Nat} (ht : t < f.tails) (hq1 : f.qmin ≤ -((f.p - 1 : Nat) : Int)) (hq2 : -((f.p - 1 : Nat) : Int) ≤ f.qmax) : FP.Core.Whole t (FP.Core.round f (FP.Core.exactProduct (FP.Core.round f (.fin false t (-((f.p - 1 : Nat) : Int)))) (.fin false f.tails 0))) := by
  have h2 := FP.Core.two_tails hf
  obtain ⟨c', q', e1, e2⟩ := FP.Core.round_exact hf false (c := t) (q := -((f.p - 1 : Nat) : Int)) (by omega) hq1 hq2
  have hfit := FP.Core.round_fits hf (.fin false t (-((f.p - 1 : Nat) : Int)))
  rw [e1] at hfit
  have hq := hfit.2.1
  rw [e1]
  refine FP.Core.whole_round hf hw (by rw [Int.natAbs_natCast]; omega) ?_
  show FP.Core.signed (false != false) (c' * f.tails * 2 ^ (q' + 0).toNat) = (t : Int) * ((2 ^ (-(q' + 0)).toNat : Nat) : Int)
  rw [Int.add_zero]
  show ((c' * f.tails * 2 ^ q'.toNat : Nat) : Int) = _
  rw [← Int.natCast_mul]
  congr 1
  unfold FP.Core.inUnits at e2
  have k1 : (q' - f.qmin).toNat + (-q').toNat = q'.toNat + (-f.qmin).toNat := by omega
  have k2 : (-((f.p - 1 : Nat) : Int) - f.qmin).toNat + (f.p - 1) = (-f.qmin).toNat := by omega
  have key : c' * f.tails * 2 ^ q'.toNat * 2 ^ (-f.qmin).toNat = t * 2 ^ (-q').toNat * 2 ^ (-f.qmin).toNat := by
    show c' * 2 ^ (f.p - 1) * 2 ^ q'.toNat * 2 ^ (-f.qmin).toNat = _
    calc c' * 2 ^ (f.p - 1) * 2 ^ q'.toNat * 2 ^ (-f.qmin).toNat = c' * 2 ^ (f.p - 1) * (2 ^ (q'.toNat + (-f.qmin).toNat)) := by rw [Nat.pow_add, Nat.mul_assoc, Nat.mul_assoc]
      _ = c' * 2 ^ (f.p - 1) * (2 ^ ((q' - f.qmin).toNat + (-q').toNat)) := by rw [k1]
      _ = (c' * 2 ^ (q' - f.qmin).toNat) * 2 ^ (f.p - 1) * 2 ^ (-q').toNat := by rw [Nat.pow_add]; ac_rfl
      _ = (t * 2 ^ (-((f.p - 1 : Nat) : Int) - f.qmin).toNat) * 2 ^ (f.p - 1) * 2 ^ (-q').toNat := by rw [e2]
      _ = t * 2 ^ ((-((f.p - 1 : Nat) : Int) - f.qmin).toNat + (f.p - 1)) * 2 ^ (-q').toNat := by rw [Nat.pow_add]; ac_rfl
      _ = t * 2 ^ (-q').toNat * 2 ^ (-f.qmin).toNat := by rw [k2]; ac_rfl
  exact Nat.eq_of_mul_eq_mul_right (Nat.two_pow_pos _) key
theorem fl_order {f : FP.Core.Fmt} (hf : FP.Core.Good f) {c : Nat} {q : Int} (h1 : f.tails ≤ c) (h2 : c < 2 ^ f.p) {P : Int} : (q < P → FP.Core.order (.fin false c q) (.fin false f.tails P) = some .lt) ∧ (q = P → FP.Core.order (.fin false c q) (.fin false f.tails P) = some .eq ∨ FP.Core.order (.fin false c q) (.fin false f.tails P) = some .gt) := by
  have h3 := FP.Core.two_tails hf
  constructor
  · intro hq
    show some (compare (FP.Core.signed false (FP.Core.inUnits c q (min q P))) (FP.Core.signed false (FP.Core.inUnits f.tails P (min q P)))) = _
    rw [Int.min_eq_left (by omega)]
    unfold FP.Core.inUnits FP.Core.signed
    rw [Int.sub_self]
    have k : (P - q).toNat = (P - q).toNat - 1 + 1 := by omega
    have : c * 2 ^ (0 : Int).toNat < f.tails * 2 ^ (P - q).toNat := by
      rw [k, Nat.pow_succ]
      have := Nat.two_pow_pos ((P - q).toNat - 1)
      show c * 1 < _
      calc c * 1 < 2 * f.tails := by omega
        _ ≤ f.tails * (2 ^ ((P - q).toNat - 1) * 2) := by
          have : f.tails * 1 ≤ f.tails * 2 ^ ((P - q).toNat - 1) := Nat.mul_le_mul_left _ (by omega)
          rw [← Nat.mul_assoc]; omega
    simp only [Bool.false_eq_true, if_false]
    rw [FP.Core.compare_ite, if_pos (by exact_mod_cast this)]
  · intro hq
    subst hq
    show some (compare (FP.Core.signed false (FP.Core.inUnits c q (min q q))) (FP.Core.signed false (FP.Core.inUnits f.tails q (min q q)))) = _ ∨ some (compare (FP.Core.signed false (FP.Core.inUnits c q (min q q))) (FP.Core.signed false (FP.Core.inUnits f.tails q (min q q)))) = _
    rw [Int.min_self]
    unfold FP.Core.inUnits FP.Core.signed
    rw [Int.sub_self]
    simp only [Bool.false_eq_true, if_false, FP.Core.compare_ite]
    rw [if_neg (by simp; omega)]
    split
    · exact Or.inl rfl
    · exact Or.inr rfl
theorem fl_pos {c : Nat} {q : Int} (hc : 0 < c) {Z : Int} : FP.Core.order (.fin false c q) (.fin false 0 Z) = some .gt := by
  show some (compare (FP.Core.signed false (FP.Core.inUnits c q (min q Z))) (FP.Core.signed false (FP.Core.inUnits 0 Z (min q Z)))) = _
  unfold FP.Core.inUnits FP.Core.signed
  have := Nat.mul_pos hc (Nat.two_pow_pos (q - min q Z).toNat)
  simp only [Bool.false_eq_true, if_false, FP.Core.compare_ite, Nat.zero_mul]
  rw [if_neg (by omega), if_neg (by omega)]
theorem fl_range {f : FP.Core.Fmt} (hf : FP.Core.Good f) {s : Bool} {c : Nat} {q : Int} (h : FP.Core.fits f (.fin s c q)) {m M : Nat} (lo : f.tails * 2 ^ m ≤ FP.Core.zmag f (.fin s c q)) (hi : FP.Core.zmag f (.fin s c q) ≤ f.tails * 2 ^ M) : f.tails ≤ c ∧ f.qmin + m ≤ q ∧ q ≤ f.qmin + M := by
  have h3 := FP.Core.two_tails hf
  have t0 := FP.Core.tails_pos f
  obtain ⟨h1, h2, -, h4⟩ := h
  have lo' : f.tails * 2 ^ m ≤ c * 2 ^ (q - f.qmin).toNat := lo
  have hi' : c * 2 ^ (q - f.qmin).toNat ≤ f.tails * 2 ^ M := hi
  have hc : f.tails ≤ c := by
    rcases h4 with z | z
    · rw [z, Int.sub_self] at lo'
      have : f.tails * 1 ≤ f.tails * 2 ^ m := Nat.mul_le_mul_left _ (Nat.two_pow_pos m)
      have e : c * 2 ^ (0 : Int).toNat = c := Nat.mul_one c
      omega
    · exact z
  refine ⟨hc, ?_, ?_⟩
  · have : f.tails * 2 ^ m < f.tails * 2 ^ ((q - f.qmin).toNat + 1) := by
      refine Nat.lt_of_le_of_lt lo' ?_
      rw [Nat.pow_succ, Nat.mul_comm (2 ^ _) 2, ← Nat.mul_assoc]
      exact Nat.mul_lt_mul_of_pos_right (by omega) (Nat.two_pow_pos _)
    have := (Nat.pow_lt_pow_iff_right (a := 2) (by decide)).mp (Nat.lt_of_mul_lt_mul_left this)
    omega
  · have : f.tails * 2 ^ (q - f.qmin).toNat ≤ f.tails * 2 ^ M := Nat.le_trans (Nat.mul_le_mul_right _ hc) hi'
    have := (Nat.pow_le_pow_iff_right (a := 2) (by decide)).mp (Nat.le_of_mul_le_mul_left this t0)
    omega
theorem fl_ratio {f : FP.Core.Fmt} {c d : Nat} {q r : Int} {a b : Nat} (hx : FP.Core.Whole a (.fin false c q)) (hy : FP.Core.Whole b (.fin false d r)) (hd : 0 < d) (hb : 0 < b) : FP.Core.quotient f (.fin false c q) (.fin false d r) = FP.Core.roundRatio f false a b 0 := by
  show (if d = 0 then _ else FP.Core.roundRatio f (false != false) c d (q - r)) = _
  rw [if_neg (by omega)]
  refine FP.Core.roundRatio_congr hd hb ?_
  have e1 : c * 2 ^ q.toNat = a * 2 ^ (-q).toNat := by
    have : ((c * 2 ^ q.toNat : Nat) : Int) = (a : Int) * ((2 ^ (-q).toNat : Nat) : Int) := hx
    exact_mod_cast this
  have e2 : d * 2 ^ r.toNat = b * 2 ^ (-r).toNat := by
    have : ((d * 2 ^ r.toNat : Nat) : Int) = (b : Int) * ((2 ^ (-r).toNat : Nat) : Int) := hy
    exact_mod_cast this
  have k : (q - r - 0).toNat + (-q).toNat + r.toNat = (0 - (q - r)).toNat + q.toNat + (-r).toNat := by omega
  have key : c * b * 2 ^ (q - r - 0).toNat * 2 ^ ((-q).toNat + r.toNat) = a * d * 2 ^ (0 - (q - r)).toNat * 2 ^ ((-q).toNat + r.toNat) := by
    calc c * b * 2 ^ (q - r - 0).toNat * 2 ^ ((-q).toNat + r.toNat) = c * b * 2 ^ ((q - r - 0).toNat + (-q).toNat + r.toNat) := by rw [Nat.mul_assoc, ← Nat.pow_add, Nat.add_assoc]
      _ = c * b * 2 ^ ((0 - (q - r)).toNat + q.toNat + (-r).toNat) := by rw [k]
      _ = (c * 2 ^ q.toNat) * (b * 2 ^ (-r).toNat) * 2 ^ (0 - (q - r)).toNat := by rw [Nat.pow_add, Nat.pow_add]; ac_rfl
      _ = (a * 2 ^ (-q).toNat) * (d * 2 ^ r.toNat) * 2 ^ (0 - (q - r)).toNat := by rw [e1, e2]
      _ = _ := by rw [Nat.pow_add]; ac_rfl
  exact Nat.eq_of_mul_eq_mul_right (Nat.two_pow_pos _) key
/-- the bits of a normal number -/
theorem fl_bits {f : FP.Core.Fmt} {c : Nat} {q : Int} (hc : f.tails ≤ c) : FP.Core.encode f (.fin false c q) = ((q - f.qmin).toNat + 1) * f.tails + (c - f.tails) := by
  show (if c < f.tails then _ else _) = _
  rw [if_neg (by omega)]
  show (0 * f.exps + ((q - f.qmin).toNat + 1)) * f.tails + (c - f.tails) = _
  rw [Nat.zero_mul, Nat.zero_add]
/-- a float that bits can be made of -/
def FlOk (v : UInt32) : Prop := v = 0 ∨ ∃ c q, FP.Core.val32 v = .fin false c q ∧ 2 ^ 23 ≤ c ∧ c < 2 ^ 24 ∧ -47 ≤ q ∧ q ≤ -23 ∧ (q = -23 → c = 2 ^ 23)
theorem vf_n32_of {v : UInt32} (h : FP.Core.val32 v ≠ .nan) : v &&& 0x7fffffff ≤ 0x7f800000 := by
  have h1 := (FP.Core.ne_nan32 v).mp h
  refine UInt32.le_iff_toNat_le.mpr ?_
  rw [UInt32.toNat_and]
  show v.toNat &&& (2 ^ 31 - 1) ≤ 2139095040
  rw [Nat.and_two_pow_sub_one_eq_mod]
  exact h1
theorem vf_n64_of {v : UInt64} (h : FP.Core.val64 v ≠ .nan) : v &&& 0x7fffffffffffffff ≤ 0x7ff0000000000000 := by
  have h1 := (FP.Core.ne_nan v).mp h
  refine UInt64.le_iff_toNat_le.mpr ?_
  rw [UInt64.toNat_and]
  show v.toNat &&& (2 ^ 63 - 1) ≤ 9218868437227405312
  rw [Nat.and_two_pow_sub_one_eq_mod]
  exact h1
theorem FlOk.nn {v : UInt32} (h : FlOk v) : FP.Core.val32 v ≠ .nan := by
  rcases h with rfl | ⟨c, q, e, -⟩
  · decide +kernel
  · rw [e]; exact fun z => nomatch z
theorem fl_posW {x : Int32} {b : Nat} (hx : x.toInt = b) (hb : b ≤ 2 ^ 24) (h0 : 0 < b) : ∃ c q, FP.Core.val32 (FP.i2f x) = .fin false c q ∧ FP.Core.Whole b (.fin false c q) ∧ 0 < c := by
  have h := FP.Core.i2f_int (a := x) (by rw [hx, Int.natAbs_natCast]; exact hb)
  unfold FP.Core.FInt at h
  rw [hx] at h
  cases e : FP.Core.val32 (FP.Core.i2f x) with
  | nan => rw [e] at h; exact h.elim
  | inf s => rw [e] at h; exact h.elim
  | fin s c q =>
    rw [e] at h
    have hs := FP.Core.whole_sign h (by omega)
    have hz : ¬ c = 0 := fun z => absurd ((FP.Core.whole_zero h).mp z) (by omega)
    have : s = false := by rw [hs]; exact decide_eq_false (by omega)
    subst this
    exact ⟨c, q, rfl, h, by omega⟩
theorem fl_share {x y : Int32} {a b : Nat} (hx : x.toInt = a) (hy : y.toInt = b) (hab : a ≤ b) (hb : b ≤ 2 ^ 24) (h0 : 0 < b) : FP.Core.val32 (FP.fdiv (FP.i2f x) (FP.i2f y)) = FP.Core.roundRatio FP.Core.b32 false a b 0 := by
  obtain ⟨d, r, e2, w2, d0⟩ := fl_posW hy hb h0
  show FP.Core.val32 (FP.Core.fdiv (FP.Core.i2f x) (FP.Core.i2f y)) = _
  rw [FP.Core.val32_fdiv, show FP.Core.val32 (FP.Core.i2f y) = .fin false d r from e2]
  by_cases ha : a = 0
  · subst ha
    have : x = 0 := Int32.toInt_inj.mp hx
    subst this
    rw [show FP.Core.val32 (FP.Core.i2f 0) = .fin false 0 FP.Core.b32.qmin by decide +kernel]
    show (if d = 0 then _ else FP.Core.roundRatio FP.Core.b32 (false != false) 0 d (FP.Core.b32.qmin - r)) = _
    rw [if_neg (by omega)]
    rfl
  · obtain ⟨c, q, e1, w1, c0⟩ := fl_posW hx (by omega) (by omega)
    rw [show FP.Core.val32 (FP.Core.i2f x) = .fin false c q from e1]
    exact fl_ratio w1 w2 d0 h0
theorem fs_ok {x y : Int32} {a b : Nat} (hx : x.toInt = a) (hy : y.toInt = b) (hab : a ≤ b) (hb : b ≤ 2 ^ 24) (h0 : 0 < b) : FlOk (FP.fdiv (FP.i2f x) (FP.i2f y)) := by
  have e := fl_share hx hy hab hb h0
  by_cases ha : a = 0
  · subst ha
    refine Or.inl (FP.Core.val32_inj (by rw [e]; exact FP.Core.roundRatio_ne_nan _ _ _ _ _) ?_)
    rw [e, show FP.Core.roundRatio FP.Core.b32 false 0 b 0 = .fin false 0 FP.Core.b32.qmin from rfl]
    decide +kernel
  · have hf := FP.Core.roundRatio_fits FP.Core.good_b32 false a h0 0
    have hs := FP.Core.sgn_roundRatio FP.Core.b32 false a b 0
    have lo := FP.Core.zmag_roundRatio_ge FP.Core.good_b32 (s := false) (A := a) (e := 0) (e0 := FP.Core.b32.qmin) (V := .fin false (2 ^ 23) (-47)) h0 (by refine ⟨?_, ?_, ?_, ?_⟩ <;> decide) (Int.le_refl _) (by decide) (by
      show 2 ^ 23 * 2 ^ 102 * 2 ^ (FP.Core.b32.qmin - FP.Core.b32.qmin).toNat * b ≤ a * 2 ^ 149
      rw [Int.sub_self]
      have : 1 ≤ a := by omega
      show 2 ^ 23 * 2 ^ 102 * 1 * b ≤ a * 2 ^ 149
      calc 2 ^ 23 * 2 ^ 102 * 1 * b ≤ 2 ^ 23 * 2 ^ 102 * 1 * 2 ^ 24 := Nat.mul_le_mul_left _ hb
        _ = 1 * 2 ^ 149 := by decide
        _ ≤ a * 2 ^ 149 := Nat.mul_le_mul_right _ this)
    have hi := FP.Core.zmag_roundRatio_le FP.Core.good_b32 (s := false) (A := a) (e := 0) (e0 := FP.Core.b32.qmin) (V := .fin false (2 ^ 23) (-23)) h0 (by refine ⟨?_, ?_, ?_, ?_⟩ <;> decide) (fun z => nomatch z) (Int.le_refl _) (by decide) (by
      show a * 2 ^ 149 ≤ 2 ^ 23 * 2 ^ 126 * 2 ^ (FP.Core.b32.qmin - FP.Core.b32.qmin).toNat * b
      rw [Int.sub_self]
      show a * 2 ^ 149 ≤ 2 ^ 23 * 2 ^ 126 * 1 * b
      rw [show 2 ^ 23 * 2 ^ 126 * 1 = 2 ^ 149 by decide, Nat.mul_comm (2 ^ 149)]
      exact Nat.mul_le_mul_right _ hab)
    rw [← e] at hf hs lo hi
    refine Or.inr ?_
    cases g : FP.Core.val32 (FP.fdiv (FP.i2f x) (FP.i2f y)) with
    | nan => exact absurd (e.symm.trans g) (FP.Core.roundRatio_ne_nan _ _ _ _ _)
    | inf s =>
      rw [g] at hi
      exact absurd (show 2 ^ 23 * 2 ^ (256 - 2) ≤ 2 ^ 23 * 2 ^ 126 from hi) (by decide)
    | fin s c q =>
      rw [g] at hf hs lo hi
      have : s = false := hs
      subst this
      obtain ⟨r1, r2, r3⟩ := fl_range FP.Core.good_b32 hf (m := 102) (M := 126) lo hi
      have r2' : (-149 : Int) + ((102 : Nat) : Int) ≤ q := r2
      have r3' : q ≤ (-149 : Int) + ((126 : Nat) : Int) := r3
      refine ⟨c, q, rfl, r1, hf.1, by omega, by omega, fun z => ?_⟩
      subst z
      have h9 : c * 2 ^ 126 ≤ 2 ^ 23 * 2 ^ 126 := hi
      have h8 : c ≤ 2 ^ 23 := Nat.le_of_mul_le_mul_right h9 (Nat.two_pow_pos _)
      have h7 : 2 ^ 23 ≤ c := r1
      omega
theorem FlOk.bits {v : UInt32} {c : Nat} {q : Int} (h : FP.Core.val32 v = .fin false c q) (hc : 2 ^ 23 ≤ c) : v.toNat = ((q + 149).toNat + 1) * 2 ^ 23 + (c - 2 ^ 23) := by
  have hf := FP.Core.val32_fits v
  have h1 : FP.Core.of32 (FP.Core.val32 v) = v := FP.Core.of32_val32 (by rw [h]; exact fun z => nomatch z)
  rw [← h1, FP.Core.toNat_of32 hf, h, fl_bits (f := FP.Core.b32) (show FP.Core.b32.tails ≤ c from hc)]
  show ((q - FP.Core.b32.qmin).toNat + 1) * 2 ^ 23 + (c - 2 ^ 23) = _
  rw [show q - FP.Core.b32.qmin = q + 149 from (by rw [FP.Core.qmin_b32]; omega)]
theorem fl_two32 : FP.Core.val32 1073741824 = .fin false FP.Core.b32.tails (1 - ((FP.Core.b32.p - 1 : Nat) : Int)) := by decide +kernel
theorem fl_one32 : FP.Core.val32 1065353216 = .fin false FP.Core.b32.tails (-((FP.Core.b32.p - 1 : Nat) : Int)) := by decide +kernel
theorem fl_big32 : FP.Core.val32 1258291200 = .fin false FP.Core.b32.tails 0 := by decide +kernel
theorem fl_dbl32 {v : UInt32} {c : Nat} {q : Int} (h : FP.Core.val32 v = .fin false c q) (h1 : 2 ^ 23 ≤ c) (h2 : c < 2 ^ 24) (h3 : -47 ≤ q) (h4 : q < -23) : FP.Core.val32 (FP.fmul v 1073741824) = .fin false c (q + 1) := by
  show FP.Core.val32 (FP.Core.fmul v 1073741824) = _
  rw [FP.Core.val32_fmul, h, fl_two32]
  refine fl_dbl FP.Core.good_b32 ⟨h2, ?_, ?_, Or.inr h1⟩
  · rw [FP.Core.qmin_b32]; omega
  · have : FP.Core.b32.qmax = 104 := by decide
    rw [this]; omega
theorem fl_cmp32 {v : UInt32} {c : Nat} {q : Int} (h : FP.Core.val32 v = .fin false c q) (h1 : 2 ^ 23 ≤ c) (h2 : c < 2 ^ 24) : (q < -23 → FP.fcmp v 1065353216 = some .lt) ∧ (q = -23 → FP.fcmp v 1065353216 = some .eq ∨ FP.fcmp v 1065353216 = some .gt) := by
  have e : FP.fcmp v 1065353216 = FP.Core.order (.fin false c q) (.fin false FP.Core.b32.tails (-((FP.Core.b32.p - 1 : Nat) : Int))) := by
    show FP.Core.order (FP.Core.val32 v) (FP.Core.val32 1065353216) = _
    rw [h, fl_one32]
  rw [e]
  exact fl_order FP.Core.good_b32 (P := -((FP.Core.b32.p - 1 : Nat) : Int)) h1 h2
theorem fl_zero32 {v : UInt32} {c : Nat} {q : Int} (h : FP.Core.val32 v = .fin false c q) (h1 : 2 ^ 23 ≤ c) : FP.fcmp v 0 = some .gt := by
  show FP.Core.order (FP.Core.val32 v) (FP.Core.val32 0) = _
  rw [h, show FP.Core.val32 0 = .fin false 0 FP.Core.b32.qmin by decide +kernel]
  exact fl_pos (by omega)
theorem fl_frac32a {v : UInt32} {t : Nat} (h : FP.Core.val32 v = .fin false (FP.Core.b32.tails + t) (-23)) : FP.Core.val32 (FP.fsub v 1065353216) = FP.Core.round FP.Core.b32 (.fin false t (-((FP.Core.b32.p - 1 : Nat) : Int))) := by
  show FP.Core.val32 (FP.Core.fsub v 1065353216) = _
  have h' : FP.Core.val32 v = .fin false (FP.Core.b32.tails + t) (-((FP.Core.b32.p - 1 : Nat) : Int)) := by rw [h, show (-((FP.Core.b32.p - 1 : Nat) : Int)) = -23 by decide]
  rw [FP.Core.val32_fsub, h', fl_one32, fl_sub (f := FP.Core.b32) (q := -((FP.Core.b32.p - 1 : Nat) : Int))]
theorem fl_frac32b {w : UInt32} {D : FP.Core.Datum} (h : FP.Core.val32 w = D) : FP.Core.val32 (FP.fmul w 1258291200) = FP.Core.round FP.Core.b32 (FP.Core.exactProduct D (.fin false FP.Core.b32.tails 0)) := by
  show FP.Core.val32 (FP.Core.fmul w 1258291200) = _
  rw [FP.Core.val32_fmul, h, fl_big32]
theorem fl_frac32c {t : Nat} (ht : t < FP.Core.b32.tails) : FP.Core.Whole t (FP.Core.round FP.Core.b32 (FP.Core.exactProduct (FP.Core.round FP.Core.b32 (.fin false t (-((FP.Core.b32.p - 1 : Nat) : Int)))) (.fin false FP.Core.b32.tails 0))) := by
  have hq1 : FP.Core.b32.qmin ≤ -((FP.Core.b32.p - 1 : Nat) : Int) := by rw [FP.Core.qmin_b32, FP.Core.p_b32]; decide
  have hq2 : -((FP.Core.b32.p - 1 : Nat) : Int) ≤ FP.Core.b32.qmax := by rw [FP.Core.p_b32]; decide
  exact fl_scale FP.Core.good_b32 FP.Core.wide_b32 ht hq1 hq2
theorem fl_frac32d {w : UInt32} {t : Nat} (ht : t < FP.Core.b32.tails) (h : FP.Core.Whole t (FP.Core.val32 w)) : FP.f2i w = Int32.ofNat t := by
  rw [FP.Core.tails_b32] at ht
  refine FP.Core.f2i_int (a := Int32.ofNat t) (b := w) ?_
  rw [show (Int32.ofNat t).toInt = (t : Int) from Int32.toInt_ofNat_of_lt (by omega)]
  exact h
theorem fl_frac32 {v : UInt32} {t : Nat} (h : FP.Core.val32 v = .fin false (FP.Core.b32.tails + t) (-23)) (ht : t < FP.Core.b32.tails) : FP.Core.val32 (FP.fsub v 1065353216) ≠ .nan ∧ FP.Core.val32 (FP.fmul (FP.fsub v 1065353216) 1258291200) ≠ .nan ∧ FP.f2i (FP.fmul (FP.fsub v 1065353216) 1258291200) = Int32.ofNat t := by
  have e1 := fl_frac32a h
  have e2 := fl_frac32b e1
  have w0 := fl_frac32c ht
  rw [← e2] at w0
  exact ⟨by rw [e1]; exact FP.Core.roundRatio_ne_nan _ _ _ _ _, FP.Core.Whole.ne_nan w0, fl_frac32d ht w0⟩
theorem fl_join32 {e t : Nat} (he : e < 128) (ht : t < 2 ^ 23) : Int32.ofNat e <<< (23 : Int32) ||| Int32.ofNat t = Int32.ofNat (e * 2 ^ 23 + t) := by
  have h1 : ∀ e : Fin 128, Int32.ofNat e.val <<< (23 : Int32) = Int32.ofNat (e.val * 2 ^ 23) := by decide +kernel
  rw [h1 ⟨e, he⟩]
  show Int32.ofNat (e * 2 ^ 23) ||| Int32.ofNat t = _
  refine Int32.toBitVec_inj.mp ?_
  show BitVec.ofNat 32 (e * 2 ^ 23) ||| BitVec.ofNat 32 t = BitVec.ofNat 32 (e * 2 ^ 23 + t)
  rw [← BitVec.ofNat_or]
  congr 1
  have := Nat.shiftLeft_add_eq_or_of_lt (i := 23) ht e
  rw [Nat.shiftLeft_eq] at this
  exact this.symm
theorem fl_toInt32 (v : UInt32) : v.toInt32 = Int32.ofNat v.toNat := by
  refine Int32.toBitVec_inj.mp ?_
  show v.toBitVec = BitVec.ofNat 32 v.toBitVec.toNat
  rw [BitVec.ofNat_toNat, BitVec.setWidth_eq]
theorem tp9 {a b c : Nat} (h : a + b = c) : 2 ^ a * 2 ^ b = 2 ^ c := by rw [← Nat.pow_add, h]
theorem zV {e : Int} {k : Nat} (h : (e - FP.Core.b64.qmin).toNat = k) : FP.Core.zmag FP.Core.b64 (.fin false (2 ^ 52) e) = 2 ^ (52 + k) := by
  unfold FP.Core.zmag FP.Core.inUnits
  dsimp only
  rw [h, Nat.pow_add]
theorem z0 {q : Int} : FP.Core.zmag FP.Core.b64 (.fin false 0 q) = 0 := by
  unfold FP.Core.zmag FP.Core.inUnits
  dsimp only
  rw [Nat.zero_mul]
theorem zinf {s : Bool} {k : Nat} (h : k ≤ 1100) : ¬ FP.Core.zmag FP.Core.b64 (.inf s) ≤ 2 ^ k := by
  intro z
  unfold FP.Core.zmag at z
  dsimp only at z
  rw [FP.Core.tails_b64, show FP.Core.b64.exps - 2 = 2046 by decide, ← Nat.pow_add] at z
  have := (Nat.pow_le_pow_iff_right (a := 2) (by decide)).mp z
  omega
/-- a double between 0 and k, that is no tiny one -/
def SOk (u : UInt64) (k : Nat) : Prop := ∃ c q, FP.Core.val64 u = .fin false c q ∧ FP.Core.zmag FP.Core.b64 (.fin false c q) ≤ k * 2 ^ 1074 ∧ (FP.Core.zmag FP.Core.b64 (.fin false c q) = 0 ∨ 2 ^ 1050 ≤ FP.Core.zmag FP.Core.b64 (.fin false c q))
def DlOk (u : UInt64) : Prop := u = 0 ∨ ∃ c q, FP.Core.val64 u = .fin false c q ∧ 2 ^ 52 ≤ c ∧ c < 2 ^ 53 ∧ -79 ≤ q ∧ q ≤ -52
theorem SOk.nn {u : UInt64} {k : Nat} (h : SOk u k) : FP.Core.val64 u ≠ .nan := by
  obtain ⟨c, q, e, -⟩ := h
  rw [e]; exact fun z => nomatch z
theorem DlOk.nn {u : UInt64} (h : DlOk u) : FP.Core.val64 u ≠ .nan := by
  rcases h with rfl | ⟨c, q, e, -⟩
  · decide +kernel
  · rw [e]; exact fun z => nomatch z
theorem SOk.zero : SOk 0 0 := ⟨0, FP.Core.b64.qmin, by decide +kernel, by rw [z0]; exact Nat.zero_le _, Or.inl z0⟩
theorem SOk.mono {u : UInt64} {k j : Nat} (h : SOk u k) (hk : k ≤ j) : SOk u j := by
  obtain ⟨c, q, e, h1, h2⟩ := h
  exact ⟨c, q, e, Nat.le_trans h1 (Nat.mul_le_mul_right _ hk), h2⟩
theorem sm_f2d {v : UInt32} (h : FlOk v) : SOk (FP.f2d v) 1 := by
  rw [FP.f2d_core ((FP.Core.notNaN_iff32 v).mpr h.nn)]
  rcases h with rfl | ⟨c, q, e, h1, h2, h3, h4, h5⟩
  · exact ⟨0, FP.Core.b64.qmin, by decide +kernel, by rw [z0]; exact Nat.zero_le _, Or.inl z0⟩
  · have hm : FP.Core.b64.qmax = 971 := by decide
    obtain ⟨c', q', e1, e2⟩ := FP.Core.round_exact FP.Core.good_b64 false (c := c) (q := q) (Nat.lt_trans h2 (by decide)) (by rw [FP.Core.qmin_b64]; omega) (by rw [hm]; omega)
    refine ⟨c', q', by rw [FP.Core.val64_f2d, e, e1], ?_, Or.inr ?_⟩
    · show FP.Core.inUnits c' q' FP.Core.b64.qmin ≤ 1 * 2 ^ 1074
      rw [e2]
      unfold FP.Core.inUnits
      rw [FP.Core.qmin_b64]
      have k : c * 2 ^ (q - -1074).toNat ≤ 2 ^ 23 * 2 ^ 1051 := by
        by_cases z : q = -23
        · rw [h5 z, z, show ((-23 : Int) - -1074).toNat = 1051 by decide]; exact Nat.le_refl _
        · have : (q - -1074).toNat ≤ 1050 := by omega
          calc c * 2 ^ (q - -1074).toNat ≤ 2 ^ 24 * 2 ^ 1050 := Nat.mul_le_mul (Nat.le_of_lt h2) (Nat.pow_le_pow_right (by decide) this)
            _ = 2 ^ 23 * 2 ^ 1051 := (tp9 (a := 24) (b := 1050) (c := 1074) rfl).trans (tp9 (a := 23) (b := 1051) rfl).symm
      rw [tp9 (a := 23) (b := 1051) (c := 1074) rfl] at k
      rw [Nat.one_mul]
      exact k
    · show 2 ^ 1050 ≤ FP.Core.inUnits c' q' FP.Core.b64.qmin
      rw [e2]
      unfold FP.Core.inUnits
      rw [FP.Core.qmin_b64]
      have : 1027 ≤ (q - -1074).toNat := by omega
      calc 2 ^ 1050 = 2 ^ 23 * 2 ^ 1027 := (tp9 (a := 23) (b := 1027) rfl).symm
        _ ≤ c * 2 ^ (q - -1074).toNat := Nat.mul_le_mul h1 (Nat.pow_le_pow_right (by decide) this)
theorem fl_nat64 {n : Nat} (hn : n ≤ 2 ^ 53) : ∃ c q, FP.Core.fits FP.Core.b64 (.fin false c q) ∧ FP.Core.zmag FP.Core.b64 (.fin false c q) = n * 2 ^ 1074 := by
  obtain ⟨c, q, h1, h2⟩ := FP.Core.natFit FP.Core.good_b64 FP.Core.wide_b64 false hn
  refine ⟨c, q, h1, ?_⟩
  have h3 := h1.2.1
  rw [FP.Core.qmin_b64] at h3
  show c * 2 ^ (q - FP.Core.b64.qmin).toNat = _
  rw [FP.Core.qmin_b64]
  rw [Nat.mul_one] at h2
  by_cases z : q ≤ 0
  · rw [show (q - 0).toNat = 0 by omega, Nat.pow_zero, Nat.mul_one] at h2
    rw [← h2, Nat.mul_assoc, ← Nat.pow_add, show (0 - q).toNat + (q - -1074).toNat = 1074 by omega]
  · rw [show (0 - q).toNat = 0 by omega, Nat.pow_zero, Nat.mul_one] at h2
    rw [h2, Nat.mul_assoc, ← Nat.pow_add, show (q - 0).toNat + 1074 = (q - -1074).toNat by omega]
theorem sm_add {u w : UInt64} {j k : Nat} (hu : SOk u j) (hw : SOk w k) (hk : j + k ≤ 8) : SOk (FP.dadd u w) (j + k) := by
  obtain ⟨c, q, e1, a1, b1⟩ := hu
  obtain ⟨d, r, e2, a2, b2⟩ := hw
  have f1 : FP.Core.fits FP.Core.b64 (.fin false c q) := e1 ▸ FP.Core.val64_fits u
  have f2 : FP.Core.fits FP.Core.b64 (.fin false d r) := e2 ▸ FP.Core.val64_fits w
  have q1 := f1.2.1
  have q2 := f2.2.1
  have es : FP.Core.val64 (FP.dadd u w) = FP.Core.roundRatio FP.Core.b64 false (FP.Core.inUnits c q (min q r) + FP.Core.inUnits d r (min q r)) 1 (min q r) := by
    show FP.Core.val64 (FP.Core.dadd u w) = _
    rw [FP.Core.val64_dadd, e1, e2]
    show FP.Core.round FP.Core.b64 (.fin (FP.Core.sumSign false false (((FP.Core.inUnits c q (min q r) : Nat) : Int) + ((FP.Core.inUnits d r (min q r) : Nat) : Int))) (((FP.Core.inUnits c q (min q r) : Nat) : Int) + ((FP.Core.inUnits d r (min q r) : Nat) : Int)).natAbs (min q r)) = _
    rw [← Int.natCast_add, Int.natAbs_natCast]
    have : FP.Core.sumSign false false ((FP.Core.inUnits c q (min q r) + FP.Core.inUnits d r (min q r) : Nat) : Int) = false := by
      unfold FP.Core.sumSign
      split
      · rfl
      · exact decide_eq_false (by omega)
    rw [this]
    rfl
  have hz : FP.Core.inUnits (FP.Core.inUnits c q (min q r) + FP.Core.inUnits d r (min q r)) (min q r) FP.Core.b64.qmin = FP.Core.zmag FP.Core.b64 (.fin false c q) + FP.Core.zmag FP.Core.b64 (.fin false d r) := by
    show (c * 2 ^ (q - min q r).toNat + d * 2 ^ (r - min q r).toNat) * 2 ^ (min q r - FP.Core.b64.qmin).toNat = c * 2 ^ (q - FP.Core.b64.qmin).toNat + d * 2 ^ (r - FP.Core.b64.qmin).toNat
    rw [Nat.add_mul, Nat.mul_assoc, Nat.mul_assoc, ← Nat.pow_add, ← Nat.pow_add]
    congr 2
    · congr 1; omega
    · congr 1; omega
  obtain ⟨c9, q9, f9, z9⟩ := fl_nat64 (n := j + k) (Nat.le_trans hk (by decide))
  have hm : FP.Core.b64.qmin ≤ min q r := by omega
  have hi := FP.Core.zmag_roundRatio_le FP.Core.good_b64 (s := false) (A := FP.Core.inUnits c q (min q r) + FP.Core.inUnits d r (min q r)) (B := 1) (e := min q r) (e0 := FP.Core.b64.qmin) (V := .fin false c9 q9) (by decide) f9 (fun z => nomatch z) (Int.le_refl _) hm (by
    rw [hz, z9, Int.sub_self, Nat.add_mul]
    show _ ≤ (j * 2 ^ 1074 + k * 2 ^ 1074) * 1 * 1
    rw [Nat.mul_one, Nat.mul_one]
    exact Nat.add_le_add a1 a2)
  have hs := FP.Core.sgn_roundRatio FP.Core.b64 false (FP.Core.inUnits c q (min q r) + FP.Core.inUnits d r (min q r)) 1 (min q r)
  have lo : (FP.Core.zmag FP.Core.b64 (.fin false c q) = 0 ∧ FP.Core.zmag FP.Core.b64 (.fin false d r) = 0) ∨ 2 ^ 1050 ≤ FP.Core.zmag FP.Core.b64 (FP.Core.roundRatio FP.Core.b64 false (FP.Core.inUnits c q (min q r) + FP.Core.inUnits d r (min q r)) 1 (min q r)) := by
    by_cases z : FP.Core.zmag FP.Core.b64 (.fin false c q) = 0 ∧ FP.Core.zmag FP.Core.b64 (.fin false d r) = 0
    · exact Or.inl z
    · refine Or.inr ?_
      have h9 := FP.Core.zmag_roundRatio_ge FP.Core.good_b64 (s := false) (A := FP.Core.inUnits c q (min q r) + FP.Core.inUnits d r (min q r)) (B := 1) (e := min q r) (e0 := FP.Core.b64.qmin) (V := .fin false (2 ^ 52) (-76)) (by decide) (by refine ⟨?_, ?_, ?_, ?_⟩ <;> decide) (Int.le_refl _) hm (by
        rw [hz, Int.sub_self, show (2 : Nat) ^ Int.toNat 0 = 1 from rfl, Nat.mul_one, Nat.mul_one, zV (k := 998) (by decide)]
        generalize hP : 2 ^ 1050 = P at b1 b2
        omega)
      rw [zV (k := 998) (by decide)] at h9
      exact h9
  rw [z9] at hi
  cases g : FP.Core.roundRatio FP.Core.b64 false (FP.Core.inUnits c q (min q r) + FP.Core.inUnits d r (min q r)) 1 (min q r) with
  | nan => exact absurd g (FP.Core.roundRatio_ne_nan _ _ _ _ _)
  | inf s =>
    rw [g] at hi
    have h8 := Nat.le_trans hi (Nat.mul_le_mul_right (2 ^ 1074) hk)
    rw [show 8 = 2 ^ 3 from rfl, tp9 (a := 3) (b := 1074) (c := 1077) rfl] at h8
    exact absurd h8 (zinf (by decide))
  | fin s c8 q8 =>
    rw [g] at hi hs lo
    have : s = false := hs
    subst this
    refine ⟨c8, q8, es.trans g, hi, ?_⟩
    rcases lo with ⟨z1, z2⟩ | z
    · left
      have hA : FP.Core.inUnits c q (min q r) + FP.Core.inUnits d r (min q r) = 0 := by
        have : (FP.Core.inUnits c q (min q r) + FP.Core.inUnits d r (min q r)) * 2 ^ (min q r - FP.Core.b64.qmin).toNat = 0 := by
          have := hz
          unfold FP.Core.inUnits at this ⊢
          rw [this, z1, z2]
        exact (Nat.mul_eq_zero.mp this).resolve_right (Nat.ne_of_gt (Nat.two_pow_pos _))
      rw [hA] at g
      have : FP.Core.Datum.fin false 0 FP.Core.b64.qmin = .fin false c8 q8 := g
      injection this with _ x1 x2
      rw [← x1]
      exact Nat.zero_mul _
    · exact Or.inr z
theorem sm_avg {u : UInt64} {n : Nat} {x : Int32} (hu : SOk u n) (h0 : 0 < n) (h8 : n ≤ 8) (hx : x.toInt = n) : DlOk (FP.ddiv u (FP.i2d x)) := by
  obtain ⟨c, q, e1, a1, b1⟩ := hu
  have f1 : FP.Core.fits FP.Core.b64 (.fin false c q) := e1 ▸ FP.Core.val64_fits u
  have q1 := f1.2.1
  rw [FP.Core.qmin_b64] at q1
  have w := FP.Core.i2d_int x
  unfold FP.Core.DInt at w
  rw [hx] at w
  have : ∃ d r, FP.Core.val64 (FP.Core.i2d x) = .fin false d r ∧ d * 2 ^ r.toNat = n * 2 ^ (-r).toNat ∧ 0 < d := by
    cases e : FP.Core.val64 (FP.Core.i2d x) with
    | nan => rw [e] at w; exact w.elim
    | inf s => rw [e] at w; exact w.elim
    | fin s d r =>
      rw [e] at w
      have hs := FP.Core.whole_sign w (by omega)
      have hz : ¬ d = 0 := fun z => absurd ((FP.Core.whole_zero w).mp z) (by omega)
      have : s = false := by rw [hs]; exact decide_eq_false (by omega)
      subst this
      have w' : ((d * 2 ^ r.toNat : Nat) : Int) = (n : Int) * ((2 ^ (-r).toNat : Nat) : Int) := w
      exact ⟨d, r, rfl, by exact_mod_cast w', by omega⟩
  obtain ⟨d, r, e2, w2, d0⟩ := this
  have es : FP.Core.val64 (FP.ddiv u (FP.i2d x)) = FP.Core.roundRatio FP.Core.b64 false (FP.Core.zmag FP.Core.b64 (.fin false c q)) n FP.Core.b64.qmin := by
    show FP.Core.val64 (FP.Core.ddiv u (FP.Core.i2d x)) = _
    rw [FP.Core.val64_ddiv, e1, e2]
    show (if d = 0 then _ else FP.Core.roundRatio FP.Core.b64 (false != false) c d (q - r)) = _
    rw [if_neg (by omega)]
    refine FP.Core.roundRatio_congr d0 h0 ?_
    show c * n * 2 ^ (q - r - FP.Core.b64.qmin).toNat = c * 2 ^ (q - FP.Core.b64.qmin).toNat * d * 2 ^ (FP.Core.b64.qmin - (q - r)).toNat
    rw [FP.Core.qmin_b64]
    have k : (q - r - -1074).toNat + r.toNat = (q - -1074).toNat + (-1074 - (q - r)).toNat + (-r).toNat := by omega
    have key : c * n * 2 ^ (q - r - -1074).toNat * 2 ^ (-r).toNat = c * 2 ^ (q - -1074).toNat * d * 2 ^ (-1074 - (q - r)).toNat * 2 ^ (-r).toNat := by
      calc c * n * 2 ^ (q - r - -1074).toNat * 2 ^ (-r).toNat = c * 2 ^ (q - r - -1074).toNat * (n * 2 ^ (-r).toNat) := by ac_rfl
        _ = c * d * 2 ^ ((q - r - -1074).toNat + r.toNat) := by rw [← w2, Nat.pow_add]; ac_rfl
        _ = _ := by rw [k, Nat.pow_add, Nat.pow_add]; ac_rfl
    exact Nat.eq_of_mul_eq_mul_right (Nat.two_pow_pos _) key
  have hs := FP.Core.sgn_roundRatio FP.Core.b64 false (FP.Core.zmag FP.Core.b64 (.fin false c q)) n FP.Core.b64.qmin
  have hf := FP.Core.roundRatio_fits FP.Core.good_b64 false (FP.Core.zmag FP.Core.b64 (.fin false c q)) h0 FP.Core.b64.qmin
  rcases b1 with z | z
  · left
    rw [z] at es
    refine FP.Core.val64_inj (by rw [es]; exact FP.Core.roundRatio_ne_nan _ _ _ _ _) ?_
    rw [es, show FP.Core.roundRatio FP.Core.b64 false 0 n FP.Core.b64.qmin = .fin false 0 FP.Core.b64.qmin from rfl]
    decide +kernel
  · right
    have hi := FP.Core.zmag_roundRatio_le FP.Core.good_b64 (s := false) (A := FP.Core.zmag FP.Core.b64 (.fin false c q)) (e := FP.Core.b64.qmin) (e0 := FP.Core.b64.qmin) (V := .fin false (2 ^ 52) (-52)) h0 (by refine ⟨?_, ?_, ?_, ?_⟩ <;> decide) (fun z => nomatch z) (Int.le_refl _) (Int.le_refl _) (by
      unfold FP.Core.inUnits
      rw [Int.sub_self, show (2 : Nat) ^ Int.toNat 0 = 1 from rfl, Nat.mul_one, Nat.mul_one, zV (k := 1022) (by decide), Nat.mul_comm (2 ^ _)]
      exact a1)
    have lo := FP.Core.zmag_roundRatio_ge FP.Core.good_b64 (s := false) (A := FP.Core.zmag FP.Core.b64 (.fin false c q)) (e := FP.Core.b64.qmin) (e0 := FP.Core.b64.qmin) (V := .fin false (2 ^ 52) (-79)) h0 (by refine ⟨?_, ?_, ?_, ?_⟩ <;> decide) (Int.le_refl _) (Int.le_refl _) (by
      unfold FP.Core.inUnits
      rw [Int.sub_self, show (2 : Nat) ^ Int.toNat 0 = 1 from rfl, Nat.mul_one, Nat.mul_one, zV (k := 995) (by decide)]
      refine Nat.le_trans (Nat.mul_le_mul_left _ h8) (Nat.le_trans ?_ z)
      rw [show 8 = 2 ^ 3 from rfl, ← Nat.pow_add]
      exact Nat.pow_le_pow_right (by decide) (by decide))
    rw [← es] at hf hs lo hi
    cases g : FP.Core.val64 (FP.ddiv u (FP.i2d x)) with
    | nan => exact absurd (es.symm.trans g) (FP.Core.roundRatio_ne_nan _ _ _ _ _)
    | inf s =>
      rw [g] at hi
      rw [zV (k := 1022) (by decide)] at hi
      exact absurd hi (zinf (by decide))
    | fin s c8 q8 =>
      rw [g] at hf hs lo hi
      have : s = false := hs
      subst this
      obtain ⟨r1, r2, r3⟩ := fl_range FP.Core.good_b64 hf (m := 995) (M := 1022) (by rw [FP.Core.tails_b64, ← Nat.pow_add]; rw [zV (k := 995) (by decide)] at lo; exact lo) (by rw [FP.Core.tails_b64, ← Nat.pow_add]; rw [zV (k := 1022) (by decide)] at hi; exact hi)
      have r2' : (-1074 : Int) + ((995 : Nat) : Int) ≤ q8 := r2
      have r3' : q8 ≤ (-1074 : Int) + ((1022 : Nat) : Int) := r3
      exact ⟨c8, q8, rfl, r1, hf.1, by omega, by omega⟩
theorem DlOk.bits {v : UInt64} {c : Nat} {q : Int} (h : FP.Core.val64 v = .fin false c q) (hc : 2 ^ 52 ≤ c) : v.toNat = ((q + 1074).toNat + 1) * 2 ^ 52 + (c - 2 ^ 52) := by
  have hf := FP.Core.val64_fits v
  have h1 : FP.Core.of64 (FP.Core.val64 v) = v := FP.Core.of64_val64 (by rw [h]; exact fun z => nomatch z)
  rw [← h1, FP.Core.toNat_of64 hf, h, fl_bits (f := FP.Core.b64) (show FP.Core.b64.tails ≤ c from hc)]
  show ((q - FP.Core.b64.qmin).toNat + 1) * 2 ^ 52 + (c - 2 ^ 52) = _
  rw [show q - FP.Core.b64.qmin = q + 1074 from (by rw [FP.Core.qmin_b64]; omega)]
theorem fl_two64 : FP.Core.val64 4611686018427387904 = .fin false FP.Core.b64.tails (1 - ((FP.Core.b64.p - 1 : Nat) : Int)) := by decide +kernel
theorem fl_one64 : FP.Core.val64 4607182418800017408 = .fin false FP.Core.b64.tails (-((FP.Core.b64.p - 1 : Nat) : Int)) := by decide +kernel
theorem fl_big64 : FP.Core.val64 4841369599423283200 = .fin false FP.Core.b64.tails 0 := by decide +kernel
theorem fl_dbl64 {v : UInt64} {c : Nat} {q : Int} (h : FP.Core.val64 v = .fin false c q) (h1 : 2 ^ 52 ≤ c) (h2 : c < 2 ^ 53) (h3 : -79 ≤ q) (h4 : q < -52) : FP.Core.val64 (FP.dmul v 4611686018427387904) = .fin false c (q + 1) := by
  show FP.Core.val64 (FP.Core.dmul v 4611686018427387904) = _
  rw [FP.Core.val64_dmul, h, fl_two64]
  refine fl_dbl FP.Core.good_b64 ⟨h2, ?_, ?_, Or.inr h1⟩
  · rw [FP.Core.qmin_b64]; omega
  · have : FP.Core.b64.qmax = 971 := by decide
    rw [this]; omega
theorem fl_cmp64 {v : UInt64} {c : Nat} {q : Int} (h : FP.Core.val64 v = .fin false c q) (h1 : 2 ^ 52 ≤ c) (h2 : c < 2 ^ 53) : (q < -52 → FP.dcmp v 4607182418800017408 = some .lt) ∧ (q = -52 → FP.dcmp v 4607182418800017408 = some .eq ∨ FP.dcmp v 4607182418800017408 = some .gt) := by
  have e : FP.dcmp v 4607182418800017408 = FP.Core.order (.fin false c q) (.fin false FP.Core.b64.tails (-((FP.Core.b64.p - 1 : Nat) : Int))) := by
    show FP.Core.order (FP.Core.val64 v) (FP.Core.val64 4607182418800017408) = _
    rw [h, fl_one64]
  rw [e]
  exact fl_order FP.Core.good_b64 (P := -((FP.Core.b64.p - 1 : Nat) : Int)) h1 h2
theorem fl_zero64 {v : UInt64} {c : Nat} {q : Int} (h : FP.Core.val64 v = .fin false c q) (h1 : 2 ^ 52 ≤ c) : FP.dcmp v 0 = some .gt := by
  show FP.Core.order (FP.Core.val64 v) (FP.Core.val64 0) = _
  rw [h, show FP.Core.val64 0 = .fin false 0 FP.Core.b64.qmin by decide +kernel]
  exact fl_pos (by omega)
theorem fl_frac64a {v : UInt64} {t : Nat} (h : FP.Core.val64 v = .fin false (FP.Core.b64.tails + t) (-52)) : FP.Core.val64 (FP.dsub v 4607182418800017408) = FP.Core.round FP.Core.b64 (.fin false t (-((FP.Core.b64.p - 1 : Nat) : Int))) := by
  show FP.Core.val64 (FP.Core.dsub v 4607182418800017408) = _
  have h' : FP.Core.val64 v = .fin false (FP.Core.b64.tails + t) (-((FP.Core.b64.p - 1 : Nat) : Int)) := by rw [h, show (-((FP.Core.b64.p - 1 : Nat) : Int)) = -52 by decide]
  rw [FP.Core.val64_dsub, h', fl_one64, fl_sub (f := FP.Core.b64) (q := -((FP.Core.b64.p - 1 : Nat) : Int))]
theorem fl_frac64b {w : UInt64} {D : FP.Core.Datum} (h : FP.Core.val64 w = D) : FP.Core.val64 (FP.dmul w 4841369599423283200) = FP.Core.round FP.Core.b64 (FP.Core.exactProduct D (.fin false FP.Core.b64.tails 0)) := by
  show FP.Core.val64 (FP.Core.dmul w 4841369599423283200) = _
  rw [FP.Core.val64_dmul, h, fl_big64]
theorem fl_frac64c {t : Nat} (ht : t < FP.Core.b64.tails) : FP.Core.Whole t (FP.Core.round FP.Core.b64 (FP.Core.exactProduct (FP.Core.round FP.Core.b64 (.fin false t (-((FP.Core.b64.p - 1 : Nat) : Int)))) (.fin false FP.Core.b64.tails 0))) := by
  have hq1 : FP.Core.b64.qmin ≤ -((FP.Core.b64.p - 1 : Nat) : Int) := by rw [FP.Core.qmin_b64, FP.Core.p_b64]; decide
  have hq2 : -((FP.Core.b64.p - 1 : Nat) : Int) ≤ FP.Core.b64.qmax := by rw [FP.Core.p_b64]; decide
  exact fl_scale FP.Core.good_b64 FP.Core.wide_b64 ht hq1 hq2
theorem fl_frac64d {w : UInt64} {t : Nat} (ht : t < FP.Core.b64.tails) (h : FP.Core.Whole t (FP.Core.val64 w)) : FP.d2l w = Int64.ofNat t := by
  rw [FP.Core.tails_b64] at ht
  refine FP.Core.d2l_int (a := Int64.ofNat t) (b := w) ?_
  rw [show (Int64.ofNat t).toInt = (t : Int) from Int64.toInt_ofNat_of_lt (by omega)]
  exact h
theorem fl_frac64 {v : UInt64} {t : Nat} (h : FP.Core.val64 v = .fin false (FP.Core.b64.tails + t) (-52)) (ht : t < FP.Core.b64.tails) : FP.Core.val64 (FP.dsub v 4607182418800017408) ≠ .nan ∧ FP.Core.val64 (FP.dmul (FP.dsub v 4607182418800017408) 4841369599423283200) ≠ .nan ∧ FP.d2l (FP.dmul (FP.dsub v 4607182418800017408) 4841369599423283200) = Int64.ofNat t := by
  have e1 := fl_frac64a h
  have e2 := fl_frac64b e1
  have w0 := fl_frac64c ht
  rw [← e2] at w0
  exact ⟨by rw [e1]; exact FP.Core.roundRatio_ne_nan _ _ _ _ _, FP.Core.Whole.ne_nan w0, fl_frac64d ht w0⟩
theorem fl_join64 {e t : Nat} (he : e < 1024) (ht : t < 2 ^ 52) : Int64.ofNat e <<< (52 : Int64) ||| Int64.ofNat t = Int64.ofNat (e * 2 ^ 52 + t) := by
  have h1 : ∀ e : Fin 1024, Int64.ofNat e.val <<< (52 : Int64) = Int64.ofNat (e.val * 2 ^ 52) := by decide +kernel
  rw [h1 ⟨e, he⟩]
  show Int64.ofNat (e * 2 ^ 52) ||| Int64.ofNat t = _
  refine Int64.toBitVec_inj.mp ?_
  show BitVec.ofNat 64 (e * 2 ^ 52) ||| BitVec.ofNat 64 t = BitVec.ofNat 64 (e * 2 ^ 52 + t)
  rw [← BitVec.ofNat_or]
  congr 1
  have := Nat.shiftLeft_add_eq_or_of_lt (i := 52) ht e
  rw [Nat.shiftLeft_eq] at this
  exact this.symm
theorem fl_toInt64 (v : UInt64) : v.toInt64 = Int64.ofNat v.toNat := by
  refine Int64.toBitVec_inj.mp ?_
  show v.toBitVec = BitVec.ofNat 64 v.toBitVec.toNat
  rw [BitVec.ofNat_toNat, BitVec.setWidth_eq]
end H1

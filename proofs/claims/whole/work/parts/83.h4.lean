section H4
def nxI : Option Nat → Int32
  | none => -1
  | some s => nI s
theorem d_btw5 {l : Launch} (hst : l.stackTraces = false) {Q : Option Value → Hp → Prop} {X : String → Hp → Prop} {H : Hp} {c lo hi : Int32} (q1 : isC lo hi c → Q (some (.int 1)) H) (q0 : ¬ isC lo hi c → Q (some (.int 0)) H) : CX5_isBetween l [.int c, .int lo, .int hi] H Q X := by
  refine eX5_isBetween hst (Nat.le_of_ble_eq_true rfl) (fun K => ?_)
  refine And.intro (fun h1 => ?_) (fun h1 => ?_)
  · repeat (refine And.intro (by first | assumption | rfl | exact Nat.le_of_ble_eq_true rfl | exact Nat.zero_le _ | decide) ?_)
    exact q0 (fun z => Int32.lt_irrefl (Int32.lt_of_lt_of_le h1 z.1))
  · refine And.intro (fun h2 => ?_) (fun h2 => ?_)
    · repeat (refine And.intro (by first | assumption | rfl | exact Nat.le_of_ble_eq_true rfl | exact Nat.zero_le _ | decide) ?_)
      exact q0 (fun z => Int32.lt_irrefl (Int32.lt_of_lt_of_le h2 z.2))
    · repeat (refine And.intro (by first | assumption | rfl | exact Nat.le_of_ble_eq_true rfl | exact Nat.zero_le _ | decide) ?_)
      exact q1 ⟨Int32.not_lt.mp h1, Int32.not_lt.mp h2⟩
theorem d_nextAfterKind {l : Launch} (hst : l.stackTraces = false) {Q : Option Value → Hp → Prop} {X : String → Hp → Prop} {H : Hp} {c : Int32} (q : Q (some (.int (nxI (nx 0 c)))) H) : CX5_nextAfterKind l [.int c] H Q X := by
  have key : ∀ v, nxI (nx 0 c) = v → Q (some (.int v)) H := by rintro _ rfl; exact q
  refine eX5_nextAfterKind hst (Nat.le_of_ble_eq_true rfl) (fun K => ?_)
  refine ⟨⟨fun z => ?_, fun z => ?_, fun z => ?_, fun z => ?_, fun z => ?_, fun z => ?_, fun z => ?_, fun z => ?_, fun z => ?_, fun z => ?_, fun z => ?_, fun z => ?_, fun z => ?_, fun z => ?_, fun z => ?_, fun z => ?_, fun z => ?_, fun z => ?_, trivial⟩, fun z => ?_⟩
  · have e : c = 98 := Int32.toInt_inj.mp (z.trans (by decide))
    repeat (refine And.intro (by first | assumption | rfl | exact Nat.le_of_ble_eq_true rfl | exact Nat.zero_le _ | decide) ?_)
    exact key _ (by rw [e]; rfl)
  · have e : c = 99 := Int32.toInt_inj.mp (z.trans (by decide))
    repeat (refine And.intro (by first | assumption | rfl | exact Nat.le_of_ble_eq_true rfl | exact Nat.zero_le _ | decide) ?_)
    exact key _ (by rw [e]; rfl)
  · have e : c = 100 := Int32.toInt_inj.mp (z.trans (by decide))
    repeat (refine And.intro (by first | assumption | rfl | exact Nat.le_of_ble_eq_true rfl | exact Nat.zero_le _ | decide) ?_)
    exact key _ (by rw [e]; rfl)
  · have e : c = 101 := Int32.toInt_inj.mp (z.trans (by decide))
    repeat (refine And.intro (by first | assumption | rfl | exact Nat.le_of_ble_eq_true rfl | exact Nat.zero_le _ | decide) ?_)
    exact key _ (by rw [e]; rfl)
  · have e : c = 102 := Int32.toInt_inj.mp (z.trans (by decide))
    repeat (refine And.intro (by first | assumption | rfl | exact Nat.le_of_ble_eq_true rfl | exact Nat.zero_le _ | decide) ?_)
    exact key _ (by rw [e]; rfl)
  · have e : c = 103 := Int32.toInt_inj.mp (z.trans (by decide))
    repeat (refine And.intro (by first | assumption | rfl | exact Nat.le_of_ble_eq_true rfl | exact Nat.zero_le _ | decide) ?_)
    exact key _ (by rw [e]; rfl)
  · have e : c = 104 := Int32.toInt_inj.mp (z.trans (by decide))
    repeat (refine And.intro (by first | assumption | rfl | exact Nat.le_of_ble_eq_true rfl | exact Nat.zero_le _ | decide) ?_)
    exact key _ (by rw [e]; rfl)
  · have e : c = 105 := Int32.toInt_inj.mp (z.trans (by decide))
    repeat (refine And.intro (by first | assumption | rfl | exact Nat.le_of_ble_eq_true rfl | exact Nat.zero_le _ | decide) ?_)
    exact key _ (by rw [e]; rfl)
  · have e : c = 106 := Int32.toInt_inj.mp (z.trans (by decide))
    repeat (refine And.intro (by first | assumption | rfl | exact Nat.le_of_ble_eq_true rfl | exact Nat.zero_le _ | decide) ?_)
    exact key _ (by rw [e]; rfl)
  · have e : c = 107 := Int32.toInt_inj.mp (z.trans (by decide))
    repeat (refine And.intro (by first | assumption | rfl | exact Nat.le_of_ble_eq_true rfl | exact Nat.zero_le _ | decide) ?_)
    exact key _ (by rw [e]; rfl)
  · have e : c = 108 := Int32.toInt_inj.mp (z.trans (by decide))
    repeat (refine And.intro (by first | assumption | rfl | exact Nat.le_of_ble_eq_true rfl | exact Nat.zero_le _ | decide) ?_)
    exact key _ (by rw [e]; rfl)
  · have e : c = 109 := Int32.toInt_inj.mp (z.trans (by decide))
    repeat (refine And.intro (by first | assumption | rfl | exact Nat.le_of_ble_eq_true rfl | exact Nat.zero_le _ | decide) ?_)
    exact key _ (by rw [e]; rfl)
  · have e : c = 110 := Int32.toInt_inj.mp (z.trans (by decide))
    repeat (refine And.intro (by first | assumption | rfl | exact Nat.le_of_ble_eq_true rfl | exact Nat.zero_le _ | decide) ?_)
    exact key _ (by rw [e]; rfl)
  · have e : c = 111 := Int32.toInt_inj.mp (z.trans (by decide))
    repeat (refine And.intro (by first | assumption | rfl | exact Nat.le_of_ble_eq_true rfl | exact Nat.zero_le _ | decide) ?_)
    exact key _ (by rw [e]; rfl)
  · have e : c = 112 := Int32.toInt_inj.mp (z.trans (by decide))
    repeat (refine And.intro (by first | assumption | rfl | exact Nat.le_of_ble_eq_true rfl | exact Nat.zero_le _ | decide) ?_)
    exact key _ (by rw [e]; rfl)
  · have e : c = 113 := Int32.toInt_inj.mp (z.trans (by decide))
    repeat (refine And.intro (by first | assumption | rfl | exact Nat.le_of_ble_eq_true rfl | exact Nat.zero_le _ | decide) ?_)
    exact key _ (by rw [e]; rfl)
  · have e : c = 114 := Int32.toInt_inj.mp (z.trans (by decide))
    repeat (refine And.intro (by first | assumption | rfl | exact Nat.le_of_ble_eq_true rfl | exact Nat.zero_le _ | decide) ?_)
    exact key _ (by rw [e]; rfl)
  · have e : c = 115 := Int32.toInt_inj.mp (z.trans (by decide))
    repeat (refine And.intro (by first | assumption | rfl | exact Nat.le_of_ble_eq_true rfl | exact Nat.zero_le _ | decide) ?_)
    exact key _ (by rw [e]; rfl)
  · repeat (refine And.intro (by first | assumption | rfl | exact Nat.le_of_ble_eq_true rfl | exact Nat.zero_le _ | decide) ?_)
    refine key _ ?_
    have z' : c.toInt < 98 ∨ 116 ≤ c.toInt := z
    have n1 : ∀ v : Int32, (98 ≤ v.toInt ∧ v.toInt < 116) → ¬ c = v := fun v hv hc => by rw [hc] at z'; omega
    show nxI (if c = 114 ∨ c = 103 ∨ c = 98 ∨ c = 115 then some 1 else if c = 107 then some 6 else if c = 100 then some 7 else none) = -1
    rw [if_neg (fun y => by
      rcases y with y | y | y | y
      · exact n1 _ (by decide) y
      · exact n1 _ (by decide) y
      · exact n1 _ (by decide) y
      · exact n1 _ (by decide) y), if_neg (n1 _ (by decide)), if_neg (n1 _ (by decide))]
    rfl
theorem d_nextAfterDigit {l : Launch} (hst : l.stackTraces = false) {Q : Option Value → Hp → Prop} {X : String → Hp → Prop} {H : Hp} {c : Int32} {s s' : Nat} (hs : (s = 4 ∧ s' = 5) ∨ (s = 5 ∧ s' = 8)) (q : Q (some (.int (nxI (nx s c)))) H) : CX5_nextAfterDigit l [.int c, .int (nI s')] H Q X := by
  have e : nx s c = if c = 59 then some 0 else if isC 48 57 c then some s' else none := by rcases hs with ⟨rfl, rfl⟩ | ⟨rfl, rfl⟩ <;> rfl
  rw [e] at q
  refine eX5_nextAfterDigit hst (Nat.le_of_ble_eq_true rfl) (fun K => ?_)
  refine And.intro (fun hc => ?_) (fun hc => ?_)
  · rw [if_neg hc] at q
    repeat (refine And.intro (by first | assumption | rfl | exact Nat.le_of_ble_eq_true rfl | exact Nat.zero_le _ | decide) ?_)
    refine d_btw5 hst (fun h => ?_) (fun h => ?_)
    · rw [if_pos h] at q
      refine And.intro (fun z => absurd z (by decide)) (fun _ => ?_)
      repeat (refine And.intro (by first | assumption | rfl | exact Nat.le_of_ble_eq_true rfl | exact Nat.zero_le _ | decide) ?_)
      exact q
    · rw [if_neg h] at q
      refine And.intro (fun _ => ?_) (fun z => absurd rfl z)
      repeat (refine And.intro (by first | assumption | rfl | exact Nat.le_of_ble_eq_true rfl | exact Nat.zero_le _ | decide) ?_)
      exact q
  · rw [if_pos hc] at q
    repeat (refine And.intro (by first | assumption | rfl | exact Nat.le_of_ble_eq_true rfl | exact Nat.zero_le _ | decide) ?_)
    exact q
theorem d_nextAfter {l : Launch} (hst : l.stackTraces = false) {Q : Option Value → Hp → Prop} {X : String → Hp → Prop} {H : Hp} {s : Nat} {c : Int32} (hs : s ≤ 8) (q : Q (some (.int (nxI (nx s c)))) H) : CX5_nextAfter l [.int (nI s), .int c] H Q X := by
  have bt : ∀ (lo hi : Int32) (s' : Nat) {u : Nat × Nat}, nx s c = (if isC lo hi c then some s' else none) → ((isC lo hi c → Q (some (.int (nI s'))) H) ∧ (¬ isC lo hi c → Q (some (.int (-1))) H)) := fun lo hi s' u e => by
    rw [e] at q
    refine ⟨fun h => ?_, fun h => ?_⟩
    · rw [if_pos h] at q; exact q
    · rw [if_neg h] at q; exact q
  refine eX5_nextAfter hst (Nat.le_of_ble_eq_true rfl) (fun K => ?_)
  have h9 : s = 0 ∨ s = 1 ∨ s = 2 ∨ s = 3 ∨ s = 4 ∨ s = 5 ∨ s = 6 ∨ s = 7 ∨ s = 8 := by omega
  rcases h9 with rfl | rfl | rfl | rfl | rfl | rfl | rfl | rfl | rfl
  · refine ⟨⟨fun z => ?_, fun z => ?_, fun z => ?_, fun z => ?_, fun z => ?_, fun z => ?_, fun z => ?_, fun z => ?_, trivial⟩, fun z => ?_⟩
    all_goals first | exact absurd z (by decide) | exact absurd (show (nI 0).toInt < 0 ∨ (8 : Int) ≤ (nI 0).toInt from z) (by decide) | skip
    repeat (refine And.intro (by first | assumption | rfl | exact Nat.le_of_ble_eq_true rfl | exact Nat.zero_le _ | decide) ?_)
    refine d_nextAfterKind hst ?_
    repeat (refine And.intro (by first | assumption | rfl | exact Nat.le_of_ble_eq_true rfl | exact Nat.zero_le _ | decide) ?_)
    exact q
  · refine ⟨⟨fun z => ?_, fun z => ?_, fun z => ?_, fun z => ?_, fun z => ?_, fun z => ?_, fun z => ?_, fun z => ?_, trivial⟩, fun z => ?_⟩
    all_goals first | exact absurd z (by decide) | exact absurd (show (nI 1).toInt < 0 ∨ (8 : Int) ≤ (nI 1).toInt from z) (by decide) | skip
    obtain ⟨b1, b0⟩ := bt 48 55 2 (u := (0, 0)) rfl
    repeat (refine And.intro (by first | assumption | rfl | exact Nat.le_of_ble_eq_true rfl | exact Nat.zero_le _ | decide) ?_)
    refine d_btw5 hst (fun h => ?_) (fun h => ?_)
    · refine And.intro (fun z => absurd z (by decide)) (fun _ => ?_)
      repeat (refine And.intro (by first | assumption | rfl | exact Nat.le_of_ble_eq_true rfl | exact Nat.zero_le _ | decide) ?_)
      exact b1 h
    · refine And.intro (fun _ => ?_) (fun z => absurd rfl z)
      repeat (refine And.intro (by first | assumption | rfl | exact Nat.le_of_ble_eq_true rfl | exact Nat.zero_le _ | decide) ?_)
      exact b0 h
  · refine ⟨⟨fun z => ?_, fun z => ?_, fun z => ?_, fun z => ?_, fun z => ?_, fun z => ?_, fun z => ?_, fun z => ?_, trivial⟩, fun z => ?_⟩
    all_goals first | exact absurd z (by decide) | exact absurd (show (nI 2).toInt < 0 ∨ (8 : Int) ≤ (nI 2).toInt from z) (by decide) | skip
    have e : nx 2 c = if c = 42 then some 3 else none := rfl
    rw [e] at q
    refine And.intro (fun hc => ?_) (fun hc => ?_)
    · rw [if_neg hc] at q
      repeat (refine And.intro (by first | assumption | rfl | exact Nat.le_of_ble_eq_true rfl | exact Nat.zero_le _ | decide) ?_)
      exact q
    · rw [if_pos hc] at q
      repeat (refine And.intro (by first | assumption | rfl | exact Nat.le_of_ble_eq_true rfl | exact Nat.zero_le _ | decide) ?_)
      exact q
  · refine ⟨⟨fun z => ?_, fun z => ?_, fun z => ?_, fun z => ?_, fun z => ?_, fun z => ?_, fun z => ?_, fun z => ?_, trivial⟩, fun z => ?_⟩
    all_goals first | exact absurd z (by decide) | exact absurd (show (nI 3).toInt < 0 ∨ (8 : Int) ≤ (nI 3).toInt from z) (by decide) | skip
    obtain ⟨b1, b0⟩ := bt 49 57 4 (u := (0, 0)) rfl
    repeat (refine And.intro (by first | assumption | rfl | exact Nat.le_of_ble_eq_true rfl | exact Nat.zero_le _ | decide) ?_)
    refine d_btw5 hst (fun h => ?_) (fun h => ?_)
    · refine And.intro (fun z => absurd z (by decide)) (fun _ => ?_)
      repeat (refine And.intro (by first | assumption | rfl | exact Nat.le_of_ble_eq_true rfl | exact Nat.zero_le _ | decide) ?_)
      exact b1 h
    · refine And.intro (fun _ => ?_) (fun z => absurd rfl z)
      repeat (refine And.intro (by first | assumption | rfl | exact Nat.le_of_ble_eq_true rfl | exact Nat.zero_le _ | decide) ?_)
      exact b0 h
  · refine ⟨⟨fun z => ?_, fun z => ?_, fun z => ?_, fun z => ?_, fun z => ?_, fun z => ?_, fun z => ?_, fun z => ?_, trivial⟩, fun z => ?_⟩
    all_goals first | exact absurd z (by decide) | exact absurd (show (nI 4).toInt < 0 ∨ (8 : Int) ≤ (nI 4).toInt from z) (by decide) | skip
    repeat (refine And.intro (by first | assumption | rfl | exact Nat.le_of_ble_eq_true rfl | exact Nat.zero_le _ | decide) ?_)
    refine d_nextAfterDigit hst (s := 4) (s' := 5) (by omega) ?_
    repeat (refine And.intro (by first | assumption | rfl | exact Nat.le_of_ble_eq_true rfl | exact Nat.zero_le _ | decide) ?_)
    exact q
  · refine ⟨⟨fun z => ?_, fun z => ?_, fun z => ?_, fun z => ?_, fun z => ?_, fun z => ?_, fun z => ?_, fun z => ?_, trivial⟩, fun z => ?_⟩
    all_goals first | exact absurd z (by decide) | exact absurd (show (nI 5).toInt < 0 ∨ (8 : Int) ≤ (nI 5).toInt from z) (by decide) | skip
    repeat (refine And.intro (by first | assumption | rfl | exact Nat.le_of_ble_eq_true rfl | exact Nat.zero_le _ | decide) ?_)
    refine d_nextAfterDigit hst (s := 5) (s' := 8) (by omega) ?_
    repeat (refine And.intro (by first | assumption | rfl | exact Nat.le_of_ble_eq_true rfl | exact Nat.zero_le _ | decide) ?_)
    exact q
  · refine ⟨⟨fun z => ?_, fun z => ?_, fun z => ?_, fun z => ?_, fun z => ?_, fun z => ?_, fun z => ?_, fun z => ?_, trivial⟩, fun z => ?_⟩
    all_goals first | exact absurd z (by decide) | exact absurd (show (nI 6).toInt < 0 ∨ (8 : Int) ≤ (nI 6).toInt from z) (by decide) | skip
    obtain ⟨b1, b0⟩ := bt 48 51 8 (u := (0, 0)) rfl
    repeat (refine And.intro (by first | assumption | rfl | exact Nat.le_of_ble_eq_true rfl | exact Nat.zero_le _ | decide) ?_)
    refine d_btw5 hst (fun h => ?_) (fun h => ?_)
    · refine And.intro (fun z => absurd z (by decide)) (fun _ => ?_)
      repeat (refine And.intro (by first | assumption | rfl | exact Nat.le_of_ble_eq_true rfl | exact Nat.zero_le _ | decide) ?_)
      exact b1 h
    · refine And.intro (fun _ => ?_) (fun z => absurd rfl z)
      repeat (refine And.intro (by first | assumption | rfl | exact Nat.le_of_ble_eq_true rfl | exact Nat.zero_le _ | decide) ?_)
      exact b0 h
  · refine ⟨⟨fun z => ?_, fun z => ?_, fun z => ?_, fun z => ?_, fun z => ?_, fun z => ?_, fun z => ?_, fun z => ?_, trivial⟩, fun z => ?_⟩
    all_goals first | exact absurd z (by decide) | exact absurd (show (nI 7).toInt < 0 ∨ (8 : Int) ≤ (nI 7).toInt from z) (by decide) | skip
    obtain ⟨b1, b0⟩ := bt 49 57 8 (u := (0, 0)) rfl
    repeat (refine And.intro (by first | assumption | rfl | exact Nat.le_of_ble_eq_true rfl | exact Nat.zero_le _ | decide) ?_)
    refine d_btw5 hst (fun h => ?_) (fun h => ?_)
    · refine And.intro (fun z => absurd z (by decide)) (fun _ => ?_)
      repeat (refine And.intro (by first | assumption | rfl | exact Nat.le_of_ble_eq_true rfl | exact Nat.zero_le _ | decide) ?_)
      exact b1 h
    · refine And.intro (fun _ => ?_) (fun z => absurd rfl z)
      repeat (refine And.intro (by first | assumption | rfl | exact Nat.le_of_ble_eq_true rfl | exact Nat.zero_le _ | decide) ?_)
      exact b0 h
  · refine ⟨⟨fun z => ?_, fun z => ?_, fun z => ?_, fun z => ?_, fun z => ?_, fun z => ?_, fun z => ?_, fun z => ?_, trivial⟩, fun z => ?_⟩
    all_goals first | exact absurd z (by decide) | exact absurd (show (nI 8).toInt < 0 ∨ (8 : Int) ≤ (nI 8).toInt from z) (by decide) | skip
    have e : nx 8 c = if c = 59 then some 0 else none := rfl
    rw [e] at q
    refine And.intro (fun hc => ?_) (fun hc => ?_)
    · rw [if_neg hc] at q
      repeat (refine And.intro (by first | assumption | rfl | exact Nat.le_of_ble_eq_true rfl | exact Nat.zero_le _ | decide) ?_)
      exact q
    · rw [if_pos hc] at q
      repeat (refine And.intro (by first | assumption | rfl | exact Nat.le_of_ble_eq_true rfl | exact Nat.zero_le _ | decide) ?_)
      exact q
theorem nx_le {s s' : Nat} {c : Int32} (h : nx s c = some s') : s' ≤ 8 := by
  unfold nx at h
  repeat (first | (split at h) | (cases h; decide) | cases h)
/-- the parser's notes at x -/
def NtR (H : Hp) (x : Nat) (E : Note) : Prop := hs H (x + 242) = (6, 6) ∧ (hR H (x + 242) 2 = x + 244 ∧ hs H (x + 244) = (20, 20)) ∧ (hR H (x + 242) 3 = x + 245 ∧ hs H (x + 245) = (20, 20)) ∧ (hR H (x + 242) 4 = x + 246 ∧ hs H (x + 246) = (20, 20)) ∧ 0 < x ∧ E.n ≤ 20 ∧ hI H (x + 242) 5 = nI E.n ∧ (∀ i, hI H (x + 244) i = E.k i) ∧ (∀ i, hI H (x + 245) i = E.a i) ∧ (∀ i, hI H (x + 246) i = E.b i)
/-- what the parser leaves -/
def Fp (x : Nat) (H H' : Hp) : Prop := hs H' = hs H ∧ H'.2.2.2.2 = H.2.2.2.2 ∧ hn H' = hn H ∧ hR H' = hR H ∧ ∀ a k, (a = x + 242 → k ≠ 5) → (a < x + 244 ∨ x + 246 < a) → hI H' a k = hI H a k
theorem Fp.rf (x : Nat) (H : Hp) : Fp x H H := ⟨rfl, rfl, rfl, rfl, fun _ _ _ _ => rfl⟩
theorem Fp.trans {x : Nat} {a b c : Hp} (h1 : Fp x a b) (h2 : Fp x b c) : Fp x a c := ⟨h2.1.trans h1.1, h2.2.1.trans h1.2.1, h2.2.2.1.trans h1.2.2.1, h2.2.2.2.1.trans h1.2.2.2.1, fun z k hk hz => (h2.2.2.2.2 z k hk hz).trans (h1.2.2.2.2 z k hk hz)⟩
theorem Fp.n5 {x : Nat} {H : Hp} {v : Int32} : Fp x H (wI H (x + 242) 5 v) := ⟨rfl, rfl, rfl, rfl, fun a k hk _ => by
  by_cases z : a = x + 242
  · subst z; exact hI_wI_k (hk rfl)
  · exact congrFun (hI_wI_o z) k⟩
theorem Fp.ar {x a k : Nat} {H : Hp} {v : Int32} (h1 : x + 244 ≤ a) (h2 : a ≤ x + 246) : Fp x H (wI H a k v) := ⟨rfl, rfl, rfl, rfl, fun b j _ hz => congrFun (hI_wI_o (by omega)) j⟩
theorem CR.fp {H : Hp} {x : Nat} {N F : Nat → Int32} {hi : Nat → Nat → Int32} {sv : Nat → Int32} {sm : Nat → Nat → Int32} {hd tx : Nat → Int32} {B : Int} (C : CR H x N F hi sv sm hd tx B) {H' : Hp} (f : Fp x H H') : CR H' x N F hi sv sm hd tx B := by
  obtain ⟨S, ⟨K0, T⟩, V, ⟨o, r, o8, r8, a1, a2, a3, a4, a5⟩, I, ⟨n, n1, n2, n3, n4⟩, M⟩ := C
  obtain ⟨e1, e2, e4, e3, e5⟩ := f
  have hh : ∀ a, (a < x + 242 ∨ a = x + 243 ∨ x + 246 < a) → hI H' a = hI H a := fun a ha => funext fun k => e5 a k (by omega) (by omega)
  have smm : ∀ a n, (a + n ≤ x + 242 ∨ x + 247 ≤ a) → Sm H H' a n := fun a n ha b h1 h2 => ⟨by rw [e1], by rw [e3], hh b (by omega)⟩
  have ex := hh x (by omega)
  exact ⟨S.same (fun b hb => ⟨by rw [e1], by rw [e3]⟩), ⟨K0.same (smm _ _ (by omega)), T.same (smm _ _ (by omega))⟩, V.same ex (smm _ _ (by omega)), ⟨o, r, o8, r8, by rw [ex]; exact a1, by rw [ex]; exact a2, a3, fun k hk => (a4 k hk).same (smm _ _ (by omega)), fun k hk => (a5 k hk).same (smm _ _ (by omega))⟩, I.same ex, ⟨n, n1, n2, by rw [e5 _ _ (by omega) (by omega)]; exact n3, fun k hk => by rw [hh _ (by omega)]; exact n4 k hk⟩, M.same (fun i hi => hh _ (by omega))⟩
theorem Fp.xf {x : Nat} {H H' : Hp} (f : Fp x H H') : XF x H H' := ⟨f.1, f.2.1, fun a ha => ⟨funext fun k => f.2.2.2.2 a k (by omega) (by omega), by rw [f.2.2.2.1]⟩⟩
theorem d_note {l : Launch} (hst : l.stackTraces = false) {Q : Option Value → Hp → Prop} {X : String → Hp → Prop} {H : Hp} {x s : Nat} {c : Int32} {E : Note} (R : NtR H x E) (hs8 : s ≤ 8) (q : ∀ H', NtR H' x (nt s c E) → Fp x H H' → Q none H') : CX5_note l [.ref (x + 242), .int (nI s), .int c] H Q X := by
  obtain ⟨r0, ⟨r1, r2⟩, ⟨r3, r4⟩, ⟨r5, r6⟩, x0, e0, e1, ek, ea, eb⟩ := id R
  have tail : (¬ (s = 0 ∧ E.n < 20)) → ∀ K : Nat → FT, fX5_note_44 l Q X K [(0, .ref (x + 242)), (1, .int (nI s)), (2, .int c)] [] H (0, 0) := by
    intro hn K
    refine gI_of r0 e1 ?_
    refine And.intro (fun hz => ?_) (fun hz => ?_)
    · have e9 : E.n = 0 := by
        by_cases y : E.n = 0
        · exact y
        · obtain ⟨m, hm⟩ : ∃ m, E.n = m + 1 := ⟨E.n - 1, by omega⟩
          have hz' : nI E.n - 1 < 0 := hz
          rw [hm, nI_pred] at hz'
          exact absurd hz' (nI_pos (by omega))
      have : nt s c E = E := by
        unfold nt
        rw [if_neg hn, if_pos (Or.inl e9)]
      rw [this] at q
      repeat (refine And.intro (by first | assumption | rfl | exact Nat.le_of_ble_eq_true rfl | exact Nat.zero_le _ | decide) ?_)
      exact q H R (Fp.rf x H)
    · obtain ⟨m, hm⟩ : ∃ m, E.n = m + 1 := ⟨E.n - 1, by
        have : E.n ≠ 0 := fun y => hz (by show nI E.n - 1 < 0; rw [y]; decide)
        omega⟩
      repeat (refine And.intro (by first | assumption | rfl | exact Nat.le_of_ble_eq_true rfl | exact Nat.zero_le _ | decide) ?_)
      refine d_btw5 hst (fun h => ?_) (fun h => ?_)
      · refine And.intro (fun _ => ?_) (fun z => absurd z (by decide))
        have en : nI E.n - 1 = nI m := by rw [hm]; exact nI_pred m
        have eN : nt s c E = if s = 1 ∨ s = 6 ∨ s = 7 then ⟨E.n, E.k, upd E.a (E.n - 1) (c - 48), E.b⟩ else ⟨E.n, E.k, E.a, upd E.b (E.n - 1) (10 * E.b (E.n - 1) + (c - 48))⟩ := by
          unfold nt
          rw [if_neg hn, if_neg (fun z => z.elim (fun z => by omega) (fun z => z h))]
        have num : (s = 1 ∨ s = 6 ∨ s = 7) → ∀ u : Nat × Nat, u.1 ≤ rmX5_note.cells → u.2 ≤ rmX5_note.slots → fX5_note_90 l Q X K [(4, .int (c - 48)), (3, .int (nI E.n - 1)), (0, .ref (x + 242)), (1, .int (nI s)), (2, .int c)] [] H u := by
          intro hs u u1 u2
          rw [if_pos hs] at eN
          refine gR_of r0 r3 (by omega) ?_
          refine is_of r4 en (show m < 20 by omega) (by decide) ?_
          refine ⟨u1, u2, ?_⟩
          refine q _ ?_ (Fp.ar (by omega) (by omega))
          rw [eN]
          refine ⟨r0, ⟨r1, r2⟩, ⟨r3, r4⟩, ⟨r5, r6⟩, x0, e0, by rw [hI_wI_o (by omega)]; exact e1, fun i => by rw [hI_wI_o (by omega)]; exact ek i, fun i => ?_, fun i => by rw [hI_wI_o (by omega)]; exact eb i⟩
          show hI (wI H (x + 245) m (c - 48)) (x + 245) i = upd E.a (E.n - 1) (c - 48) i
          rw [show E.n - 1 = m by omega]
          by_cases z : i = m
          · subst z; rw [hI_wI_s, pk_us]
          · rw [hI_wI_k z, pk_un z]; exact ea i
        have s1 : ∀ k : Nat, k ≤ 8 → (nI s = nI k ↔ s = k) := fun k hk => nI_eq (by omega) (by omega)
        refine And.intro (fun hs1 => num (Or.inl ((s1 1 (by decide)).mp hs1)) _ (Nat.le_of_ble_eq_true rfl) (Nat.le_of_ble_eq_true rfl)) (fun hs1 => ?_)
        refine And.intro (fun hs6 => num (Or.inr (Or.inl ((s1 6 (by decide)).mp hs6))) _ (Nat.le_of_ble_eq_true rfl) (Nat.le_of_ble_eq_true rfl)) (fun hs6 => ?_)
        refine And.intro (fun hs7 => ?_) (fun hs7 => num (Or.inr (Or.inr ((s1 7 (by decide)).mp hs7))) _ (Nat.le_of_ble_eq_true rfl) (Nat.le_of_ble_eq_true rfl))
        have hs : ¬ (s = 1 ∨ s = 6 ∨ s = 7) := fun z => by
          rcases z with z | z | z
          · exact hs1 ((s1 1 (by decide)).mpr z)
          · exact hs6 ((s1 6 (by decide)).mpr z)
          · exact hs7 ((s1 7 (by decide)).mpr z)
        rw [if_neg hs] at eN
        refine gR_of r0 r5 (by omega) ?_
        refine gR_of r0 r5 (by omega) ?_
        refine ia_of r6 en (show m < 20 by omega) (by decide) (eb m) ?_
        refine is_of r6 en (show m < 20 by omega) (by decide) ?_
        repeat (refine And.intro (by first | assumption | rfl | exact Nat.le_of_ble_eq_true rfl | exact Nat.zero_le _ | decide) ?_)
        refine q _ ?_ (Fp.ar (by omega) (by omega))
        rw [eN]
        refine ⟨r0, ⟨r1, r2⟩, ⟨r3, r4⟩, ⟨r5, r6⟩, x0, e0, by rw [hI_wI_o (by omega)]; exact e1, fun i => by rw [hI_wI_o (by omega)]; exact ek i, fun i => by rw [hI_wI_o (by omega)]; exact ea i, fun i => ?_⟩
        rw [show E.n - 1 = m by omega]
        show hI (wI H (x + 246) m (10 * E.b m + (c - 48))) (x + 246) i = upd E.b m (10 * E.b m + (c - 48)) i
        by_cases z : i = m
        · subst z; rw [hI_wI_s, pk_us]
        · rw [hI_wI_k z, pk_un z]; exact eb i
      · refine And.intro (fun z => absurd rfl z) (fun _ => ?_)
        have : nt s c E = E := by
          unfold nt
          rw [if_neg hn, if_pos (Or.inr h)]
        rw [this] at q
        repeat (refine And.intro (by first | assumption | rfl | exact Nat.le_of_ble_eq_true rfl | exact Nat.zero_le _ | decide) ?_)
        exact q H R (Fp.rf x H)
  refine eX5_note hst (Nat.le_of_ble_eq_true rfl) (fun K => ?_)
  refine And.intro (fun hs => ?_) (fun hs => ?_)
  · exact tail (fun z => hs (by rw [z.1]; rfl)) K
  · have s0 : s = 0 := (nI_eq (by omega) (by decide)).mp (show nI s = nI 0 from hs)
    refine gI_of r0 e1 ?_
    refine And.intro (fun hc => ?_) (fun hc => ?_)
    · refine tail (fun z => ?_) K
      exact absurd (show nI 20 ≤ nI E.n from hc) (nI_ge z.2 (by decide))
    · have hl : E.n < 20 := by
        have : ¬ 20 ≤ E.n := fun z => hc (show nI 20 ≤ nI E.n from nI_le z (by omega))
        omega
      refine gR_of r0 r1 (by omega) ?_
      refine gI_of r0 e1 ?_
      refine is_of r2 rfl hl (by decide) ?_
      refine gR_of r0 r5 (by omega) ?_
      refine gI_of (x := nI E.n) r0 (by rw [hI_wI_o (by omega)]; exact e1) ?_
      refine is_of r6 rfl hl (by decide) ?_
      refine gI_of (x := nI E.n) r0 (by rw [hI_wI_o (by omega), hI_wI_o (by omega)]; exact e1) ?_
      refine pI_of r0 ?_
      repeat (refine And.intro (by first | assumption | rfl | exact Nat.le_of_ble_eq_true rfl | exact Nat.zero_le _ | decide) ?_)
      refine q _ ?_ ((Fp.ar (by omega) (by omega)).trans ((Fp.ar (by omega) (by omega)).trans Fp.n5))
      rw [s0, nt0 hl]
      refine ⟨r0, ⟨r1, r2⟩, ⟨r3, r4⟩, ⟨r5, r6⟩, x0, hl, by rw [hI_wI_s]; exact nI_1 _, fun i => ?_, fun i => ?_, fun i => ?_⟩
      · rw [hI_wI_o (by omega), hI_wI_o (by omega)]
        show hI (wI H (x + 244) E.n c) (x + 244) i = upd E.k E.n c i
        by_cases z : i = E.n
        · subst z; rw [hI_wI_s, pk_us]
        · rw [hI_wI_k z, pk_un z]; exact ek i
      · rw [hI_wI_o (by omega), hI_wI_o (by omega), hI_wI_o (by omega)]
        exact ea i
      · rw [hI_wI_o (by omega)]
        show hI (wI (wI H (x + 244) E.n c) (x + 246) E.n 0) (x + 246) i = upd E.b E.n 0 i
        by_cases z : i = E.n
        · subst z; rw [hI_wI_s, pk_us]
        · rw [hI_wI_k z, pk_un z, hI_wI_o (by omega)]; exact eb i
end H4

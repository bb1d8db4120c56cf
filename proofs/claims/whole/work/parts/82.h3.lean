section H3
/-- the digit of a character -/
def dg (c : Int32) : Nat := (c.toInt - 48).toNat
abbrev isC (lo hi : Int32) (c : Int32) : Prop := lo ≤ c ∧ c ≤ hi
theorem dg_sub {c : Int32} (h : isC 48 57 c) : c - 48 = nI (dg c) ∧ dg c ≤ 9 := by
  obtain ⟨n, n1, n2⟩ := nI_of2 (n := 57) rfl (fun z => absurd (Int32.le_trans h.1 (Int32.le_of_lt z)) (by decide)) h.2
  subst n2
  have t : (nI n).toInt = n := nI_toInt (by omega)
  have l : 48 ≤ n := by
    have := Int32.le_iff_toInt_le.mp h.1
    rw [t] at this
    have e : (48 : Int32).toInt = 48 := by decide
    omega
  have hd : dg (nI n) = n - 48 := by unfold dg; rw [t]; omega
  refine ⟨?_, by rw [hd]; omega⟩
  rw [hd]
  have e := nI_add (n - 48) 48
  rw [show n - 48 + 48 = n by omega] at e
  rw [← e]
  show nI (n - 48) + nI 48 - nI 48 = _
  rw [Int32.add_sub_cancel]
theorem dg_le {lo hi c : Int32} (h : isC lo hi c) (h1 : 48 ≤ lo) (h2 : hi ≤ 57) : c - 48 = nI (dg c) ∧ dg c ≤ 9 := dg_sub ⟨Int32.le_trans h1 h.1, Int32.le_trans h.2 h2⟩
theorem dg_le7 {c : Int32} (h : isC 48 55 c) : dg c ≤ 7 := by
  have t := Int32.le_iff_toInt_le.mp h.2
  have e : (55 : Int32).toInt = 55 := by decide
  unfold dg; omega
theorem dg_pos {c : Int32} (h : isC 49 57 c) : 1 ≤ dg c := by
  have t := Int32.le_iff_toInt_le.mp h.1
  have e : (49 : Int32).toInt = 49 := by decide
  unfold dg; omega
/-- what an entry says: the letter, the number, the quantity -/
abbrev Ent : Type := Int32 × Nat × Nat
abbrev Ent.k (e : Ent) : Int32 := e.1
abbrev Ent.a (e : Ent) : Nat := e.2.1
abbrev Ent.b (e : Ent) : Nat := e.2.2
/-- what stands at p, or 0 behind the text -/
def tat (tx : Nat → Int32) (n p : Nat) : Int32 := if p < n then tx p else 0
/-- one entry at p: the entry and what is behind it, or where the text is wrong -/
def pend (tx : Nat → Int32) (n p : Nat) (e : Ent) : Sum (Ent × Nat) Nat := if tat tx n p = 59 then .inl (e, p + 1) else .inr p
def pqty (tx : Nat → Int32) (n p : Nat) (k : Int32) (a : Nat) : Sum (Ent × Nat) Nat :=
  if isC 49 57 (tat tx n p) then
    (if isC 48 57 (tat tx n (p + 1)) then
      (if isC 48 57 (tat tx n (p + 2)) then pend tx n (p + 3) ⟨k, a, 10 * (10 * dg (tat tx n p) + dg (tat tx n (p + 1))) + dg (tat tx n (p + 2))⟩
      else pend tx n (p + 2) ⟨k, a, 10 * dg (tat tx n p) + dg (tat tx n (p + 1))⟩)
    else pend tx n (p + 1) ⟨k, a, dg (tat tx n p)⟩)
  else .inr p
abbrev isL (c : Int32) : Prop := c = 114 ∨ c = 103 ∨ c = 98 ∨ c = 115
def pe (tx : Nat → Int32) (n p : Nat) : Sum (Ent × Nat) Nat :=
  if tat tx n p = 107 then (if isC 48 51 (tat tx n (p + 1)) then pend tx n (p + 2) ⟨107, dg (tat tx n (p + 1)), 0⟩ else .inr (p + 1))
  else if tat tx n p = 100 then (if isC 49 57 (tat tx n (p + 1)) then pend tx n (p + 2) ⟨100, dg (tat tx n (p + 1)), 0⟩ else .inr (p + 1))
  else if isL (tat tx n p) then
    (if isC 48 55 (tat tx n (p + 1)) then (if tat tx n (p + 2) = 42 then pqty tx n (p + 3) (tat tx n p) (dg (tat tx n (p + 1))) else .inr (p + 2)) else .inr (p + 1))
  else .inr p
/-- the automaton -/
def nx (s : Nat) (c : Int32) : Option Nat :=
  if s = 0 then (if c = 114 ∨ c = 103 ∨ c = 98 ∨ c = 115 then some 1 else if c = 107 then some 6 else if c = 100 then some 7 else none)
  else if s = 1 then (if isC 48 55 c then some 2 else none)
  else if s = 2 then (if c = 42 then some 3 else none)
  else if s = 3 then (if isC 49 57 c then some 4 else none)
  else if s = 4 then (if c = 59 then some 0 else if isC 48 57 c then some 5 else none)
  else if s = 5 then (if c = 59 then some 0 else if isC 48 57 c then some 8 else none)
  else if s = 6 then (if isC 48 51 c then some 8 else none)
  else if s = 7 then (if isC 49 57 c then some 8 else none)
  else (if c = 59 then some 0 else none)
/-- what it noted: how many entries; their letters, numbers, quantities -/
abbrev Note : Type := Nat × (Nat → Int32) × (Nat → Int32) × (Nat → Int32)
abbrev Note.n (E : Note) : Nat := E.1
abbrev Note.k (E : Note) : Nat → Int32 := E.2.1
abbrev Note.a (E : Note) : Nat → Int32 := E.2.2.1
abbrev Note.b (E : Note) : Nat → Int32 := E.2.2.2
def nt (s : Nat) (c : Int32) (E : Note) : Note :=
  if s = 0 ∧ E.n < 20 then ⟨E.n + 1, upd E.k E.n c, E.a, upd E.b E.n 0⟩
  else if E.n = 0 ∨ ¬ isC 48 57 c then E
  else if s = 1 ∨ s = 6 ∨ s = 7 then ⟨E.n, E.k, upd E.a (E.n - 1) (c - 48), E.b⟩
  else ⟨E.n, E.k, E.a, upd E.b (E.n - 1) (10 * E.b (E.n - 1) + (c - 48))⟩
def au (tx : Nat → Int32) (n : Nat) : Nat → Nat → Nat → Note → Option Nat × Note
  | 0, s, _, E => (if 0 < n ∧ s = 0 then none else some n, E)
  | f + 1, s, p, E => match nx s (tx p) with
    | none => (some p, E)
    | some s' => au tx n f s' (p + 1) (nt s (tx p) E)
theorem au_some {tx : Nat → Int32} {n p s s' : Nat} {E : Note} (hp : p < n) (h : nx s (tat tx n p) = some s') : au tx n (n - p) s p E = au tx n (n - (p + 1)) s' (p + 1) (nt s (tat tx n p) E) := by
  have e : tat tx n p = tx p := if_pos hp
  rw [e] at h ⊢
  rw [show n - p = n - (p + 1) + 1 by omega]
  show (match nx s (tx p) with | none => _ | some s' => _) = _
  rw [h]
theorem au_none {tx : Nat → Int32} {n p s : Nat} {E : Note} (hp : p ≤ n) (hs : s ≠ 0) (h : nx s (tat tx n p) = none) : (au tx n (n - p) s p E).1 = some p := by
  by_cases z : p < n
  · have e : tat tx n p = tx p := if_pos z
    rw [e] at h
    rw [show n - p = n - (p + 1) + 1 by omega]
    show (match nx s (tx p) with | none => (some p, E) | some s' => _).1 = _
    rw [h]
  · have : p = n := by omega
    subst this
    rw [Nat.sub_self]
    show (if 0 < p ∧ s = 0 then none else some p) = _
    rw [if_neg (fun z => hs z.2)]
theorem au_none0 {tx : Nat → Int32} {n p : Nat} {E : Note} (hp : p < n) (h : nx 0 (tat tx n p) = none) : (au tx n (n - p) 0 p E).1 = some p := by
  have e : tat tx n p = tx p := if_pos hp
  rw [e] at h
  rw [show n - p = n - (p + 1) + 1 by omega]
  show (match nx 0 (tx p) with | none => (some p, E) | some s' => _).1 = _
  rw [h]
theorem tat_lt {tx : Nat → Int32} {n p : Nat} (h : tat tx n p ≠ 0) : p < n := by
  unfold tat at h
  split at h
  · assumption
  · exact absurd rfl h
theorem isC_ne {lo hi c : Int32} (h : isC lo hi c) (h0 : 0 < lo) : c ≠ 0 := fun z => by
  rw [z] at h
  exact absurd (Int32.lt_of_lt_of_le h0 h.1) (by decide)
/-- an entry noted -/
def Note.add (E : Note) (e : Ent) : Note := ⟨E.n + 1, upd E.k E.n e.k, upd E.a E.n (nI e.a), upd E.b E.n (nI e.b)⟩
theorem nt0 {c : Int32} {E : Note} (h : E.n < 20) : nt 0 c E = ⟨E.n + 1, upd E.k E.n c, E.a, upd E.b E.n 0⟩ := if_pos ⟨rfl, h⟩
theorem ntA {s : Nat} (hs : s = 1 ∨ s = 6 ∨ s = 7) {c : Int32} {m : Nat} {k a b : Nat → Int32} (h : isC 48 57 c) : nt s c ⟨m + 1, k, a, b⟩ = ⟨m + 1, k, upd a m (c - 48), b⟩ := by
  unfold nt
  rw [if_neg (fun z => by omega), if_neg (fun z => z.elim (fun z => Nat.noConfusion z) (fun z => z h)), if_pos hs]
  rfl
theorem ntB {s : Nat} (hs : s = 3 ∨ s = 4 ∨ s = 5) {c : Int32} {m : Nat} {k a b : Nat → Int32} (h : isC 48 57 c) : nt s c ⟨m + 1, k, a, b⟩ = ⟨m + 1, k, a, upd b m (10 * b m + (c - 48))⟩ := by
  unfold nt
  rw [if_neg (fun z => by omega), if_neg (fun z => z.elim (fun z => Nat.noConfusion z) (fun z => z h)), if_neg (by omega)]
  rfl
theorem ntC {s : Nat} (hs : s ≠ 0) {c : Int32} {E : Note} (h : ¬ isC 48 57 c) : nt s c E = E := by
  unfold nt
  rw [if_neg (fun z => hs z.1), if_pos (Or.inr h)]
/-- the automaton goes as one entry says -/
def PeOk (tx : Nat → Int32) (n p : Nat) (E : Note) : Sum (Ent × Nat) Nat → Prop
  | .inl (e, p') => p + 3 ≤ p' ∧ p' ≤ n ∧ au tx n (n - p) 0 p E = au tx n (n - p') 0 p' (E.add e)
  | .inr j => (au tx n (n - p) 0 p E).1 = some j ∧ p ≤ j ∧ j ≤ n
theorem pend_ok {tx : Nat → Int32} {n p q s : Nat} {E E1 : Note} {e : Ent} (A : au tx n (n - p) 0 p E = au tx n (n - q) s q E1) (hE : E1 = E.add e) (h2 : p + 2 ≤ q) (hn : q ≤ n) (hs : s = 8 ∨ ((s = 4 ∨ s = 5) ∧ ¬ isC 48 57 (tat tx n q))) : PeOk tx n p E (pend tx n q e) := by
  unfold pend
  have h0 : s ≠ 0 := by omega
  by_cases z : tat tx n q = 59
  · rw [if_pos z]
    have hl : q < n := tat_lt (by rw [z]; decide)
    have e1 := au_some (E := E1) (s := s) (s' := 0) hl (by
      rw [z]
      rcases hs with rfl | ⟨rfl | rfl, -⟩ <;> rfl)
    rw [z, ntC h0 (by decide), hE] at e1
    exact ⟨by omega, by omega, by rw [A, hE]; exact e1⟩
  · rw [if_neg z]
    refine ⟨?_, by omega, hn⟩
    rw [A]
    refine au_none hn h0 ?_
    rcases hs with rfl | ⟨rfl | rfl, hd⟩
    · show (if tat tx n q = 59 then some 0 else none) = none
      rw [if_neg z]
    · show (if tat tx n q = 59 then some 0 else if isC 48 57 (tat tx n q) then some 5 else none) = none
      rw [if_neg z, if_neg hd]
    · show (if tat tx n q = 59 then some 0 else if isC 48 57 (tat tx n q) then some 8 else none) = none
      rw [if_neg z, if_neg hd]
theorem bad_ok {tx : Nat → Int32} {n p q s : Nat} {E E1 : Note} (A : au tx n (n - p) 0 p E = au tx n (n - q) s q E1) (h2 : p ≤ q) (hn : q ≤ n) (hs : s ≠ 0) (hx : nx s (tat tx n q) = none) : PeOk tx n p E (.inr q) := by
  refine ⟨?_, h2, hn⟩
  rw [A]
  exact au_none hn hs hx
theorem au_pe {tx : Nat → Int32} {n p : Nat} {E : Note} (hp : p < n) (hE : E.n < 20) : PeOk tx n p E (pe tx n p) := by
  obtain ⟨m, k, a, b⟩ := E
  have hm : m < 20 := hE
  unfold pe
  by_cases z1 : tat tx n p = 107
  · rw [if_pos z1]
    have A1 := au_some (E := ⟨m, k, a, b⟩) (s := 0) (s' := 6) hp (by rw [z1]; rfl)
    rw [nt0 hm, z1] at A1
    by_cases z2 : isC 48 51 (tat tx n (p + 1))
    · rw [if_pos z2]
      have l2 := tat_lt (isC_ne z2 (by decide))
      have d := dg_le z2 (by decide) (by decide)
      have A2 := au_some (E := ⟨m + 1, upd k m 107, a, upd b m 0⟩) (s := 6) (s' := 8) l2 (if_pos z2)
      rw [ntA (Or.inr (Or.inl rfl)) ⟨Int32.le_trans (by decide) z2.1, Int32.le_trans z2.2 (by decide)⟩, d.1] at A2
      exact pend_ok (A1.trans A2) rfl (by omega) (by omega) (Or.inl rfl)
    · rw [if_neg z2]
      exact bad_ok A1 (by omega) (by omega) (by decide) (if_neg z2)
  · rw [if_neg z1]
    by_cases z3 : tat tx n p = 100
    · rw [if_pos z3]
      have A1 := au_some (E := ⟨m, k, a, b⟩) (s := 0) (s' := 7) hp (by rw [z3]; rfl)
      rw [nt0 hm, z3] at A1
      by_cases z2 : isC 49 57 (tat tx n (p + 1))
      · rw [if_pos z2]
        have l2 := tat_lt (isC_ne z2 (by decide))
        have d := dg_le z2 (by decide) (by decide)
        have A2 := au_some (E := ⟨m + 1, upd k m 100, a, upd b m 0⟩) (s := 7) (s' := 8) l2 (if_pos z2)
        rw [ntA (Or.inr (Or.inr rfl)) ⟨Int32.le_trans (by decide) z2.1, Int32.le_trans z2.2 (by decide)⟩, d.1] at A2
        exact pend_ok (A1.trans A2) rfl (by omega) (by omega) (Or.inl rfl)
      · rw [if_neg z2]
        exact bad_ok A1 (by omega) (by omega) (by decide) (if_neg z2)
    · rw [if_neg z3]
      by_cases z4 : isL (tat tx n p)
      · rw [if_pos z4]
        have A1 := au_some (E := ⟨m, k, a, b⟩) (s := 0) (s' := 1) hp (if_pos z4)
        rw [nt0 hm] at A1
        by_cases z2 : isC 48 55 (tat tx n (p + 1))
        · rw [if_pos z2]
          have l2 := tat_lt (isC_ne z2 (by decide))
          have d := dg_le z2 (by decide) (by decide)
          have A2 := au_some (E := ⟨m + 1, upd k m (tat tx n p), a, upd b m 0⟩) (s := 1) (s' := 2) l2 (if_pos z2)
          rw [ntA (Or.inl rfl) ⟨Int32.le_trans (by decide) z2.1, Int32.le_trans z2.2 (by decide)⟩, d.1] at A2
          have B2 := A1.trans A2
          by_cases z5 : tat tx n (p + 2) = 42
          · rw [if_pos z5]
            have l3 : p + 2 < n := tat_lt (by rw [z5]; decide)
            have A3 := au_some (E := ⟨m + 1, upd k m (tat tx n p), upd a m (nI (dg (tat tx n (p + 1)))), upd b m 0⟩) (s := 2) (s' := 3) l3 (by rw [z5]; rfl)
            rw [ntC (by decide) (by rw [z5]; decide)] at A3
            have B3 := B2.trans A3
            unfold pqty
            by_cases z6 : isC 49 57 (tat tx n (p + 3))
            · rw [if_pos z6]
              have l4 := tat_lt (isC_ne z6 (by decide))
              have d4 := dg_le z6 (by decide) (by decide)
              have A4 := au_some (E := ⟨m + 1, upd k m (tat tx n p), upd a m (nI (dg (tat tx n (p + 1)))), upd b m 0⟩) (s := 3) (s' := 4) l4 (if_pos z6)
              rw [ntB (Or.inl rfl) ⟨Int32.le_trans (by decide) z6.1, z6.2⟩, d4.1, pk_us, upd_upd, show (10 : Int32) * 0 + nI (dg (tat tx n (p + 3))) = nI (dg (tat tx n (p + 3))) by rw [Int32.mul_zero, Int32.zero_add]] at A4
              have B4 := B3.trans A4
              by_cases z7 : isC 48 57 (tat tx n (p + 3 + 1))
              · rw [if_pos z7]
                have l5 := tat_lt (isC_ne z7 (by decide))
                have d5 := dg_le z7 (by decide) (by decide)
                have n5 : ¬ tat tx n (p + 3 + 1) = 59 := fun z => by rw [z] at z7; exact absurd z7 (by decide)
                have A5 := au_some (E := ⟨m + 1, upd k m (tat tx n p), upd a m (nI (dg (tat tx n (p + 1)))), upd b m (nI (dg (tat tx n (p + 3))))⟩) (s := 4) (s' := 5) l5 (by
                  show (if tat tx n (p + 3 + 1) = 59 then some 0 else if isC 48 57 (tat tx n (p + 3 + 1)) then some 5 else none) = some 5
                  rw [if_neg n5, if_pos z7])
                rw [ntB (Or.inr (Or.inl rfl)) z7, d5.1, pk_us, upd_upd, show (10 : Int32) = nI 10 from rfl, pk_mul, nI_add] at A5
                have B5 := B4.trans A5
                by_cases z8 : isC 48 57 (tat tx n (p + 3 + 2))
                · rw [if_pos z8]
                  have l6 : p + 3 + 2 < n := tat_lt (isC_ne z8 (by decide))
                  have d6 := dg_le z8 (by decide) (by decide)
                  have n6 : ¬ tat tx n (p + 3 + 2) = 59 := fun z => by rw [z] at z8; exact absurd z8 (by decide)
                  have A6 := au_some (E := ⟨m + 1, upd k m (tat tx n p), upd a m (nI (dg (tat tx n (p + 1)))), upd b m (nI (10 * dg (tat tx n (p + 3)) + dg (tat tx n (p + 3 + 1))))⟩) (s := 5) (s' := 8) l6 (by
                    show (if tat tx n (p + 3 + 2) = 59 then some 0 else if isC 48 57 (tat tx n (p + 3 + 2)) then some 8 else none) = some 8
                    rw [if_neg n6, if_pos z8])
                  rw [ntB (Or.inr (Or.inr rfl)) z8, d6.1, pk_us, upd_upd, show (10 : Int32) = nI 10 from rfl, pk_mul, nI_add] at A6
                  exact pend_ok (B5.trans A6) rfl (by omega) (by omega) (Or.inl rfl)
                · rw [if_neg z8]
                  exact pend_ok B5 rfl (by omega) (by omega) (Or.inr ⟨Or.inr rfl, z8⟩)
              · rw [if_neg z7]
                exact pend_ok B4 rfl (by omega) (by omega) (Or.inr ⟨Or.inl rfl, z7⟩)
            · rw [if_neg z6]
              exact bad_ok B3 (by omega) (by omega) (by decide) (if_neg z6)
          · rw [if_neg z5]
            exact bad_ok B2 (by omega) (by omega) (by decide) (if_neg z5)
        · rw [if_neg z2]
          exact bad_ok A1 (by omega) (by omega) (by decide) (if_neg z2)
      · rw [if_neg z4]
        refine ⟨au_none0 hp ?_, Nat.le_refl _, by omega⟩
        show (if isL (tat tx n p) then some 1 else if tat tx n p = 107 then some 6 else if tat tx n p = 100 then some 7 else none) = none
        rw [if_neg z4, if_neg z1, if_neg z3]
/-- all entries from p on, or where the text is wrong -/
def pg (tx : Nat → Int32) (n : Nat) : Nat → Nat → Sum (List Ent) Nat
  | 0, p => .inr p
  | f + 1, p => match pe tx n p with
    | .inr j => .inr j
    | .inl (e, p') => if p' < n then (match pg tx n f p' with | .inl es => .inl (e :: es) | .inr j => .inr j) else .inl [e]
def Note.adds (E : Note) : List Ent → Note
  | [] => E
  | e :: es => Note.adds (E.add e) es
def PgOk (tx : Nat → Int32) (n p : Nat) (E : Note) : Sum (List Ent) Nat → Prop
  | .inl es => au tx n (n - p) 0 p E = (none, E.adds es) ∧ E.n + es.length ≤ 20 ∧ 0 < es.length
  | .inr j => (au tx n (n - p) 0 p E).1 = some j ∧ j ≤ n
theorem au_pg {tx : Nat → Int32} {n : Nat} (hn : n ≤ 60) : ∀ (f p : Nat) (E : Note), p < n → 3 * E.n ≤ p → n - p < f → PgOk tx n p E (pg tx n f p)
  | 0, p, E, hp, h3, hf => absurd hf (Nat.not_lt_zero _)
  | f + 1, p, E, hp, h3, hf => by
    have h := au_pe (tx := tx) (E := E) hp (by omega)
    have eq : pg tx n (f + 1) p = match pe tx n p with | .inr j => .inr j | .inl (e, p') => if p' < n then (match pg tx n f p' with | .inl es => .inl (e :: es) | .inr j => .inr j) else .inl [e] := rfl
    rw [eq]
    cases hpe : pe tx n p with
    | inr j =>
      rw [hpe] at h
      exact ⟨h.1, h.2.2⟩
    | inl r =>
      obtain ⟨e, p'⟩ := r
      rw [hpe] at h
      obtain ⟨h1, h2, h4⟩ := h
      dsimp only
      by_cases z : p' < n
      · rw [if_pos z]
        have ih := au_pg (tx := tx) hn f p' (E.add e) z (by show 3 * (E.n + 1) ≤ p'; omega) (by omega)
        cases hr : pg tx n f p' with
        | inr j =>
          rw [hr] at ih
          exact ⟨by rw [h4]; exact ih.1, ih.2⟩
        | inl es =>
          rw [hr] at ih
          have l : E.n + 1 + es.length ≤ 20 := ih.2.1
          exact ⟨by rw [h4]; exact ih.1, by rw [List.length_cons]; omega, by rw [List.length_cons]; omega⟩
      · rw [if_neg z]
        have : p' = n := by omega
        subst this
        refine ⟨?_, by show E.n + 1 ≤ 20; omega, Nat.one_pos⟩
        rw [h4, Nat.sub_self]
        show ((if 0 < p' ∧ 0 = 0 then none else some p'), E.add e) = _
        rw [if_pos ⟨by omega, rfl⟩]
        rfl
end H3

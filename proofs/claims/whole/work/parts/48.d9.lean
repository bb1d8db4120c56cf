section D9
theorem vld.add3 {N N' : Nat → Int32} {c0 c1 c2 c3 c4 j : Nat} (k0 : c0 ≤ 8) (k1 : c1 ≤ 4) (k2 : c2 ≤ 12) (k3 : c3 < 12) (e : ∀ i, 7 ≤ i → i < 227 → N' i = N i) (hv : vld N' c0 c1 c2 (c3 + 1) c4 j) : vld N c0 c1 c2 c3 c4 j ∨ j = 287 + c3 * 3 + 0 ∨ j = 287 + c3 * 3 + 1 ∨ j = 287 + c3 * 3 + 2 := by
  by_cases h1 : j < 227
  · exact Or.inl (hv.lo h1 k0 k1 e)
  · have hw : j < 287 → _ := fun h => hv.w k0 k1 (by omega) h
    have hr : 287 ≤ j → j < 323 → _ := fun h h' => hv.r k0 k1 k2 h h'
    have ho : 323 ≤ j → _ := fun h => hv.o k0 k1 k2 (by omega) h
    unfold vld
    omega
theorem vld.add4 {N N' : Nat → Int32} {c0 c1 c2 c3 c4 j : Nat} (k0 : c0 ≤ 8) (k1 : c1 ≤ 4) (k2 : c2 ≤ 12) (k3 : c3 ≤ 12) (e : ∀ i, 7 ≤ i → i < 227 → N' i = N i) (hv : vld N' c0 c1 c2 c3 (c4 + 1) j) : vld N c0 c1 c2 c3 c4 j ∨ j = 323 + c4 * 3 + 0 ∨ j = 323 + c4 * 3 + 1 ∨ j = 323 + c4 * 3 + 2 := by
  by_cases h1 : j < 227
  · exact Or.inl (hv.lo h1 k0 k1 e)
  · have hw : j < 287 → _ := fun h => hv.w k0 k1 (by omega) h
    have hr : 287 ≤ j → j < 323 → _ := fun h h' => hv.r k0 k1 k2 h h'
    have ho : 323 ≤ j → _ := fun h => hv.o k0 k1 k2 (by omega) h
    unfold vld
    omega
theorem vld.add2 {N N' : Nat → Int32} {c0 c1 c2 c3 c4 j : Nat} (k0 : c0 ≤ 8) (k1 : c1 ≤ 4) (k2 : c2 < 12) (k3 : c3 ≤ 12) (e : ∀ i, 7 ≤ i → i < 227 → N' i = N i) (hv : vld N' c0 c1 (c2 + 1) c3 c4 j) : vld N c0 c1 c2 c3 c4 j ∨ j = 227 + c2 * 5 + 0 ∨ j = 227 + c2 * 5 + 1 ∨ j = 227 + c2 * 5 + 2 ∨ j = 227 + c2 * 5 + 3 ∨ j = 227 + c2 * 5 + 4 := by
  by_cases h1 : j < 227
  · exact Or.inl (hv.lo h1 k0 k1 e)
  · have hw : j < 287 → _ := fun h => hv.w k0 k1 (by omega) h
    have hr : 287 ≤ j → j < 323 → _ := fun h h' => hv.r k0 k1 (by omega) h h'
    have ho : 323 ≤ j → _ := fun h => hv.o k0 k1 (by omega) k3 h
    unfold vld
    omega
theorem d_becomeRep {l : Launch} (hst : l.stackTraces = false) {Q : Option Value → Hp → Prop} {X : String → Hp → Prop} {h0 H : Hp} {w : Nat} {σ ρ : Nat → Nat} {N : Nat → Int32} {V : Nat → Prop} (W : Wk h0 H w σ ρ N V) {i : Nat} (hi : i < 12) {a b c : Int32} (q : ∀ H', Wk h0 H' w σ ρ (upd (upd (upd N (287 + i * 3 + 0) a) (287 + i * 3 + 1) b) (287 + i * 3 + 2) c) (fun z => ((V z ∨ z = 287 + i * 3 + 0) ∨ z = 287 + i * 3 + 1) ∨ z = 287 + i * 3 + 2) → Q none H') : CX0_become l [.ref (ρ (12 + i)), .int a, .int b, .int c] H Q X := by
  refine eX0_become hst (Nat.le_of_ble_eq_true rfl) (fun K => ?_)
  refine xRep W hi (k := 0) (by decide) (fun H1 W1 => ?_)
  refine xRep W1 hi (k := 1) (by decide) (fun H2 W2 => ?_)
  refine xRep W2 hi (k := 2) (by decide) (fun H3 W3 => ?_)
  repeat (refine And.intro (by first | assumption | rfl | exact Nat.le_of_ble_eq_true rfl | exact Nat.zero_le _ | decide) ?_)
  exact q H3 W3
theorem d_addLastRep {l : Launch} (hst : l.stackTraces = false) {Q : Option Value → Hp → Prop} {X : String → Hp → Prop} {h0 H : Hp} {w : Nat} {σ ρ : Nat → Nat} {N : Nat → Int32} {c0 c1 c2 c3 c4 : Nat} (W : Wv [] h0 H w σ ρ N c0 c1 c2 c3 c4) (nr : ∀ i, i < 12 → σ (12 + i) = ρ (12 + i)) {p : Nat} (hp : p < c0) {P v e : Int32} (hP : P = nI p) (hc : c3 < 12) (q : ∀ H', Wv [] h0 H' w σ ρ (r_start N 287 3 c3 (nI p) v e) c0 c1 c2 (c3 + 1) c4 → Q none H') : CX1_addLast l [.ref (w + 4), .int P, .int v, .int e] H Q X := by
  subst hP
  have k0 := W.1.1.2
  have k1 := W.1.2.1.2
  have k2 := W.1.2.2.1.2
  have k3 := W.1.2.2.2.1.2
  have W0 : Wk h0 H w σ ρ N (vld N c0 c1 c2 c3 c4) := W.k
  refine eX1_addLast hst (Nat.le_of_ble_eq_true rfl) (fun K => ?_)
  refine iRS W ?_
  rw [W.1.2.2.2.1.1]
  refine And.intro (fun hcc => ?_) (fun hcc => ?_)
  · exact absurd (show nI 12 ≤ nI c3 from hcc) (nI_ge hc (by decide))
  · refine gBR W.k ?_
    refine iRS W ?_
    rw [W.1.2.2.2.1.1]
    refine aRep W.k rfl hc ?_
    rw [nr c3 hc]
    (repeat (refine And.intro (by first | assumption | rfl | exact Nat.le_of_ble_eq_true rfl | exact Nat.zero_le _ | decide) ?_)); refine And.intro (W0.k_rp hc) ?_; (repeat (refine And.intro (by first | assumption | rfl | exact Nat.le_of_ble_eq_true rfl | exact Nat.zero_le _ | decide) ?_))
    refine d_becomeRep hst W0 hc (fun H1 W1 => ?_)
    refine iRSk W1 (Or.inl (Or.inl (Or.inl (Or.inl (by decide))))) ?_
    refine xRS W1 (fun H2 W2 => ?_)
    repeat (refine And.intro (by first | assumption | rfl | exact Nat.le_of_ble_eq_true rfl | exact Nat.zero_le _ | decide) ?_)
    refine q H2 ⟨W.1.start3 hc hp v e, W2.to (fun j hj hv => ?_), fun q hq => absurd hq List.not_mem_nil⟩
    refine ⟨?_, rfl⟩
    rcases hv.add3 k0 k1 k2 (by omega) (fun i h1 h2 => by
      unfold r_start r_st3
      rw [pk_un (by omega), pk_un (by omega), pk_un (by omega), pk_un (by omega)]) with h | h | h | h
    · exact Or.inl (Or.inl (Or.inl (Or.inl h)))
    · exact Or.inl (Or.inl (Or.inl (Or.inr h)))
    · exact Or.inl (Or.inl (Or.inr h))
    · exact Or.inl (Or.inr h)
theorem d_becomeOrd {l : Launch} (hst : l.stackTraces = false) {Q : Option Value → Hp → Prop} {X : String → Hp → Prop} {h0 H : Hp} {w : Nat} {σ ρ : Nat → Nat} {N : Nat → Int32} {V : Nat → Prop} (W : Wk h0 H w σ ρ N V) {i : Nat} (hi : i < 12) {a b c : Int32} (q : ∀ H', Wk h0 H' w σ ρ (upd (upd (upd N (323 + i * 3 + 0) a) (323 + i * 3 + 1) b) (323 + i * 3 + 2) c) (fun z => ((V z ∨ z = 323 + i * 3 + 0) ∨ z = 323 + i * 3 + 1) ∨ z = 323 + i * 3 + 2) → Q none H') : CX0_become l [.ref (ρ (24 + i)), .int a, .int b, .int c] H Q X := by
  refine eX0_become hst (Nat.le_of_ble_eq_true rfl) (fun K => ?_)
  refine xOrd W hi (k := 0) (by decide) (fun H1 W1 => ?_)
  refine xOrd W1 hi (k := 1) (by decide) (fun H2 W2 => ?_)
  refine xOrd W2 hi (k := 2) (by decide) (fun H3 W3 => ?_)
  repeat (refine And.intro (by first | assumption | rfl | exact Nat.le_of_ble_eq_true rfl | exact Nat.zero_le _ | decide) ?_)
  exact q H3 W3
theorem d_addLastOrd {l : Launch} (hst : l.stackTraces = false) {Q : Option Value → Hp → Prop} {X : String → Hp → Prop} {h0 H : Hp} {w : Nat} {σ ρ : Nat → Nat} {N : Nat → Int32} {c0 c1 c2 c3 c4 : Nat} (W : Wv [] h0 H w σ ρ N c0 c1 c2 c3 c4) (nr : ∀ i, i < 12 → σ (24 + i) = ρ (24 + i)) {p : Nat} (hp : p < c0) {P v e : Int32} (hP : P = nI p) (hc : c4 < 12) (q : ∀ H', Wv [] h0 H' w σ ρ (r_start N 323 4 c4 (nI p) v e) c0 c1 c2 c3 (c4 + 1) → Q none H') : CX1_addLast l [.ref (w + 18), .int P, .int v, .int e] H Q X := by
  subst hP
  have k0 := W.1.1.2
  have k1 := W.1.2.1.2
  have k2 := W.1.2.2.1.2
  have k3 := W.1.2.2.2.1.2
  have W0 : Wk h0 H w σ ρ N (vld N c0 c1 c2 c3 c4) := W.k
  refine eX1_addLast hst (Nat.le_of_ble_eq_true rfl) (fun K => ?_)
  refine iOS W ?_
  rw [W.1.2.2.2.2.1.1]
  refine And.intro (fun hcc => ?_) (fun hcc => ?_)
  · exact absurd (show nI 12 ≤ nI c4 from hcc) (nI_ge hc (by decide))
  · refine gBO W.k ?_
    refine iOS W ?_
    rw [W.1.2.2.2.2.1.1]
    refine aOrd W.k rfl hc ?_
    rw [nr c4 hc]
    (repeat (refine And.intro (by first | assumption | rfl | exact Nat.le_of_ble_eq_true rfl | exact Nat.zero_le _ | decide) ?_)); refine And.intro (W0.k_od hc) ?_; (repeat (refine And.intro (by first | assumption | rfl | exact Nat.le_of_ble_eq_true rfl | exact Nat.zero_le _ | decide) ?_))
    refine d_becomeOrd hst W0 hc (fun H1 W1 => ?_)
    refine iOSk W1 (Or.inl (Or.inl (Or.inl (Or.inl (by decide))))) ?_
    refine xOS W1 (fun H2 W2 => ?_)
    repeat (refine And.intro (by first | assumption | rfl | exact Nat.le_of_ble_eq_true rfl | exact Nat.zero_le _ | decide) ?_)
    refine q H2 ⟨W.1.start4 hc hp v e, W2.to (fun j hj hv => ?_), fun q hq => absurd hq List.not_mem_nil⟩
    refine ⟨?_, rfl⟩
    rcases hv.add4 k0 k1 k2 (by omega) (fun i h1 h2 => by
      unfold r_start r_st3
      rw [pk_un (by omega), pk_un (by omega), pk_un (by omega), pk_un (by omega)]) with h | h | h | h
    · exact Or.inl (Or.inl (Or.inl (Or.inl h)))
    · exact Or.inl (Or.inl (Or.inl (Or.inr h)))
    · exact Or.inl (Or.inl (Or.inr h))
    · exact Or.inl (Or.inr h)
theorem d_makeOrders {l : Launch} (hst : l.stackTraces = false) {Q : Option Value → Hp → Prop} {X : String → Hp → Prop} {h0 H : Hp} {w : Nat} {σ ρ : Nat → Nat} {N : Nat → Int32} {c0 c1 c2 c3 c4 : Nat} (W : Wv [] h0 H w σ ρ N c0 c1 c2 c3 c4) (nn : ∀ k, k < 36 → σ k = ρ k) (q : ∀ H' c4', Wv [] h0 H' w σ ρ (r_mo c0 0 N) c0 c1 c2 c3 c4' → Q none H') : CX7_makeOrders l [.ref w] H Q X := by
  have k0 := W.1.1.2
  refine eX7_makeOrders hst (Nat.le_of_ble_eq_true rfl) (fun K hK => ?_)
  have nw : ∀ i, i < 12 → σ i = ρ i := fun i hi => nn i (by omega)
  have nr : ∀ i, i < 12 → σ (12 + i) = ρ (12 + i) := fun i hi => nn (12 + i) (by omega)
  have no : ∀ i, i < 12 → σ (24 + i) = ρ (24 + i) := fun i hi => nn (24 + i) (by omega)
  have hk : ∀ (n i : Nat) (M : Nat → Int32) (c4' : Nat) (H' : Hp), i + n = c0 → Wv [] h0 H' w σ ρ M c0 c1 c2 c3 c4' → r_mo n i M = r_mo c0 0 N → ∀ L, (L = [(1, .int (nI i)), (0, .ref w)] ∨ ∃ a, L = [(1, .int (nI i)), (2, a), (0, .ref w)]) → K 2 L [] H' (0, 0) := by
    intro n
    induction n with
    | zero =>
      intro i M c4' H' hi W' hr L hL
      rcases hL with hL | ⟨a, hL⟩ <;> subst hL
      all_goals
        refine hK _ _ _ _ ?_
        refine iPC W' ?_
        rw [W'.1.1.1]
        refine And.intro (fun hcc => ?_) (fun hcc => ?_)
        · repeat (refine And.intro (by first | assumption | rfl | exact Nat.le_of_ble_eq_true rfl | exact Nat.zero_le _ | decide) ?_)
          rw [← hr] at q
          exact q H' c4' W'
        · exact absurd (nI_le (by omega) (by omega)) hcc
    | succ n ih =>
      intro i M c4' H' hi W' hr L hL
      have hi0 : i < c0 := by omega
      have e4 := W'.1.2.2.2.2.1
      have hr1 : r_mo n (i + 1) (if 0 < s_want M i ∧ M 4 < 12 then r_start M 323 4 (M 4).toNatClampNeg (nI i) (s_want M i) (M 5 + M (7 + i * 23 + 4)) else M) = r_mo c0 0 N := hr
      rw [e4.1, nI_clamp (by omega)] at hr1
      have fin : ∀ (M' : Nat → Int32) (c : Nat) (H2 : Hp), Wv [] h0 H2 w σ ρ M' c0 c1 c2 c3 c → r_mo n (i + 1) M' = r_mo c0 0 N → ∀ a, fX7_makeOrders_53 l Q X K [(2, a), (1, .int (nI i)), (0, .ref w)] [] H2 (0, 0) := fun M' c H2 W2 h a => by
        have := ih (i + 1) M' c H2 (by omega) W2 h _ (Or.inr ⟨a, rfl⟩)
        rw [← nI_1 i] at this
        exact this
      rcases hL with hL | ⟨a, hL⟩ <;> subst hL
      all_goals
        refine hK _ _ _ _ ?_
        refine iPC W' ?_
        rw [W'.1.1.1]
        refine And.intro (fun hcc => ?_) (fun hcc => ?_)
        · exact absurd hcc (nI_ge (by omega) (by omega))
        · (repeat (refine And.intro (by first | assumption | rfl | exact Nat.le_of_ble_eq_true rfl | exact Nat.zero_le _ | decide) ?_)); refine And.intro (W'.k.s_w) ?_; (repeat (refine And.intro (by first | assumption | rfl | exact Nat.le_of_ble_eq_true rfl | exact Nat.zero_le _ | decide) ?_))
          refine d_quantityToOrder hst W' nw nr no rfl hi0 ?_
          refine And.intro (fun hz => ?_) (fun hz => ?_)
          · rw [if_neg (fun z => absurd hz (Int32.not_le.mpr z.1))] at hr1
            exact fin _ _ _ W' hr1 _
          · refine gOrds W'.k ?_
            (repeat (refine And.intro (by first | assumption | rfl | exact Nat.le_of_ble_eq_true rfl | exact Nat.zero_le _ | decide) ?_)); refine And.intro (W'.k.s_ords.2.1) ?_; (repeat (refine And.intro (by first | assumption | rfl | exact Nat.le_of_ble_eq_true rfl | exact Nat.zero_le _ | decide) ?_))
            refine d_isFullOrd hst W' ?_
            by_cases h12 : c4' < 12
            · rw [if_pos h12]
              rw [if_pos ⟨Int32.not_le.mp hz, show nI c4' < nI 12 from nI_lt h12 (by decide)⟩] at hr1
              refine And.intro (fun z => absurd rfl z) (fun _ => ?_)
              refine gOrds W'.k ?_
              refine iDay W' ?_
              refine gParts W'.k ?_
              refine aPart W'.k rfl (show i < 8 by omega) ?_
              refine iPart W' hi0 (k := 4) (by decide) ?_
              (repeat (refine And.intro (by first | assumption | rfl | exact Nat.le_of_ble_eq_true rfl | exact Nat.zero_le _ | decide) ?_)); refine And.intro (W'.k.s_ords.2.1) ?_; (repeat (refine And.intro (by first | assumption | rfl | exact Nat.le_of_ble_eq_true rfl | exact Nat.zero_le _ | decide) ?_))
              refine d_addLastOrd hst W' no hi0 rfl h12 (fun H2 W2 => ?_)
              exact fin _ _ _ W2 hr1 _
            · rw [if_neg h12]
              rw [if_neg (fun z => h12 ((nI_ltI (by omega) (by decide)).mp (show nI c4' < nI 12 from z.2)))] at hr1
              refine And.intro (fun _ => ?_) (fun z => absurd z (by decide))
              exact fin _ _ _ W' hr1 _
  exact hk c0 0 N c4 H (by omega) W rfl _ (Or.inl rfl)
theorem d_passDays {l : Launch} (hst : l.stackTraces = false) {Q : Option Value → Hp → Prop} {X : String → Hp → Prop} {h0 H : Hp} {w : Nat} {σ ρ : Nat → Nat} {N : Nat → Int32} {c0 c1 c2 c3 c4 : Nat} (W : Wv [] h0 H w σ ρ N c0 c1 c2 c3 c4) (nn : ∀ k, k < 36 → σ k = ρ k) {B : Int} (hI : NI N c0 c1 c2 c3 c4 B) {d : Nat} {P : Int32} (hP : P = nI d) (hd : d < 1000) (q : ∀ H' σ' ρ' c2' c3' c4', Wv [] h0 H' w σ' ρ' (r_days d N).1 c0 c1 c2' c3' c4' → (∀ k, k < 36 → σ' k = ρ' k) → Q (some (.int (r_days d N).2)) H') : CX7_passDays l [.ref w, .int P] H Q X := by
  subst hP
  refine eX7_passDays hst (Nat.le_of_ble_eq_true rfl) (fun K hK => ?_)
  have hk : ∀ (n i c2' c3' c4' : Nat) (H' : Hp) (σ' ρ' : Nat → Nat), i + n = d → Wv [] h0 H' w σ' ρ' (r_days i N).1 c0 c1 c2' c3' c4' → NI (r_days i N).1 c0 c1 c2' c3' c4' B → (∀ k, k < 36 → σ' k = ρ' k) → ∀ L, (L = [(3, .int (nI i)), (2, .int (r_days i N).2), (0, .ref w), (1, .int (nI d))]) → K 4 L [] H' (0, 0) := by
    intro n
    induction n with
    | zero =>
      intro i c2' c3' c4' H' σ' ρ' hi W' hI' n1 L hL
      subst hL
      refine hK _ _ _ _ ?_
      refine And.intro (fun hcc => ?_) (fun hcc => ?_)
      · repeat (refine And.intro (by first | assumption | rfl | exact Nat.le_of_ble_eq_true rfl | exact Nat.zero_le _ | decide) ?_)
        rw [show d = i by omega] at q
        exact q H' σ' ρ' c2' c3' c4' W' n1
      · exact absurd (nI_le (by omega) (by omega)) hcc
    | succ n ih =>
      intro i c2' c3' c4' H' σ' ρ' hi W' hI' n1 L hL
      subst hL
      refine hK _ _ _ _ ?_
      refine And.intro (fun hcc => ?_) (fun hcc => ?_)
      · exact absurd hcc (nI_ge (by omega) (by omega))
      · refine iDay W' ?_
        refine wDay W' (fun H1 W1 => ?_)
        have hI1 : NI (upd (r_days i N).1 5 ((r_days i N).1 5 + 1)) c0 c1 c2' c3' c4' B := hI'.agree (fun j _ hn => pk_un (by unfold nix stru at hn; omega))
        have k3 := hI1.wf.2.2.2.1
        have eday : r_day (r_days i N).1 = ((r_mo (((r_ro (((r_er ((upd (r_days i N).1 5 ((r_days i N).1 5 + 1)) 3).toNatClampNeg 0 (upd (r_days i N).1 5 ((r_days i N).1 5 + 1)) 0).1 4).toNatClampNeg) 0 (r_er ((upd (r_days i N).1 5 ((r_days i N).1 5 + 1)) 3).toNatClampNeg 0 (upd (r_days i N).1 5 ((r_days i N).1 5 + 1)) 0).1 0).1 0).toNatClampNeg) 0 (r_ro (((r_er ((upd (r_days i N).1 5 ((r_days i N).1 5 + 1)) 3).toNatClampNeg 0 (upd (r_days i N).1 5 ((r_days i N).1 5 + 1)) 0).1 4).toNatClampNeg) 0 (r_er ((upd (r_days i N).1 5 ((r_days i N).1 5 + 1)) 3).toNatClampNeg 0 (upd (r_days i N).1 5 ((r_days i N).1 5 + 1)) 0).1 0).1), (r_er ((upd (r_days i N).1 5 ((r_days i N).1 5 + 1)) 3).toNatClampNeg 0 (upd (r_days i N).1 5 ((r_days i N).1 5 + 1)) 0).2 + (r_ro (((r_er ((upd (r_days i N).1 5 ((r_days i N).1 5 + 1)) 3).toNatClampNeg 0 (upd (r_days i N).1 5 ((r_days i N).1 5 + 1)) 0).1 4).toNatClampNeg) 0 (r_er ((upd (r_days i N).1 5 ((r_days i N).1 5 + 1)) 3).toNatClampNeg 0 (upd (r_days i N).1 5 ((r_days i N).1 5 + 1)) 0).1 0).2) := rfl
        rw [k3.1, nI_clamp (by omega)] at eday
        have es : r_days (i + 1) N = ((r_day (r_days i N).1).1, (r_days i N).2 + (r_day (r_days i N).1).2) := rfl
        rw [eday] at es
        dsimp only at es
        clear eday
        generalize hM : upd (r_days i N).1 5 ((r_days i N).1 5 + 1) = M at *
        have nw1 : ∀ i, i < 12 → σ' i = ρ' i := fun i hi => n1 i (by omega)
        have nr1 : ∀ i, i < 12 → σ' (12 + i) = ρ' (12 + i) := fun i hi => n1 (12 + i) (by omega)
        (repeat (refine And.intro (by first | assumption | rfl | exact Nat.le_of_ble_eq_true rfl | exact Nat.zero_le _ | decide) ?_)); refine And.intro (W1.k.s_w) ?_; (repeat (refine And.intro (by first | assumption | rfl | exact Nat.le_of_ble_eq_true rfl | exact Nat.zero_le _ | decide) ?_))
        refine d_endRepairs hst W1 nw1 nr1 hI1 (fun H2 σ2 ρ2 c22 c32 W2 a1 a2 a3 => ?_)
        obtain ⟨b2, b3, x1, x2, hI2⟩ := NI.er c3' 0 (N := M) (s := 0) (c2 := c2') (by rw [Nat.zero_add]; exact hI1)
        have k4 := hI2.wf.2.2.2.2.1
        rw [k4.1, nI_clamp (by omega)] at es
        have y2 : b2 = c22 := (nI_eq (by have := hI2.wf.2.2.1.2; omega) (by have := W2.1.2.2.1.2; omega)).mp (hI2.wf.2.2.1.1.symm.trans W2.1.2.2.1.1)
        have y3 : b3 = c32 := (nI_eq (by have := hI2.wf.2.2.2.1.2; omega) (by have := W2.1.2.2.2.1.2; omega)).mp (hI2.wf.2.2.2.1.1.symm.trans W2.1.2.2.2.1.1)
        subst y2; subst y3
        generalize r_er c3' 0 M 0 = r1 at *
        (repeat (refine And.intro (by first | assumption | rfl | exact Nat.le_of_ble_eq_true rfl | exact Nat.zero_le _ | decide) ?_)); refine And.intro (W2.k.s_w) ?_; (repeat (refine And.intro (by first | assumption | rfl | exact Nat.le_of_ble_eq_true rfl | exact Nat.zero_le _ | decide) ?_))
        refine d_receiveOrders hst W2 a1 (fun k hk => by rw [(a3 (24 + k) (by omega)).1, (a3 (24 + k) (by omega)).2]; exact n1 _ (by omega)) hI2 (fun H3 σ3 ρ3 c23 c43 W3 e1 e2 e3 => ?_)
        obtain ⟨b2', b4', x1', x2', hI3⟩ := NI.ro c4' 0 (N := r1.1) (s := 0) (c2 := b2) (by rw [Nat.zero_add]; exact hI2)
        have k0 := hI3.wf.1
        rw [k0.1, nI_clamp (by omega)] at es
        have y2' : b2' = c23 := (nI_eq (by have := hI3.wf.2.2.1.2; omega) (by have := W3.1.2.2.1.2; omega)).mp (hI3.wf.2.2.1.1.symm.trans W3.1.2.2.1.1)
        have y4' : b4' = c43 := (nI_eq (by have := hI3.wf.2.2.2.2.1.2; omega) (by have := W3.1.2.2.2.2.1.2; omega)).mp (hI3.wf.2.2.2.2.1.1.symm.trans W3.1.2.2.2.2.1.1)
        subst y2'; subst y4'
        generalize r_ro c4' 0 r1.1 0 = r2 at *
        have nn3 : ∀ k, k < 36 → σ3 k = ρ3 k := fun k hk => by
          by_cases z1 : k < 12
          · exact e1 k z1
          · by_cases z2 : k < 24
            · rw [(e3 k (by omega) z2).1, (e3 k (by omega) z2).2]
              have := a2 (k - 12) (by omega)
              rw [show 12 + (k - 12) = k by omega] at this
              exact this
            · have := e2 (k - 24) (by omega)
              rw [show 24 + (k - 24) = k by omega] at this
              exact this
        (repeat (refine And.intro (by first | assumption | rfl | exact Nat.le_of_ble_eq_true rfl | exact Nat.zero_le _ | decide) ?_)); refine And.intro (W3.k.s_w) ?_; (repeat (refine And.intro (by first | assumption | rfl | exact Nat.le_of_ble_eq_true rfl | exact Nat.zero_le _ | decide) ?_))
        refine d_makeOrders hst W3 nn3 (fun H4 c44 W4 => ?_)
        obtain ⟨c45, hI4⟩ := NI.mo c0 0 hI3 (by omega)
        have y5 : c45 = c44 := (nI_eq (by have := hI4.wf.2.2.2.2.1.2; omega) (by have := W4.1.2.2.2.2.1.2; omega)).mp (hI4.wf.2.2.2.2.1.1.symm.trans W4.1.2.2.2.2.1.1)
        subst y5
        have := ih (i + 1) b2' b3 c45 H4 σ3 ρ3 (by omega) (by rw [es]; exact W4) (by rw [es]; exact hI4) nn3 _ rfl
        rw [es] at this
        dsimp only at this
        rw [← nI_1 i, ← Int32.add_assoc] at this
        exact this
  exact hk d 0 c2 c3 c4 H σ ρ (by omega) W hI nn _ rfl
end D9

section C5
theorem d_hasPart {l : Launch} (hst : l.stackTraces = false) {Q : Option Value → Hp → Prop} {X : String → Hp → Prop} {h0 H : Hp} {w : Nat} {σ ρ : Nat → Nat} {N : Nat → Int32} {c0 c1 c2 c3 c4 : Nat} (W : Wv [] h0 H w σ ρ N c0 c1 c2 c3 c4) {v : Int32} (q : Q (some (.int (if 0 ≤ v ∧ v < nI c0 then 1 else 0))) H) : CX7_hasPart l [.ref w, .int v] H Q X := by
  refine eX7_hasPart hst (Nat.le_of_ble_eq_true rfl) (fun K => ?_)
  refine And.intro (fun h0 => ?_) (fun h0 => ?_)
  · repeat (refine And.intro (by first | assumption | rfl | exact Nat.le_of_ble_eq_true rfl | exact Nat.zero_le _ | decide) ?_)
    rw [if_neg (fun z => absurd h0 (Int32.not_lt.mpr z.1))] at q
    exact q
  · refine iPC W ?_
    rw [W.1.1.1]
    refine And.intro (fun h1 => ?_) (fun h1 => ?_)
    · repeat (refine And.intro (by first | assumption | rfl | exact Nat.le_of_ble_eq_true rfl | exact Nat.zero_le _ | decide) ?_)
      rw [if_neg (fun z => absurd h1 (Int32.not_le.mpr z.2))] at q
      exact q
    · repeat (refine And.intro (by first | assumption | rfl | exact Nat.le_of_ble_eq_true rfl | exact Nat.zero_le _ | decide) ?_)
      rw [if_pos ⟨Int32.not_lt.mp h0, Int32.not_le.mp h1⟩] at q
      exact q
theorem d_hasKit {l : Launch} (hst : l.stackTraces = false) {Q : Option Value → Hp → Prop} {X : String → Hp → Prop} {h0 H : Hp} {w : Nat} {σ ρ : Nat → Nat} {N : Nat → Int32} {c0 c1 c2 c3 c4 : Nat} (W : Wv [] h0 H w σ ρ N c0 c1 c2 c3 c4) {v : Int32} (q : Q (some (.int (if 0 ≤ v ∧ v < nI c1 then 1 else 0))) H) : CX7_hasKit l [.ref w, .int v] H Q X := by
  refine eX7_hasKit hst (Nat.le_of_ble_eq_true rfl) (fun K => ?_)
  refine And.intro (fun h0 => ?_) (fun h0 => ?_)
  · repeat (refine And.intro (by first | assumption | rfl | exact Nat.le_of_ble_eq_true rfl | exact Nat.zero_le _ | decide) ?_)
    rw [if_neg (fun z => absurd h0 (Int32.not_lt.mpr z.1))] at q
    exact q
  · refine iKC W ?_
    rw [W.1.2.1.1]
    refine And.intro (fun h1 => ?_) (fun h1 => ?_)
    · repeat (refine And.intro (by first | assumption | rfl | exact Nat.le_of_ble_eq_true rfl | exact Nat.zero_le _ | decide) ?_)
      rw [if_neg (fun z => absurd h1 (Int32.not_le.mpr z.2))] at q
      exact q
    · repeat (refine And.intro (by first | assumption | rfl | exact Nat.le_of_ble_eq_true rfl | exact Nat.zero_le _ | decide) ?_)
      rw [if_pos ⟨Int32.not_lt.mp h0, Int32.not_le.mp h1⟩] at q
      exact q
theorem d_missingOf {l : Launch} (hst : l.stackTraces = false) {Q : Option Value → Hp → Prop} {X : String → Hp → Prop} {h0 H : Hp} {w : Nat} {σ ρ : Nat → Nat} {N : Nat → Int32} {c0 c1 c2 c3 c4 : Nat} (W : Wv [] h0 H w σ ρ N c0 c1 c2 c3 c4) (nw : ∀ i, i < 12 → σ i = ρ i) {p : Nat} {P : Int32} (hP : P = nI p) (hp : p < 8) (q : Q (some (.int (s_miss N (nI p) c2))) H) : CX7_missingOf l [.ref w, .int P] H Q X := by
  subst hP
  have k2 := W.1.2.2.1.2
  have hpos : ¬ nI p < 0 := nI_pos (by omega)
  refine eX7_missingOf hst (Nat.le_of_ble_eq_true rfl) (fun K hK => ?_)
  have hk : ∀ (n i : Nat) (v : Int32), i + n = c2 → v = s_miss N (nI p) i → K 4 [(3, .int (nI i)), (2, .int v), (0, .ref w), (1, .int (nI p))] [] H (0, 0) := by
    intro n
    induction n with
    | zero =>
      intro i v hi hv
      refine hK _ _ _ _ ?_
      refine iWC W ?_
      rw [W.1.2.2.1.1]
      refine And.intro (fun hcc => ?_) (fun hcc => ?_)
      · repeat (refine And.intro (by first | assumption | rfl | exact Nat.le_of_ble_eq_true rfl | exact Nat.zero_le _ | decide) ?_)
        rw [hv, show i = c2 by omega]
        exact q
      · exact absurd (nI_le (by omega) (by omega)) hcc
    | succ n ih =>
      intro i v hi hv
      refine hK _ _ _ _ ?_
      refine iWC W ?_
      rw [W.1.2.2.1.1]
      have fin : ∀ x : Int32, x = s_miss N (nI p) (i + 1) → fX7_missingOf_37 l Q X K [(3, .int (nI i)), (2, .int x), (0, .ref w), (1, .int (nI p))] [] H (0, 0) := by
        intro x hx
        have := ih (i + 1) x (by omega) hx
        rw [← nI_1 i] at this
        exact this
      refine And.intro (fun hcc => ?_) (fun hcc => ?_)
      · exact absurd hcc (nI_ge (by omega) (by omega))
      · refine gWaits W.k ?_
        refine aWait W.k rfl (show i < 12 by omega) ?_
        rw [nw i (by omega)]
        refine iWait W (show i < c2 by omega) (k := 1) (by decide) ?_
        refine And.intro (fun heq => ?_) (fun heq => ?_)
        · have := fin v (by
            rw [hv]
            show _ = s_miss N (nI p) i + _
            rw [if_neg (fun z => z.elim hpos heq), Int32.add_zero])
          exact this
        · refine gWaits W.k ?_
          refine aWait W.k rfl (show i < 12 by omega) ?_
          rw [nw i (by omega)]
          refine iWait W (show i < c2 by omega) (k := 3) (by decide) ?_
          have := fin (v + N (227 + i * 5 + 3)) (by
            rw [hv]
            show _ = s_miss N (nI p) i + _
            rw [if_pos (Or.inr heq)])
          exact this
  exact hk c2 0 _ (by omega) rfl
theorem d_allMissing {l : Launch} (hst : l.stackTraces = false) {Q : Option Value → Hp → Prop} {X : String → Hp → Prop} {h0 H : Hp} {w : Nat} {σ ρ : Nat → Nat} {N : Nat → Int32} {c0 c1 c2 c3 c4 : Nat} (W : Wv [] h0 H w σ ρ N c0 c1 c2 c3 c4) (nw : ∀ i, i < 12 → σ i = ρ i) (q : Q (some (.int (s_miss N (-1) c2))) H) : CX7_allMissing l [.ref w] H Q X := by
  have k2 := W.1.2.2.1.2
  refine eX7_allMissing hst (Nat.le_of_ble_eq_true rfl) (fun K hK => ?_)
  have hk : ∀ (n i : Nat) (v : Int32), i + n = c2 → v = s_miss N (-1) i → K 4 [(2, .int (nI i)), (1, .int v), (0, .ref w)] [] H (0, 0) := by
    intro n
    induction n with
    | zero =>
      intro i v hi hv
      refine hK _ _ _ _ ?_
      refine iWC W ?_
      rw [W.1.2.2.1.1]
      refine And.intro (fun hcc => ?_) (fun hcc => ?_)
      · repeat (refine And.intro (by first | assumption | rfl | exact Nat.le_of_ble_eq_true rfl | exact Nat.zero_le _ | decide) ?_)
        rw [hv, show i = c2 by omega]
        exact q
      · exact absurd (nI_le (by omega) (by omega)) hcc
    | succ n ih =>
      intro i v hi hv
      refine hK _ _ _ _ ?_
      refine iWC W ?_
      rw [W.1.2.2.1.1]
      refine And.intro (fun hcc => ?_) (fun hcc => ?_)
      · exact absurd hcc (nI_ge (by omega) (by omega))
      · refine gWaits W.k ?_
        refine aWait W.k rfl (show i < 12 by omega) ?_
        rw [nw i (by omega)]
        refine iWait W (show i < c2 by omega) (k := 3) (by decide) ?_
        have := ih (i + 1) (v + N (227 + i * 5 + 3)) (by omega) (by
          rw [hv]
          show _ = s_miss N (-1) i + _
          rw [if_pos (Or.inl (by decide))])
        rw [← nI_1 i] at this
        exact this
  exact hk c2 0 _ (by omega) rfl
theorem d_stockInReach {l : Launch} (hst : l.stackTraces = false) {Q : Option Value → Hp → Prop} {X : String → Hp → Prop} {h0 H : Hp} {w : Nat} {σ ρ : Nat → Nat} {N : Nat → Int32} {c0 c1 c2 c3 c4 : Nat} (W : Wv [] h0 H w σ ρ N c0 c1 c2 c3 c4) {p : Nat} {P : Int32} (hP : P = nI p) (hp : p < c0) (q : Q (some (.int (s_av N p (N (7 + p * 23 + 8)).toNatClampNeg))) H) : CX7_stockInReach l [.ref w, .int P] H Q X := by
  subst hP
  obtain ⟨c, c4', hc, hsub⟩ := W.1.2.2.2.2.2.1 p hp
  have p8 := W.p8 hp
  have h1 : c0 ≤ 8 := W.1.1.2
  rw [hc, nI_clamp (by omega)] at q
  refine eX7_stockInReach hst (Nat.le_of_ble_eq_true rfl) (fun K hK => ?_)
  refine gParts W.k ?_
  refine aPart W.k rfl p8 ?_
  refine iPart W hp (k := 0) (by decide) ?_
  have hk : ∀ (n i : Nat) (v : Int32), i + n = c → v = s_av N p i → K 15 [(4, .int (nI i)), (3, .int v), (2, .ref (w + 32 + 3 * p)), (0, .ref w), (1, .int (nI p))] [] H (0, 0) := by
    intro n
    induction n with
    | zero =>
      intro i v hi hv
      refine hK _ _ _ _ ?_
      refine iSC W hp ?_
      rw [hc]
      refine And.intro (fun hcc => ?_) (fun hcc => ?_)
      · repeat (refine And.intro (by first | assumption | rfl | exact Nat.le_of_ble_eq_true rfl | exact Nat.zero_le _ | decide) ?_)
        rw [hv, show i = c by omega]
        exact q
      · exact absurd (nI_le (by omega) (by omega)) hcc
    | succ n ih =>
      intro i v hi hv
      obtain ⟨s, hs8, hse⟩ := hsub i (by omega)
      refine hK _ _ _ _ ?_
      refine iSC W hp ?_
      rw [hc]
      refine And.intro (fun hcc => ?_) (fun hcc => ?_)
      · exact absurd hcc (nI_ge (by omega) (by omega))
      · refine gParts W.k ?_
        refine gSubs W.k p8 ?_
        refine iSub W hp hc c4' (show i < c by omega) rfl ?_
        rw [hse]
        refine aPart W.k rfl (show s < 8 by omega) ?_
        refine iPart W hs8 (k := 0) (by decide) ?_
        have := ih (i + 1) (v + N (7 + s * 23 + 0)) (by omega) (by rw [hv]; show _ = s_av N p i + _; rw [hse, nI_clamp (by omega)])
        rw [← nI_1 i] at this
        exact this
  exact hk c 0 _ (by omega) rfl
/-- pieces among the first k of those under way from b -/
def s_pcs (N : Nat → Int32) (b : Nat) (P : Int32) : Nat → Int32
  | 0 => 0
  | k + 1 => s_pcs N b P k + (if N (b + k * 3 + 0) = P then N (b + k * 3 + 1) else 0)
def s_exp (N : Nat → Int32) (b : Nat) (P y : Int32) : Nat → Int32
  | 0 => 0
  | k + 1 => s_exp N b P y k + (if N (b + k * 3 + 0) = P then N (b + k * 3 + 1) * y / 100 else 0)
theorem s_ord_pcs (N : Nat → Int32) (P a : Int32) : ∀ k, s_ord N P a k = a + s_pcs N 323 P k
  | 0 => (Int32.add_zero a).symm
  | k + 1 => by
    show s_ord N P a k + _ = a + (s_pcs N 323 P k + _)
    rw [s_ord_pcs N P a k, Int32.add_assoc]
theorem s_rep_exp (N : Nat → Int32) (P y a : Int32) : ∀ k, s_rep N P y a k = a + s_exp N 287 P y k
  | 0 => (Int32.add_zero a).symm
  | k + 1 => by
    show s_rep N P y a k + _ = a + (s_exp N 287 P y k + _)
    rw [s_rep_exp N P y a k, Int32.add_assoc]
theorem d_piecesOfRep {l : Launch} (hst : l.stackTraces = false) {Q : Option Value → Hp → Prop} {X : String → Hp → Prop} {h0 H : Hp} {w : Nat} {σ ρ : Nat → Nat} {N : Nat → Int32} {c0 c1 c2 c3 c4 : Nat} (W : Wv [] h0 H w σ ρ N c0 c1 c2 c3 c4) (nr : ∀ i, i < 12 → σ (12 + i) = ρ (12 + i)) {P : Int32} (q : Q (some (.int (s_pcs N 287 P c3))) H) : CX1_piecesOf l [.ref (w + 4), .int P] H Q X := by
  have k2 := W.1.2.2.2.1.2
  refine eX1_piecesOf hst (Nat.le_of_ble_eq_true rfl) (fun K hK => ?_)
  have hk : ∀ (n i : Nat) (v : Int32), i + n = c3 → v = s_pcs N 287 P i → K 4 [(3, .int (nI i)), (2, .int v), (0, .ref (w + 4)), (1, .int P)] [] H (0, 0) := by
    intro n
    induction n with
    | zero =>
      intro i v hi hv
      refine hK _ _ _ _ ?_
      refine iRS W ?_
      rw [W.1.2.2.2.1.1]
      refine And.intro (fun hcc => ?_) (fun hcc => ?_)
      · repeat (refine And.intro (by first | assumption | rfl | exact Nat.le_of_ble_eq_true rfl | exact Nat.zero_le _ | decide) ?_)
        rw [hv, show i = c3 by omega]
        exact q
      · exact absurd (nI_le (by omega) (by omega)) hcc
    | succ n ih =>
      intro i v hi hv
      refine hK _ _ _ _ ?_
      refine iRS W ?_
      rw [W.1.2.2.2.1.1]
      have fin : ∀ x : Int32, x = s_pcs N 287 P (i + 1) → fX1_piecesOf_37 l Q X K [(3, .int (nI i)), (2, .int x), (0, .ref (w + 4)), (1, .int P)] [] H (0, 0) := by
        intro x hx
        have := ih (i + 1) x (by omega) hx
        rw [← nI_1 i] at this
        exact this
      refine And.intro (fun hcc => ?_) (fun hcc => ?_)
      · exact absurd hcc (nI_ge (by omega) (by omega))
      · refine gBR W.k ?_
        refine aRep W.k rfl (show i < 12 by omega) ?_
        rw [nr i (by omega)]
        refine iRep W (show i < c3 by omega) (k := 0) (by decide) ?_
        refine And.intro (fun heq => ?_) (fun heq => ?_)
        · have := fin v (by
            rw [hv]
            show _ = s_pcs N 287 P i + _
            rw [if_neg heq, Int32.add_zero])
          exact this
        · refine gBR W.k ?_
          refine aRep W.k rfl (show i < 12 by omega) ?_
          rw [nr i (by omega)]
          refine iRep W (show i < c3 by omega) (k := 1) (by decide) ?_
          have := fin (v + N (287 + i * 3 + 1)) (by
            rw [hv]
            show _ = s_pcs N 287 P i + _
            rw [if_pos heq])
          exact this
  exact hk c3 0 _ (by omega) rfl
theorem d_isFullRep {l : Launch} (hst : l.stackTraces = false) {Q : Option Value → Hp → Prop} {X : String → Hp → Prop} {h0 H : Hp} {w : Nat} {σ ρ : Nat → Nat} {N : Nat → Int32} {c0 c1 c2 c3 c4 : Nat} (W : Wv [] h0 H w σ ρ N c0 c1 c2 c3 c4) (q : Q (some (.int (if c3 < 12 then 0 else 1))) H) : CX1_isFull l [.ref (w + 4)] H Q X := by
  have k2 := W.1.2.2.2.1.2
  refine eX1_isFull hst (Nat.le_of_ble_eq_true rfl) (fun K => ?_)
  refine iRS W ?_
  rw [W.1.2.2.2.1.1]
  refine And.intro (fun hc => ?_) (fun hc => ?_)
  · repeat (refine And.intro (by first | assumption | rfl | exact Nat.le_of_ble_eq_true rfl | exact Nat.zero_le _ | decide) ?_)
    rw [if_pos ((nI_ltI (by omega) (by decide)).mp (show nI c3 < nI 12 from hc))] at q
    exact q
  · repeat (refine And.intro (by first | assumption | rfl | exact Nat.le_of_ble_eq_true rfl | exact Nat.zero_le _ | decide) ?_)
    rw [if_neg (fun z => hc (show nI c3 < nI 12 from nI_lt z (by decide)))] at q
    exact q
theorem d_piecesOfOrd {l : Launch} (hst : l.stackTraces = false) {Q : Option Value → Hp → Prop} {X : String → Hp → Prop} {h0 H : Hp} {w : Nat} {σ ρ : Nat → Nat} {N : Nat → Int32} {c0 c1 c2 c3 c4 : Nat} (W : Wv [] h0 H w σ ρ N c0 c1 c2 c3 c4) (no : ∀ i, i < 12 → σ (24 + i) = ρ (24 + i)) {P : Int32} (q : Q (some (.int (s_pcs N 323 P c4))) H) : CX1_piecesOf l [.ref (w + 18), .int P] H Q X := by
  have k2 := W.1.2.2.2.2.1.2
  refine eX1_piecesOf hst (Nat.le_of_ble_eq_true rfl) (fun K hK => ?_)
  have hk : ∀ (n i : Nat) (v : Int32), i + n = c4 → v = s_pcs N 323 P i → K 4 [(3, .int (nI i)), (2, .int v), (0, .ref (w + 18)), (1, .int P)] [] H (0, 0) := by
    intro n
    induction n with
    | zero =>
      intro i v hi hv
      refine hK _ _ _ _ ?_
      refine iOS W ?_
      rw [W.1.2.2.2.2.1.1]
      refine And.intro (fun hcc => ?_) (fun hcc => ?_)
      · repeat (refine And.intro (by first | assumption | rfl | exact Nat.le_of_ble_eq_true rfl | exact Nat.zero_le _ | decide) ?_)
        rw [hv, show i = c4 by omega]
        exact q
      · exact absurd (nI_le (by omega) (by omega)) hcc
    | succ n ih =>
      intro i v hi hv
      refine hK _ _ _ _ ?_
      refine iOS W ?_
      rw [W.1.2.2.2.2.1.1]
      have fin : ∀ x : Int32, x = s_pcs N 323 P (i + 1) → fX1_piecesOf_37 l Q X K [(3, .int (nI i)), (2, .int x), (0, .ref (w + 18)), (1, .int P)] [] H (0, 0) := by
        intro x hx
        have := ih (i + 1) x (by omega) hx
        rw [← nI_1 i] at this
        exact this
      refine And.intro (fun hcc => ?_) (fun hcc => ?_)
      · exact absurd hcc (nI_ge (by omega) (by omega))
      · refine gBO W.k ?_
        refine aOrd W.k rfl (show i < 12 by omega) ?_
        rw [no i (by omega)]
        refine iOrd W (show i < c4 by omega) (k := 0) (by decide) ?_
        refine And.intro (fun heq => ?_) (fun heq => ?_)
        · have := fin v (by
            rw [hv]
            show _ = s_pcs N 323 P i + _
            rw [if_neg heq, Int32.add_zero])
          exact this
        · refine gBO W.k ?_
          refine aOrd W.k rfl (show i < 12 by omega) ?_
          rw [no i (by omega)]
          refine iOrd W (show i < c4 by omega) (k := 1) (by decide) ?_
          have := fin (v + N (323 + i * 3 + 1)) (by
            rw [hv]
            show _ = s_pcs N 323 P i + _
            rw [if_pos heq])
          exact this
  exact hk c4 0 _ (by omega) rfl
theorem d_isFullOrd {l : Launch} (hst : l.stackTraces = false) {Q : Option Value → Hp → Prop} {X : String → Hp → Prop} {h0 H : Hp} {w : Nat} {σ ρ : Nat → Nat} {N : Nat → Int32} {c0 c1 c2 c3 c4 : Nat} (W : Wv [] h0 H w σ ρ N c0 c1 c2 c3 c4) (q : Q (some (.int (if c4 < 12 then 0 else 1))) H) : CX1_isFull l [.ref (w + 18)] H Q X := by
  have k2 := W.1.2.2.2.2.1.2
  refine eX1_isFull hst (Nat.le_of_ble_eq_true rfl) (fun K => ?_)
  refine iOS W ?_
  rw [W.1.2.2.2.2.1.1]
  refine And.intro (fun hc => ?_) (fun hc => ?_)
  · repeat (refine And.intro (by first | assumption | rfl | exact Nat.le_of_ble_eq_true rfl | exact Nat.zero_le _ | decide) ?_)
    rw [if_pos ((nI_ltI (by omega) (by decide)).mp (show nI c4 < nI 12 from hc))] at q
    exact q
  · repeat (refine And.intro (by first | assumption | rfl | exact Nat.le_of_ble_eq_true rfl | exact Nat.zero_le _ | decide) ?_)
    rw [if_neg (fun z => hc (show nI c4 < nI 12 from nI_lt z (by decide)))] at q
    exact q
theorem d_expectedOf {l : Launch} (hst : l.stackTraces = false) {Q : Option Value → Hp → Prop} {X : String → Hp → Prop} {h0 H : Hp} {w : Nat} {σ ρ : Nat → Nat} {N : Nat → Int32} {c0 c1 c2 c3 c4 : Nat} (W : Wv [] h0 H w σ ρ N c0 c1 c2 c3 c4) (nr : ∀ i, i < 12 → σ (12 + i) = ρ (12 + i)) {P y : Int32} (q : Q (some (.int (s_exp N 287 P y c3))) H) : CX1_expectedOf l [.ref (w + 4), .int P, .int y] H Q X := by
  have k2 := W.1.2.2.2.1.2
  refine eX1_expectedOf hst (Nat.le_of_ble_eq_true rfl) (fun K hK => ?_)
  have hk : ∀ (n i : Nat) (v : Int32), i + n = c3 → v = s_exp N 287 P y i → K 5 [(4, .int (nI i)), (3, .int v), (0, .ref (w + 4)), (1, .int P), (2, .int y)] [] H (0, 0) := by
    intro n
    induction n with
    | zero =>
      intro i v hi hv
      refine hK _ _ _ _ ?_
      refine iRS W ?_
      rw [W.1.2.2.2.1.1]
      refine And.intro (fun hcc => ?_) (fun hcc => ?_)
      · repeat (refine And.intro (by first | assumption | rfl | exact Nat.le_of_ble_eq_true rfl | exact Nat.zero_le _ | decide) ?_)
        rw [hv, show i = c3 by omega]
        exact q
      · exact absurd (nI_le (by omega) (by omega)) hcc
    | succ n ih =>
      intro i v hi hv
      refine hK _ _ _ _ ?_
      refine iRS W ?_
      rw [W.1.2.2.2.1.1]
      have fin : ∀ x : Int32, x = s_exp N 287 P y (i + 1) → fX1_expectedOf_46 l Q X K [(4, .int (nI i)), (3, .int x), (0, .ref (w + 4)), (1, .int P), (2, .int y)] [] H (0, 0) := by
        intro x hx
        have := ih (i + 1) x (by omega) hx
        rw [← nI_1 i] at this
        exact this
      refine And.intro (fun hcc => ?_) (fun hcc => ?_)
      · exact absurd hcc (nI_ge (by omega) (by omega))
      · refine gBR W.k ?_
        refine aRep W.k rfl (show i < 12 by omega) ?_
        rw [nr i (by omega)]
        refine iRep W (show i < c3 by omega) (k := 0) (by decide) ?_
        refine And.intro (fun heq => ?_) (fun heq => ?_)
        · have := fin v (by
            rw [hv]
            show _ = s_exp N 287 P y i + _
            rw [if_neg heq, Int32.add_zero])
          exact this
        · refine gBR W.k ?_
          refine aRep W.k rfl (show i < 12 by omega) ?_
          rw [nr i (by omega)]
          refine iRep W (show i < c3 by omega) (k := 1) (by decide) ?_
          repeat (refine And.intro (by first | assumption | rfl | exact Nat.le_of_ble_eq_true rfl | exact Nat.zero_le _ | decide) ?_)
          have := fin (v + N (287 + i * 3 + 1) * y / 100) (by
            rw [hv]
            show _ = s_exp N 287 P y i + _
            rw [if_pos heq])
          exact this
  exact hk c3 0 _ (by omega) rfl
theorem d_positionOf {l : Launch} (hst : l.stackTraces = false) {Q : Option Value → Hp → Prop} {X : String → Hp → Prop} {h0 H : Hp} {w : Nat} {σ ρ : Nat → Nat} {N : Nat → Int32} {c0 c1 c2 c3 c4 : Nat} (W : Wv [] h0 H w σ ρ N c0 c1 c2 c3 c4) (nw : ∀ i, i < 12 → σ i = ρ i) (nr : ∀ i, i < 12 → σ (12 + i) = ρ (12 + i)) (no : ∀ i, i < 12 → σ (24 + i) = ρ (24 + i)) {p : Nat} {P : Int32} (hP : P = nI p) (hp : p < c0) (q : Q (some (.int (s_pos N p))) H) : CX7_positionOf l [.ref w, .int P] H Q X := by
  subst hP
  have p8 := W.p8 hp
  have e : N (7 + p * 23 + 0) + s_pcs N 323 (nI p) c4 + s_exp N 287 (nI p) (N (7 + p * 23 + 6)) c3 - s_miss N (nI p) c2 = s_pos N p := by
    have z2 := W.1.2.2.1
    have z3 := W.1.2.2.2.1
    have z4 := W.1.2.2.2.2.1
    unfold s_pos
    rw [z2.1, z3.1, z4.1, nI_clamp (by omega), nI_clamp (by omega), nI_clamp (by omega), s_rep_exp, s_ord_pcs]
    simp only [Int32.sub_eq_add_neg]
    ac_rfl
  rw [← e] at q
  refine eX7_positionOf hst (Nat.le_of_ble_eq_true rfl) (fun K => ?_)
  refine gParts W.k ?_
  refine aPart W.k rfl p8 ?_
  refine iPart W hp (k := 0) (by decide) ?_
  refine gOrds W.k ?_
  (repeat (refine And.intro (by first | assumption | rfl | exact Nat.le_of_ble_eq_true rfl | exact Nat.zero_le _ | decide) ?_)); refine And.intro (W.k.s_ords.2.1) ?_; (repeat (refine And.intro (by first | assumption | rfl | exact Nat.le_of_ble_eq_true rfl | exact Nat.zero_le _ | decide) ?_))
  refine d_piecesOfOrd hst W no ?_
  refine gReps W.k ?_
  refine iPart W hp (k := 6) (by decide) ?_
  (repeat (refine And.intro (by first | assumption | rfl | exact Nat.le_of_ble_eq_true rfl | exact Nat.zero_le _ | decide) ?_)); refine And.intro (W.k.s_reps.2.1) ?_; (repeat (refine And.intro (by first | assumption | rfl | exact Nat.le_of_ble_eq_true rfl | exact Nat.zero_le _ | decide) ?_))
  refine d_expectedOf hst W nr ?_
  (repeat (refine And.intro (by first | assumption | rfl | exact Nat.le_of_ble_eq_true rfl | exact Nat.zero_le _ | decide) ?_)); refine And.intro (W.k.s_w) ?_; (repeat (refine And.intro (by first | assumption | rfl | exact Nat.le_of_ble_eq_true rfl | exact Nat.zero_le _ | decide) ?_))
  refine d_missingOf hst W nw rfl p8 ?_
  repeat (refine And.intro (by first | assumption | rfl | exact Nat.le_of_ble_eq_true rfl | exact Nat.zero_le _ | decide) ?_)
  exact q
theorem d_quantityToOrder {l : Launch} (hst : l.stackTraces = false) {Q : Option Value → Hp → Prop} {X : String → Hp → Prop} {h0 H : Hp} {w : Nat} {σ ρ : Nat → Nat} {N : Nat → Int32} {c0 c1 c2 c3 c4 : Nat} (W : Wv [] h0 H w σ ρ N c0 c1 c2 c3 c4) (nw : ∀ i, i < 12 → σ i = ρ i) (nr : ∀ i, i < 12 → σ (12 + i) = ρ (12 + i)) (no : ∀ i, i < 12 → σ (24 + i) = ρ (24 + i)) {p : Nat} {P : Int32} (hP : P = nI p) (hp : p < c0) (q : Q (some (.int (s_want N p))) H) : CX7_quantityToOrder l [.ref w, .int P] H Q X := by
  subst hP
  have p8 := W.p8 hp
  refine eX7_quantityToOrder hst (Nat.le_of_ble_eq_true rfl) (fun K => ?_)
  (repeat (refine And.intro (by first | assumption | rfl | exact Nat.le_of_ble_eq_true rfl | exact Nat.zero_le _ | decide) ?_)); refine And.intro (W.k.s_w) ?_; (repeat (refine And.intro (by first | assumption | rfl | exact Nat.le_of_ble_eq_true rfl | exact Nat.zero_le _ | decide) ?_))
  refine d_positionOf hst W nw nr no rfl hp ?_
  refine gParts W.k ?_
  refine aPart W.k rfl p8 ?_
  refine iPart W hp (k := 2) (by decide) ?_
  unfold s_want at q
  refine And.intro (fun hc => ?_) (fun hc => ?_)
  · repeat (refine And.intro (by first | assumption | rfl | exact Nat.le_of_ble_eq_true rfl | exact Nat.zero_le _ | decide) ?_)
    rw [if_neg (Int32.not_lt.mpr hc)] at q
    exact q
  · refine gParts W.k ?_
    refine aPart W.k rfl p8 ?_
    refine iPart W hp (k := 3) (by decide) ?_
    repeat (refine And.intro (by first | assumption | rfl | exact Nat.le_of_ble_eq_true rfl | exact Nat.zero_le _ | decide) ?_)
    rw [if_pos (Int32.not_le.mp hc)] at q
    exact q
theorem d_obstacleToRequest {l : Launch} (hst : l.stackTraces = false) {Q : Option Value → Hp → Prop} {X : String → Hp → Prop} {h0 H : Hp} {w : Nat} {σ ρ : Nat → Nat} {N : Nat → Int32} {c0 c1 c2 c3 c4 : Nat} (W : Wv [] h0 H w σ ρ N c0 c1 c2 c3 c4) {p : Nat} {P v : Int32} (hP : P = nI p) (hp : p < c0) (q1 : s_reqBad N p v → Q (some (.int 1)) H) (q2 : ¬ s_reqBad N p v → Q (some (.int 0)) H) : CX7_obstacleToRequest l [.ref w, .int P, .int v] H Q X := by
  subst hP
  have z2 := W.1.2.2.1
  refine eX7_obstacleToRequest hst (Nat.le_of_ble_eq_true rfl) (fun K => ?_)
  (repeat (refine And.intro (by first | assumption | rfl | exact Nat.le_of_ble_eq_true rfl | exact Nat.zero_le _ | decide) ?_)); refine And.intro (W.k.s_w) ?_; (repeat (refine And.intro (by first | assumption | rfl | exact Nat.le_of_ble_eq_true rfl | exact Nat.zero_le _ | decide) ?_))
  refine d_stockInReach hst W rfl hp ?_
  refine And.intro (fun hc => ?_) (fun hc => ?_)
  · refine And.intro (fun _ => ?_) (fun z => absurd rfl z)
    repeat (refine And.intro (by first | assumption | rfl | exact Nat.le_of_ble_eq_true rfl | exact Nat.zero_le _ | decide) ?_)
    exact q2 (fun z => absurd z.1 (Int32.not_lt.mpr hc))
  · refine And.intro (fun z => absurd z (by decide)) (fun _ => ?_)
    refine iWC W ?_
    refine And.intro (fun hd => ?_) (fun hd => ?_)
    · repeat (refine And.intro (by first | assumption | rfl | exact Nat.le_of_ble_eq_true rfl | exact Nat.zero_le _ | decide) ?_)
      exact q2 (fun z => by
        rw [z.2] at hd
        exact absurd hd (by decide))
    · repeat (refine And.intro (by first | assumption | rfl | exact Nat.le_of_ble_eq_true rfl | exact Nat.zero_le _ | decide) ?_)
      refine q1 ⟨Int32.not_le.mp hc, ?_⟩
      rw [z2.1] at hd ⊢
      have : ¬ c2 < 12 := fun z => hd (show nI c2 < nI 12 from nI_lt z (by decide))
      rw [show c2 = 12 by omega]
      rfl
end C5

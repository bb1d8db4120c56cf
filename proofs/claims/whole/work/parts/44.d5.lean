section D5
/-- of the n rows from i on those go whose last day has come; b, k: where the rows are and their count -/
def r_drop (b k : Nat) (d : Int32) : Nat → Nat → (Nat → Int32) → (Nat → Int32)
  | 0, _, N => N
  | n + 1, i, N => if N (b + i * 3 + 2) ≤ d then r_drop b k d n i (r_fu N b k i (i + n)) else r_drop b k d n (i + 1) N
theorem r_drop_s (b k : Nat) (d : Int32) (n i : Nat) (N : Nat → Int32) : r_drop b k d (n + 1) i N = if N (b + i * 3 + 2) ≤ d then r_drop b k d n i (r_fu N b k i (i + n)) else r_drop b k d n (i + 1) N := rfl
theorem RhoOk.o24 {w : Nat} {ρ : Nat → Nat} (h : RhoOk w ρ) {k : Nat} (h1 : 24 ≤ k) (h2 : k < 36) : w + 20 ≤ ρ k ∧ ρ k < w + 32 := by
  have := h.2.2.1 (k - 24) (by omega)
  rw [show 24 + (k - 24) = k by omega] at this
  exact this
theorem Wv.furRep {E : List (Nat × Int32)} {x : Int32} {h0 H : Hp} {w : Nat} {σ ρ : Nat → Nat} {N : Nat → Int32} {c0 c1 c2 c c4 s : Nat} (W : Wv ((3, x) :: E) h0 H w σ ρ N c0 c1 c2 (c + 1) c4) (hs : s < c + 1) : Wv ((3, x) :: E) h0 H w σ (fun k => ρ (rot1 12 s k)) (r_fu N 287 3 s c) c0 c1 c2 c c4 := by
  have k0 := W.1.1.2
  have k1 := W.1.2.1.2
  have k2 := W.1.2.2.1.2
  have k3 := W.1.2.2.2.1.2
  have k4 := W.1.2.2.2.2.1.2
  have WF := W.1.fu hs
  refine ⟨WF, W.k.rho (W.k.s_rho.rott (b := 12) (by decide) (by omega)) (fun j hj hv => ?_), W.2.2⟩
  have fo : ∀ i, (i < 287 + s * 3 ∨ 287 + c * 3 ≤ i) → i ≠ 3 → r_fu N 287 3 s c i = N i := fun i h1 h2 => by
    unfold r_fu
    rw [if_neg (by omega), if_neg h2]
  by_cases h1 : j < 227
  · refine ⟨j, hj, hv.lo h1 k0 k1 (fun i h1 h2 => fo i (by omega) (by omega)), loc_lo h1, ovr_cons ?_⟩
    by_cases e : j = 3
    · exact Or.inl e
    · exact Or.inr (fo j (by omega) e)
  · by_cases h2 : j < 287
    · have hb := hv.w k0 k1 (by omega) h2
      refine ⟨j, hj, Or.inr (Or.inr (Or.inr (Or.inl (by omega)))), ?_, ovr_cons (Or.inr (fo j (by omega) (by omega)))⟩
      rw [loc_r1 (by omega) h2, loc_r1 (by omega) h2]
      have := rot1_at 12 s ((j - 227) / 5)
      rw [show rot1 12 s ((j - 227) / 5) = (j - 227) / 5 by omega]
    · have hr : j < 323 → _ := fun h => hv.r k0 k1 (by omega) (by omega) h
      have ho : 323 ≤ j → _ := fun h => hv.o k0 k1 (by omega) (by omega) h
      by_cases h3 : 287 + s * 3 ≤ j ∧ j < 287 + c * 3
      · refine ⟨j + 3, by omega, ?_, ?_, ?_⟩
        · unfold vld; omega
        · rw [loc_r2 (by omega), loc_r2 (by omega)]
          have := rot1_at 12 s (12 + (j - 287) / 3)
          rw [show rot1 12 s (12 + (j - 287) / 3) = 12 + (j + 3 - 287) / 3 by omega, show (j - 287) % 3 = (j + 3 - 287) % 3 by omega]
        · rw [ovr_o W.2.2 (by omega), ovr_o W.2.2 (by omega)]
          unfold r_fu
          rw [if_pos h3]
      · refine ⟨j, hj, ?_, ?_, ovr_cons (Or.inr (fo j (by omega) (by omega)))⟩
        · unfold vld; omega
        · rw [loc_r2 (by omega), loc_r2 (by omega)]
          have := rot1_at 12 s (12 + (j - 287) / 3)
          rw [show rot1 12 s (12 + (j - 287) / 3) = 12 + (j - 287) / 3 by omega]
theorem Wv.mixRep {E : List (Nat × Int32)} {h0 H : Hp} {w : Nat} {σ ρ : Nat → Nat} {N : Nat → Int32} {c0 c1 c2 c3 c4 : Nat} (W : Wv E h0 H w σ ρ N c0 c1 c2 c3 c4) (e : ∀ k, k < c3 → ρ (12 + k) = σ (12 + k)) : Wv E h0 H w σ (fun k => if 12 ≤ k ∧ k < 12 + 12 then σ k else ρ k) N c0 c1 c2 c3 c4 := by
  have k0 := W.1.1.2
  have k1 := W.1.2.1.2
  have k2 := W.1.2.2.1.2
  have k3 := W.1.2.2.2.1.2
  have k4 := W.1.2.2.2.2.1.2
  refine ⟨W.1, W.k.rho (W.k.s_sig.mix W.k.s_rho (by decide)) (fun j hj hv => ⟨j, hj, hv, ?_, rfl⟩), W.2.2⟩
  by_cases h1 : j < 227
  · exact loc_lo h1
  · by_cases h2 : j < 287
    · have hb := hv.w k0 k1 (by omega) h2
      rw [loc_r1 (by omega) h2, loc_r1 (by omega) h2, if_neg (by omega)]
    · have hr : j < 323 → _ := fun h => hv.r k0 k1 (by omega) (by omega) h
      have ho : 323 ≤ j → _ := fun h => hv.o k0 k1 (by omega) (by omega) h
      rw [loc_r2 (by omega), loc_r2 (by omega)]
      by_cases h3 : 12 ≤ 12 + (j - 287) / 3 ∧ 12 + (j - 287) / 3 < 12 + 12
      · rw [if_pos h3]
        have := e (12 + (j - 287) / 3 - 12) (by omega)
        rw [show 12 + (12 + (j - 287) / 3 - 12) = 12 + (j - 287) / 3 by omega] at this
        rw [this]
      · rw [if_neg h3]
theorem d_dropUntilRep {l : Launch} (hst : l.stackTraces = false) {Q : Option Value → Hp → Prop} {X : String → Hp → Prop} {E : List (Nat × Int32)} {h0 H : Hp} {w : Nat} {σ ρ : Nat → Nat} {N : Nat → Int32} {c0 c1 c2 c3 c4 : Nat} (W : Wv E h0 H w σ ρ N c0 c1 c2 c3 c4) (nr : ∀ i, i < 12 → σ (12 + i) = ρ (12 + i)) (hE : ∀ q, q ∈ E → q.1 ≠ 3) {d : Int32}
    (q : ∀ H' σ' ρ' cc, Wv E h0 H' w σ' ρ' (r_drop 287 3 d c3 0 N) c0 c1 c2 cc c4 → (∀ i, i < 12 → σ' (12 + i) = ρ' (12 + i)) → (∀ i, (i < 12 ∨ 12 + 12 ≤ i) → σ' i = σ i ∧ ρ' i = ρ i) → cc ≤ c3 → Q none H') : CX1_dropUntil l [.ref (w + 4), .int d] H Q X := by
  have k2 := W.1.2.2.2.1.2
  have ek := W.1.2.2.2.1.1
  have W0 := W.opn (k := 3) (by decide) hE
  rw [ek] at W0
  generalize hC : c3 = C at q
  rw [hC] at W0 k2
  refine eX1_dropUntil hst (Nat.le_of_ble_eq_true rfl) (fun K hK => ?_)
  have hk : ∀ (n i s g : Nat) (M : Nat → Int32) (H' : Hp) (σ' ρ' : Nat → Nat), i + n = C → s + g = i → Wv ((3, nI C) :: E) h0 H' w σ' ρ' M c0 c1 c2 (s + n) c4 → (∀ k, k < s → ρ' (12 + k) = σ' (12 + k)) → (∀ k, s ≤ k → k < s + n → ρ' (12 + k) = σ' (12 + (k + g))) → (∀ k, (k < 12 ∨ 12 + 12 ≤ k) → σ' k = σ k ∧ ρ' k = ρ k) → r_drop 287 3 d n s M = r_drop 287 3 d C 0 N →
      ∀ L, (L = [(3, .int (nI i)), (2, .int (nI s)), (0, .ref (w + 4)), (1, .int d)] ∨ (∃ a, L = [(3, .int (nI i)), (2, .int (nI s)), (4, a), (0, .ref (w + 4)), (1, .int d)]) ∨ (∃ a, L = [(3, .int (nI i)), (4, a), (2, .int (nI s)), (0, .ref (w + 4)), (1, .int d)])) → K 4 L [] H' (0, 0) := by
    intro n
    induction n with
    | zero =>
      intro i s g M H' σ' ρ' hi hsd W' r1 r2 r3 hr L hL
      have WM := W'.mixRep r1
      have e2 : M 3 = nI s := by have w1 := W'.1; exact w1.2.2.2.1.1
      have fin : Q none (wI H' (w + 4) 1 (nI s)) := by
        have W9 := WM.cls hE (a := w + 4) (f := 1) rfl
        rw [e2] at W9
        rw [← hr] at q
        refine q _ _ _ s W9 (fun i hi => ?_) (fun i hi => ?_) (by omega)
        · rw [if_pos (by omega)]
        · rw [if_neg (by omega)]; exact r3 i hi
      rcases hL with hL | ⟨a, hL⟩ | ⟨a, hL⟩ <;> subst hL
      all_goals
        refine hK _ _ _ _ ?_
        refine iRSo W' (x := nI C) ovr_at ?_
        refine And.intro (fun hcc => ?_) (fun hcc => ?_)
        · refine pI_of W'.k.s_reps.2.1 ?_
          repeat (refine And.intro (by first | assumption | rfl | exact Nat.le_of_ble_eq_true rfl | exact Nat.zero_le _ | decide) ?_)
          exact fin
        · exact absurd (nI_le (by omega) (by omega)) hcc
    | succ n ih =>
      intro i s g M H' σ' ρ' hi hsd W' r1 r2 r3 hr L hL
      have es : σ' (12 + i) = ρ' (12 + s) := by
        rw [r2 s (Nat.le_refl _) (by omega), hsd]
      rw [r_drop_s] at hr
      rcases hL with hL | ⟨a, hL⟩ | ⟨a, hL⟩ <;> subst hL
      all_goals
        refine hK _ _ _ _ ?_
        refine iRSo W' (x := nI C) ovr_at ?_
        refine And.intro (fun hcc => ?_) (fun hcc => ?_)
        · exact absurd hcc (nI_ge (by omega) (by omega))
        · refine gBR W'.k ?_
          refine aRep W'.k rfl (show i < 12 by omega) ?_
          rw [es]
          refine iRep W' (show s < s + (n + 1) by omega) (k := 2) (by decide) ?_
          refine And.intro (fun hz => ?_) (fun hz => ?_)
          · rw [if_pos hz] at hr
            have W3 := Wv.furRep (s := s) (c := s + n) W' (by omega)
            have := ih (i + 1) s (g + 1) _ H' σ' (fun k => ρ' (rot1 12 s k)) (by omega) (by omega) W3 (fun k hk => by
                have := rot1_at 12 s (12 + k)
                rw [show rot1 12 s (12 + k) = 12 + k by omega]
                exact r1 k hk) (fun k hk1 hk2 => by
                have := rot1_at 12 s (12 + k)
                rw [show rot1 12 s (12 + k) = 12 + (k + 1) by omega, r2 (k + 1) (by omega) (by omega), show k + 1 + g = k + (g + 1) by omega]) (fun k hk => by
                have := rot1_at 12 s k
                rw [show rot1 12 s k = k by omega]
                exact r3 k hk) hr _ (Or.inr (Or.inr ⟨.ref (ρ' (12 + s)), rfl⟩))
            rw [← nI_1 i] at this
            exact this
          · rw [if_neg hz] at hr
            have s0 := W'.k.s_0
            refine gBR W'.k ?_
            refine gBR W'.k ?_
            refine aRep W'.k rfl (show s < 12 by omega) ?_
            refine as_of W'.k.s_reps.2.2.2 rfl (show i < 12 by omega) (by decide) (W'.k.k_rpS (by omega)) (by have := W'.k.s_sig.2.1 s (by omega); have := W'.k.s_sig.2.2.1 s (by omega); omega) ?_
            refine gR_of W'.k.s_reps.2.1 ((congrFun (wR_a _ _ (by omega)) 0).trans W'.k.s_reps.2.2.1) (by omega) ?_
            refine as_of W'.k.s_reps.2.2.2 rfl (show s < 12 by omega) (by decide) (W'.k.k_rp (by omega)) (by have := W'.k.s_rho.2.1 s (by omega); have := W'.k.s_rho.2.2.1 s (by omega); omega) ?_
            rw [← es]
            have W3 : Wv ((3, nI C) :: E) h0 _ w (swp σ' (12 + i) (12 + s)) ρ' M c0 c1 c2 (s + (n + 1)) c4 := ⟨W'.1, W'.k.swR (i := i) (s := s) (by omega) (by omega), W'.2.2⟩
            have := ih (i + 1) (s + 1) g _ _ (swp σ' (12 + i) (12 + s)) ρ' (by omega) (by omega) (by rw [show s + 1 + n = s + (n + 1) by omega]; exact W3) (fun k hk => by
                by_cases hks : k = s
                · subst hks
                  unfold swp
                  rw [if_pos rfl]
                  exact es.symm
                · rw [swp_o (by omega) (by omega)]
                  exact r1 k (by omega)) (fun k hk1 hk2 => by
                rw [swp_o (by omega) (by omega)]
                exact r2 k (by omega) (by omega)) (fun k hk => by
                rw [swp_o (by omega) (by omega)]
                exact r3 k hk) hr _ (Or.inr (Or.inl ⟨.ref (σ' (12 + i)), rfl⟩))
            rw [← nI_1 i, ← nI_1 s] at this
            exact this
  exact hk C 0 0 0 N H σ ρ (by omega) rfl (by rw [Nat.zero_add]; exact W0) (fun k hk => absurd hk (Nat.not_lt_zero k)) (fun k _ hk => (nr k (by omega)).symm) (fun _ _ => ⟨rfl, rfl⟩) rfl _ (Or.inl rfl)
theorem Wv.furOrd {E : List (Nat × Int32)} {x : Int32} {h0 H : Hp} {w : Nat} {σ ρ : Nat → Nat} {N : Nat → Int32} {c0 c1 c2 c3 c s : Nat} (W : Wv ((4, x) :: E) h0 H w σ ρ N c0 c1 c2 c3 (c + 1)) (hs : s < c + 1) : Wv ((4, x) :: E) h0 H w σ (fun k => ρ (rot1 24 s k)) (r_fu N 323 4 s c) c0 c1 c2 c3 c := by
  have k0 := W.1.1.2
  have k1 := W.1.2.1.2
  have k2 := W.1.2.2.1.2
  have k3 := W.1.2.2.2.1.2
  have k4 := W.1.2.2.2.2.1.2
  have WF := W.1.fu4 hs
  refine ⟨WF, W.k.rho (W.k.s_rho.rott (b := 24) (by decide) (by omega)) (fun j hj hv => ?_), W.2.2⟩
  have fo : ∀ i, (i < 323 + s * 3 ∨ 323 + c * 3 ≤ i) → i ≠ 4 → r_fu N 323 4 s c i = N i := fun i h1 h2 => by
    unfold r_fu
    rw [if_neg (by omega), if_neg h2]
  by_cases h1 : j < 227
  · refine ⟨j, hj, hv.lo h1 k0 k1 (fun i h1 h2 => fo i (by omega) (by omega)), loc_lo h1, ovr_cons ?_⟩
    by_cases e : j = 4
    · exact Or.inl e
    · exact Or.inr (fo j (by omega) e)
  · by_cases h2 : j < 287
    · have hb := hv.w k0 k1 (by omega) h2
      refine ⟨j, hj, Or.inr (Or.inr (Or.inr (Or.inl (by omega)))), ?_, ovr_cons (Or.inr (fo j (by omega) (by omega)))⟩
      rw [loc_r1 (by omega) h2, loc_r1 (by omega) h2]
      have := rot1_at 24 s ((j - 227) / 5)
      rw [show rot1 24 s ((j - 227) / 5) = (j - 227) / 5 by omega]
    · have hr : j < 323 → _ := fun h => hv.r k0 k1 (by omega) (by omega) h
      have ho : 323 ≤ j → _ := fun h => hv.o k0 k1 (by omega) (by omega) h
      by_cases h3 : 323 + s * 3 ≤ j ∧ j < 323 + c * 3
      · refine ⟨j + 3, by omega, ?_, ?_, ?_⟩
        · unfold vld; omega
        · rw [loc_r2 (by omega), loc_r2 (by omega)]
          have := rot1_at 24 s (12 + (j - 287) / 3)
          rw [show rot1 24 s (12 + (j - 287) / 3) = 12 + (j + 3 - 287) / 3 by omega, show (j - 287) % 3 = (j + 3 - 287) % 3 by omega]
        · rw [ovr_o W.2.2 (by omega), ovr_o W.2.2 (by omega)]
          unfold r_fu
          rw [if_pos h3]
      · refine ⟨j, hj, ?_, ?_, ovr_cons (Or.inr (fo j (by omega) (by omega)))⟩
        · unfold vld; omega
        · rw [loc_r2 (by omega), loc_r2 (by omega)]
          have := rot1_at 24 s (12 + (j - 287) / 3)
          rw [show rot1 24 s (12 + (j - 287) / 3) = 12 + (j - 287) / 3 by omega]
theorem Wv.mixOrd {E : List (Nat × Int32)} {h0 H : Hp} {w : Nat} {σ ρ : Nat → Nat} {N : Nat → Int32} {c0 c1 c2 c3 c4 : Nat} (W : Wv E h0 H w σ ρ N c0 c1 c2 c3 c4) (e : ∀ k, k < c4 → ρ (24 + k) = σ (24 + k)) : Wv E h0 H w σ (fun k => if 24 ≤ k ∧ k < 24 + 12 then σ k else ρ k) N c0 c1 c2 c3 c4 := by
  have k0 := W.1.1.2
  have k1 := W.1.2.1.2
  have k2 := W.1.2.2.1.2
  have k3 := W.1.2.2.2.1.2
  have k4 := W.1.2.2.2.2.1.2
  refine ⟨W.1, W.k.rho (W.k.s_sig.mix W.k.s_rho (by decide)) (fun j hj hv => ⟨j, hj, hv, ?_, rfl⟩), W.2.2⟩
  by_cases h1 : j < 227
  · exact loc_lo h1
  · by_cases h2 : j < 287
    · have hb := hv.w k0 k1 (by omega) h2
      rw [loc_r1 (by omega) h2, loc_r1 (by omega) h2, if_neg (by omega)]
    · have hr : j < 323 → _ := fun h => hv.r k0 k1 (by omega) (by omega) h
      have ho : 323 ≤ j → _ := fun h => hv.o k0 k1 (by omega) (by omega) h
      rw [loc_r2 (by omega), loc_r2 (by omega)]
      by_cases h3 : 24 ≤ 12 + (j - 287) / 3 ∧ 12 + (j - 287) / 3 < 24 + 12
      · rw [if_pos h3]
        have := e (12 + (j - 287) / 3 - 24) (by omega)
        rw [show 24 + (12 + (j - 287) / 3 - 24) = 12 + (j - 287) / 3 by omega] at this
        rw [this]
      · rw [if_neg h3]
theorem d_dropUntilOrd {l : Launch} (hst : l.stackTraces = false) {Q : Option Value → Hp → Prop} {X : String → Hp → Prop} {E : List (Nat × Int32)} {h0 H : Hp} {w : Nat} {σ ρ : Nat → Nat} {N : Nat → Int32} {c0 c1 c2 c3 c4 : Nat} (W : Wv E h0 H w σ ρ N c0 c1 c2 c3 c4) (nr : ∀ i, i < 12 → σ (24 + i) = ρ (24 + i)) (hE : ∀ q, q ∈ E → q.1 ≠ 4) {d : Int32}
    (q : ∀ H' σ' ρ' cc, Wv E h0 H' w σ' ρ' (r_drop 323 4 d c4 0 N) c0 c1 c2 c3 cc → (∀ i, i < 12 → σ' (24 + i) = ρ' (24 + i)) → (∀ i, (i < 24 ∨ 24 + 12 ≤ i) → σ' i = σ i ∧ ρ' i = ρ i) → cc ≤ c4 → Q none H') : CX1_dropUntil l [.ref (w + 18), .int d] H Q X := by
  have k2 := W.1.2.2.2.2.1.2
  have ek := W.1.2.2.2.2.1.1
  have W0 := W.opn (k := 4) (by decide) hE
  rw [ek] at W0
  generalize hC : c4 = C at q
  rw [hC] at W0 k2
  refine eX1_dropUntil hst (Nat.le_of_ble_eq_true rfl) (fun K hK => ?_)
  have hk : ∀ (n i s g : Nat) (M : Nat → Int32) (H' : Hp) (σ' ρ' : Nat → Nat), i + n = C → s + g = i → Wv ((4, nI C) :: E) h0 H' w σ' ρ' M c0 c1 c2 c3 (s + n) → (∀ k, k < s → ρ' (24 + k) = σ' (24 + k)) → (∀ k, s ≤ k → k < s + n → ρ' (24 + k) = σ' (24 + (k + g))) → (∀ k, (k < 24 ∨ 24 + 12 ≤ k) → σ' k = σ k ∧ ρ' k = ρ k) → r_drop 323 4 d n s M = r_drop 323 4 d C 0 N →
      ∀ L, (L = [(3, .int (nI i)), (2, .int (nI s)), (0, .ref (w + 18)), (1, .int d)] ∨ (∃ a, L = [(3, .int (nI i)), (2, .int (nI s)), (4, a), (0, .ref (w + 18)), (1, .int d)]) ∨ (∃ a, L = [(3, .int (nI i)), (4, a), (2, .int (nI s)), (0, .ref (w + 18)), (1, .int d)])) → K 4 L [] H' (0, 0) := by
    intro n
    induction n with
    | zero =>
      intro i s g M H' σ' ρ' hi hsd W' r1 r2 r3 hr L hL
      have WM := W'.mixOrd r1
      have e2 : M 4 = nI s := by have w1 := W'.1; exact w1.2.2.2.2.1.1
      have fin : Q none (wI H' (w + 18) 1 (nI s)) := by
        have W9 := WM.cls hE (a := w + 18) (f := 1) rfl
        rw [e2] at W9
        rw [← hr] at q
        refine q _ _ _ s W9 (fun i hi => ?_) (fun i hi => ?_) (by omega)
        · rw [if_pos (by omega)]
        · rw [if_neg (by omega)]; exact r3 i hi
      rcases hL with hL | ⟨a, hL⟩ | ⟨a, hL⟩ <;> subst hL
      all_goals
        refine hK _ _ _ _ ?_
        refine iOSo W' (x := nI C) ovr_at ?_
        refine And.intro (fun hcc => ?_) (fun hcc => ?_)
        · refine pI_of W'.k.s_ords.2.1 ?_
          repeat (refine And.intro (by first | assumption | rfl | exact Nat.le_of_ble_eq_true rfl | exact Nat.zero_le _ | decide) ?_)
          exact fin
        · exact absurd (nI_le (by omega) (by omega)) hcc
    | succ n ih =>
      intro i s g M H' σ' ρ' hi hsd W' r1 r2 r3 hr L hL
      have es : σ' (24 + i) = ρ' (24 + s) := by
        rw [r2 s (Nat.le_refl _) (by omega), hsd]
      rw [r_drop_s] at hr
      rcases hL with hL | ⟨a, hL⟩ | ⟨a, hL⟩ <;> subst hL
      all_goals
        refine hK _ _ _ _ ?_
        refine iOSo W' (x := nI C) ovr_at ?_
        refine And.intro (fun hcc => ?_) (fun hcc => ?_)
        · exact absurd hcc (nI_ge (by omega) (by omega))
        · refine gBO W'.k ?_
          refine aOrd W'.k rfl (show i < 12 by omega) ?_
          rw [es]
          refine iOrd W' (show s < s + (n + 1) by omega) (k := 2) (by decide) ?_
          refine And.intro (fun hz => ?_) (fun hz => ?_)
          · rw [if_pos hz] at hr
            have W3 := Wv.furOrd (s := s) (c := s + n) W' (by omega)
            have := ih (i + 1) s (g + 1) _ H' σ' (fun k => ρ' (rot1 24 s k)) (by omega) (by omega) W3 (fun k hk => by
                have := rot1_at 24 s (24 + k)
                rw [show rot1 24 s (24 + k) = 24 + k by omega]
                exact r1 k hk) (fun k hk1 hk2 => by
                have := rot1_at 24 s (24 + k)
                rw [show rot1 24 s (24 + k) = 24 + (k + 1) by omega, r2 (k + 1) (by omega) (by omega), show k + 1 + g = k + (g + 1) by omega]) (fun k hk => by
                have := rot1_at 24 s k
                rw [show rot1 24 s k = k by omega]
                exact r3 k hk) hr _ (Or.inr (Or.inr ⟨.ref (ρ' (24 + s)), rfl⟩))
            rw [← nI_1 i] at this
            exact this
          · rw [if_neg hz] at hr
            have s0 := W'.k.s_0
            refine gBO W'.k ?_
            refine gBO W'.k ?_
            refine aOrd W'.k rfl (show s < 12 by omega) ?_
            refine as_of W'.k.s_ords.2.2.2 rfl (show i < 12 by omega) (by decide) (W'.k.k_odS (by omega)) (by have := W'.k.s_sig.2.1 s (by omega); have := W'.k.s_sig.2.2.1 s (by omega); omega) ?_
            refine gR_of W'.k.s_ords.2.1 ((congrFun (wR_a _ _ (by omega)) 0).trans W'.k.s_ords.2.2.1) (by omega) ?_
            refine as_of W'.k.s_ords.2.2.2 rfl (show s < 12 by omega) (by decide) (W'.k.k_od (by omega)) (by have := W'.k.s_rho.2.1 s (by omega); have := W'.k.s_rho.2.2.1 s (by omega); omega) ?_
            rw [← es]
            have W3 : Wv ((4, nI C) :: E) h0 _ w (swp σ' (24 + i) (24 + s)) ρ' M c0 c1 c2 c3 (s + (n + 1)) := ⟨W'.1, W'.k.swO (i := i) (s := s) (by omega) (by omega), W'.2.2⟩
            have := ih (i + 1) (s + 1) g _ _ (swp σ' (24 + i) (24 + s)) ρ' (by omega) (by omega) (by rw [show s + 1 + n = s + (n + 1) by omega]; exact W3) (fun k hk => by
                by_cases hks : k = s
                · subst hks
                  unfold swp
                  rw [if_pos rfl]
                  exact es.symm
                · rw [swp_o (by omega) (by omega)]
                  exact r1 k (by omega)) (fun k hk1 hk2 => by
                rw [swp_o (by omega) (by omega)]
                exact r2 k (by omega) (by omega)) (fun k hk => by
                rw [swp_o (by omega) (by omega)]
                exact r3 k hk) hr _ (Or.inr (Or.inl ⟨.ref (σ' (24 + i)), rfl⟩))
            rw [← nI_1 i, ← nI_1 s] at this
            exact this
  exact hk C 0 0 0 N H σ ρ (by omega) rfl (by rw [Nat.zero_add]; exact W0) (fun k hk => absurd hk (Nat.not_lt_zero k)) (fun k _ hk => (nr k (by omega)).symm) (fun _ _ => ⟨rfl, rfl⟩) rfl _ (Or.inl rfl)
end D5

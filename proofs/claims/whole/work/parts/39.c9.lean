section C9
theorem Wv.mixW {E : List (Nat × Int32)} {h0 H : Hp} {w : Nat} {σ ρ : Nat → Nat} {N : Nat → Int32} {c0 c1 c2 c3 c4 : Nat} (W : Wv E h0 H w σ ρ N c0 c1 c2 c3 c4) (e : ∀ k, k < c2 → ρ k = σ k) : Wv E h0 H w σ (fun k => if 0 ≤ k ∧ k < 0 + 12 then σ k else ρ k) N c0 c1 c2 c3 c4 := by
  have k0 := W.1.1.2
  have k1 := W.1.2.1.2
  refine ⟨W.1, W.k.rho (W.k.s_sig.mix W.k.s_rho (Or.inl rfl)) (fun j hj hv => ⟨j, hj, hv, ?_, rfl⟩), W.2.2⟩
  by_cases h1 : j < 227
  · exact loc_lo h1
  · by_cases h2 : j < 287
    · have hb := hv.w k0 k1 (by omega) h2
      rw [loc_r1 (by omega) h2, loc_r1 (by omega) h2, if_pos (by omega), e _ (by omega)]
    · rw [loc_r2 (by omega), loc_r2 (by omega), if_neg (by omega)]
/-- every request that waits misses pieces -/
def Mp (N : Nat → Int32) (c2 : Nat) : Prop := ∀ i, i < c2 → 0 < (N (227 + i * 5 + 3)).toInt
theorem r_serve_o {N : Nat → Int32} {c0 c1 c2 c3 c4 p : Nat} {v : Int32} (hN : WFc N c0 c1 c2 c3 c4) (hp : p < c0) {j : Nat} (hj : 191 ≤ j) : (r_serve N p v).2 j = N j := by
  obtain ⟨c, c4', hc, hsub⟩ := hN.2.2.2.2.2.1 p hp
  have k0 := hN.1.2
  unfold r_serve
  rw [hc, nI_clamp (by omega)]
  have : ∀ n, n ≤ c → (r_subs p n (r_issue N p v) (v - lss (N (7 + p * 23 + 0)) v)).2 j = N j := by
    intro n
    induction n with
    | zero => intro _; exact r_issue_o (by omega) (by omega)
    | succ n ih =>
      intro hn
      obtain ⟨s, s1, s2⟩ := hsub n (by omega)
      have es : (r_subs p n (r_issue N p v) (v - lss (N (7 + p * 23 + 0)) v)).2 (7 + p * 23 + (9 + n)) = nI s := by
        rw [r_subs_o n (by omega) (by omega), r_issue_o (by omega) (by omega), s2]
      show r_issue _ _ _ j = N j
      rw [es, nI_clamp (by omega), r_issue_o (by omega) (by omega)]
      exact ih (by omega)
  exact this c (Nat.le_refl _)
theorem d_serveWaiting {l : Launch} (hst : l.stackTraces = false) {Q : Option Value → Hp → Prop} {X : String → Hp → Prop} {E : List (Nat × Int32)} {h0 H : Hp} {w : Nat} {σ ρ : Nat → Nat} {N : Nat → Int32} {c0 c1 c2 c3 c4 : Nat} (W : Wv E h0 H w σ ρ N c0 c1 c2 c3 c4) (nw : ∀ i, i < 12 → σ i = ρ i) (hs : Sk N c0) (hm : Mp N c2) (hE : ∀ q, q ∈ E → q.1 ≠ 2)
    (q : ∀ H' σ' ρ' c2', Wv E h0 H' w σ' ρ' (r_swA N).1 c0 c1 c2' c3 c4 → (∀ i, i < 12 → σ' i = ρ' i) → (∀ i, 12 ≤ i → σ' i = σ i ∧ ρ' i = ρ i) → c2' + (r_swA N).2 = c2 → Sk (r_swA N).1 c0 → Mp (r_swA N).1 c2' → Q (some (.int (nI (r_swA N).2))) H') : CX7_serveWaiting l [.ref w] H Q X := by
  have k2 := W.1.2.2.1.2
  have eA : r_swA N = r_sw c2 0 N 0 := by
    unfold r_swA
    rw [W.1.2.2.1.1, nI_clamp (by omega)]
  rw [eA] at q
  have W0 := W.opn (k := 2) (by decide) hE
  rw [W.1.2.2.1.1] at W0
  refine eX7_serveWaiting hst (Nat.le_of_ble_eq_true rfl) (fun K hK => ?_)
  have hk : ∀ (n i s d : Nat) (M : Nat → Int32) (H' : Hp) (σ' ρ' : Nat → Nat), i + n = c2 → s + d = i → Wv ((2, nI c2) :: E) h0 H' w σ' ρ' M c0 c1 (s + n) c3 c4 → Sk M c0 → Mp M (s + n) → (∀ k, k < s → ρ' k = σ' k) → (∀ k, s ≤ k → k < s + n → ρ' k = σ' (k + d)) → (∀ k, 12 ≤ k → σ' k = σ k ∧ ρ' k = ρ k) → r_sw n s M d = r_sw c2 0 N 0 →
      ∀ L, (L = [(2, .int (nI i)), (1, .int (nI s)), (0, .ref w)] ∨ (∃ a, L = [(2, .int (nI i)), (1, .int (nI s)), (3, a), (0, .ref w)]) ∨ (∃ a, L = [(2, .int (nI i)), (3, a), (1, .int (nI s)), (0, .ref w)])) → K 4 L [] H' (0, 0) := by
    intro n
    induction n with
    | zero =>
      intro i s d M H' σ' ρ' hi hsd W' hS hM r1 r2 r3 hr L hL
      have WM := W'.mixW r1
      have e2 : M 2 = nI s := W'.1.2.2.1.1
      have fin : ∀ L : LV, lget L 0 = some (.ref w) → Q (some (.int (nI c2 - nI s))) (wI H' w 5 (nI s)) := by
        intro L _
        have W9 := WM.cls hE (a := w) (f := 5) rfl
        rw [e2] at W9
        rw [← hr] at q
        have hd : nI c2 - nI s = nI d := by rw [pk_sub (by omega), show c2 - s = d by omega]
        rw [hd]
        refine q _ _ _ s W9 (fun i hi => ?_) (fun i hi => ?_) (show s + d = c2 by omega) hS hM
        · rw [if_pos (by omega)]
        · rw [if_neg (by omega)]; exact r3 i hi
      rcases hL with hL | ⟨a, hL⟩ | ⟨a, hL⟩ <;> subst hL
      all_goals
        refine hK _ _ _ _ ?_
        refine iWCo W' (x := nI c2) ovr_at ?_
        refine And.intro (fun hcc => ?_) (fun hcc => ?_)
        · refine iWCo W' (x := nI c2) ovr_at ?_
          refine pI_of W'.k.s_w ?_
          repeat (refine And.intro (by first | assumption | rfl | exact Nat.le_of_ble_eq_true rfl | exact Nat.zero_le _ | decide) ?_)
          exact fin [(0, .ref w)] rfl
        · exact absurd (nI_le (by omega) (by omega)) hcc
    | succ n ih =>
      intro i s d M H' σ' ρ' hi hsd W' hS hM r1 r2 r3 hr L hL
      obtain ⟨p, p1, p2⟩ := W'.1.2.2.2.2.2.2.2.1 s (by omega)
      have k0 := W'.1.1.2
      have es : σ' i = ρ' s := by
        rw [r2 s (Nat.le_refl _) (by omega), hsd]
      have hpos := hM s (by omega)
      obtain ⟨n1, n2, n3, n4⟩ := serve_num W'.1 hS p1 (v := M (227 + s * 5 + 3)) (by omega)
      rw [r_sw_s, p2, nI_clamp (by omega)] at hr
      have eo : ∀ j, 191 ≤ j → (r_serve M p (M (227 + s * 5 + 3))).2 j = M j := fun j hj => r_serve_o W'.1 p1 hj
      rcases hL with hL | ⟨a, hL⟩ | ⟨a, hL⟩ <;> subst hL
      all_goals
        refine hK _ _ _ _ ?_
        refine iWCo W' (x := nI c2) ovr_at ?_
        refine And.intro (fun hcc => ?_) (fun hcc => ?_)
        · exact absurd hcc (nI_ge (by omega) (by omega))
        · refine gWaits W'.k ?_
          refine aWait W'.k rfl (show i < 12 by omega) ?_
          rw [es]
          refine iWait W' (show s < s + (n + 1) by omega) (k := 3) (by decide) ?_
          refine iWait W' (show s < s + (n + 1) by omega) (k := 1) (by decide) ?_
          refine iWait W' (show s < s + (n + 1) by omega) (k := 3) (by decide) ?_
          (repeat (refine And.intro (by first | assumption | rfl | exact Nat.le_of_ble_eq_true rfl | exact Nat.zero_le _ | decide) ?_)); refine And.intro (W'.k.s_w) ?_; (repeat (refine And.intro (by first | assumption | rfl | exact Nat.le_of_ble_eq_true rfl | exact Nat.zero_le _ | decide) ?_))
          refine d_serve hst W' p1 p2 (fun H1 W1 => ?_)
          generalize r_serve M p (M (227 + s * 5 + 3)) = r at *
          refine wWait W1 (show s < s + (n + 1) by omega) (k := 3) (by decide) (by decide) (fun H2 W2 => ?_)
          rw [sub_sub_i] at W2
          refine iWait W2 (show s < s + (n + 1) by omega) (k := 3) (by decide) ?_
          rw [pk_us]
          have S2 : Sk (upd r.2 (227 + s * 5 + 3) r.1) c0 := fun q hq => by
            rw [pk_un (by omega)]; exact n1 q hq
          refine And.intro (fun hz => ?_) (fun hz => ?_)
          · have hz0 : r.1 = 0 := i_eq0.mpr (by have := i_le0.mp hz; omega)
            rw [if_pos hz0] at hr
            have W3 := W2.fwr (s := s) (c := s + n) (by omega)
            have := ih (i + 1) s (d + 1) _ H2 σ' (fun k => ρ' (rot1 0 s k)) (by omega) (by omega) W3 (fun q hq => by
                unfold r_fw
                rw [if_neg (by omega), if_neg (by omega)]
                exact S2 q hq) (fun k hk => by
                unfold r_fw
                by_cases hks : k < s
                · rw [if_neg (by omega), if_neg (by omega), pk_un (by omega), eo _ (by omega)]
                  exact hM k (by omega)
                · rw [if_pos (by omega), pk_un (by omega), eo _ (by omega), show 227 + k * 5 + 3 + 5 = 227 + (k + 1) * 5 + 3 by omega]
                  exact hM (k + 1) (by omega)) (fun k hk => by
                have := rot1_at 0 s k
                rw [show rot1 0 s k = k by omega]
                exact r1 k hk) (fun k hk1 hk2 => by
                have := rot1_at 0 s k
                rw [show rot1 0 s k = k + 1 by omega, r2 (k + 1) (by omega) (by omega), show k + 1 + d = k + (d + 1) by omega]) (fun k hk => by
                have := rot1_at 0 s k
                rw [show rot1 0 s k = k by omega]
                exact r3 k hk) hr _ (Or.inr (Or.inr ⟨.ref (ρ' s), rfl⟩))
            rw [← nI_1 i] at this
            exact this
          · have hz1 : ¬ r.1 = 0 := fun z => hz (by rw [z]; decide)
            rw [if_neg hz1] at hr
            refine gWaits W2.k ?_
            refine gWaits W2.k ?_
            refine aWait W2.k rfl (show s < 12 by omega) ?_
            refine as_of W2.k.s_waits.2 rfl (show i < 12 by omega) (by decide) (W2.k.k_wtS (by omega)) (by have := W2.k.s_sig.1 s (by omega); have := W2.k.s_0; omega) ?_
            refine gR_of W2.k.s_w ((congrFun (wR_a _ _ (by omega)) 4).trans W2.k.s_waits.1) (by omega) ?_
            refine as_of W2.k.s_waits.2 rfl (show s < 12 by omega) (by decide) (W2.k.k_wt (by omega)) (by have := W2.k.s_rho.1 s (by omega); have := W2.k.s_0; omega) ?_
            rw [← es]
            have W3 : Wv ((2, nI c2) :: E) h0 _ w (swp σ' i s) ρ' (upd r.2 (227 + s * 5 + 3) r.1) c0 c1 (s + (n + 1)) c3 c4 := ⟨W2.1, W2.k.swW (i := i) (s := s) (by omega) (by omega), W2.2.2⟩
            have := ih (i + 1) (s + 1) d _ _ (swp σ' i s) ρ' (by omega) (by omega) (by rw [show s + 1 + n = s + (n + 1) by omega]; exact W3) S2 (fun k hk => by
                by_cases hks : k = s
                · subst hks
                  rw [pk_us]
                  have : ¬ r.1.toInt ≤ 0 := fun z => hz (i_le0.mpr z)
                  omega
                · rw [pk_un (by omega), eo _ (by omega)]
                  exact hM k (by omega)) (fun k hk => by
                by_cases hks : k = s
                · subst hks
                  unfold swp
                  rw [if_pos rfl]
                  exact es.symm
                · rw [swp_o (by omega) hks]
                  exact r1 k (by omega)) (fun k hk1 hk2 => by
                rw [swp_o (by omega) (by omega)]
                exact r2 k (by omega) (by omega)) (fun k hk => by
                rw [swp_o (by omega) (by omega)]
                exact r3 k hk) hr _ (Or.inr (Or.inl ⟨.ref (σ' i), rfl⟩))
            rw [← nI_1 i, ← nI_1 s] at this
            exact this
  exact hk c2 0 0 0 N H σ ρ (by omega) rfl (by rw [Nat.zero_add]; exact W0) hs (by rw [Nat.zero_add]; exact hm) (fun k hk => absurd hk (Nat.not_lt_zero k)) (fun k _ hk => (nw k (by omega)).symm) (fun _ _ => ⟨rfl, rfl⟩) rfl _ (Or.inl rfl)
end C9

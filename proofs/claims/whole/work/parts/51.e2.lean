section E2
def r_bkG (N : Nat → Int32) (p : Nat) (v : Int32) : Nat → Int32 :=
  let N1 := upd N (7 + p * 23 + 0) (N (7 + p * 23 + 0) + v)
  upd N1 (7 + p * 23 + 15) (N1 (7 + p * 23 + 15) + v)
def r_bkB (N : Nat → Int32) (p : Nat) (v : Int32) : Nat → Int32 :=
  let N1 := upd N (7 + p * 23 + 1) (N (7 + p * 23 + 1) + v)
  upd N1 (7 + p * 23 + 16) (N1 (7 + p * 23 + 16) + v)
/-- two numbers change -/
theorem upd2c (N : Nat → Int32) {a b : Nat} (h : a ≠ b) (v : Int32) : upd (upd N b (N b + v)) a (upd N b (N b + v) a + v) = upd (upd N a (N a + v)) b (upd N a (N a + v) b + v) := by
  funext j
  rw [pk_un h, pk_un (Ne.symm h)]
  by_cases h0 : j = a
  · subst h0
    rw [pk_us, pk_un h, pk_us]
  · rw [pk_un h0]
    by_cases h1 : j = b
    · subst h1
      rw [pk_us, pk_us]
    · rw [pk_un h1, pk_un h1, pk_un h0]
theorem bkG_at {N : Nat → Int32} {p : Nat} {v : Int32} : r_bkG N p v (7 + p * 23 + 0) = N (7 + p * 23 + 0) + v := by
  unfold r_bkG
  rw [pk_un (by omega), pk_us]
theorem bkG_o {N : Nat → Int32} {p : Nat} {v : Int32} {j : Nat} (h : j ≠ 7 + p * 23 + 0 ∧ j ≠ 7 + p * 23 + 15) : r_bkG N p v j = N j := by
  unfold r_bkG
  rw [pk_un h.2, pk_un h.1]
theorem bkB_o {N : Nat → Int32} {p : Nat} {v : Int32} {j : Nat} (h : j ≠ 7 + p * 23 + 1 ∧ j ≠ 7 + p * 23 + 16) : r_bkB N p v j = N j := by
  unfold r_bkB
  rw [pk_un h.2, pk_un h.1]
theorem d_takeBackG {l : Launch} (hst : l.stackTraces = false) {Q : Option Value → Hp → Prop} {X : String → Hp → Prop} {h0 H : Hp} {w : Nat} {σ ρ : Nat → Nat} {N : Nat → Int32} {c0 c1 c2 c3 c4 : Nat} (W : Wv [] h0 H w σ ρ N c0 c1 c2 c3 c4) (nn : ∀ k, k < 36 → σ k = ρ k) {p : Nat} {P v g : Int32} (hg : ¬ g = 0) (hP : P = nI p) (hp : p < c0) (hs : Sk (r_bkG N p v) c0) (hm : Mp N c2) (q : ∀ H' σ' ρ' c2', Wv [] h0 H' w σ' ρ' (r_swA (r_bkG N p v)).1 c0 c1 c2' c3 c4 → (∀ k, k < 36 → σ' k = ρ' k) → Q (some (.int (nI (r_swA (r_bkG N p v)).2))) H') : CX7_takeBack l [.ref w, .int P, .int v, .int g] H Q X := by
  subst hP
  have k0 := W.1.1.2
  have eB : upd (upd N (7 + p * 23 + (13 + 2)) (N (7 + p * 23 + (13 + 2)) + v)) (7 + p * 23 + 0) (upd N (7 + p * 23 + (13 + 2)) (N (7 + p * 23 + (13 + 2)) + v) (7 + p * 23 + 0) + v) = r_bkG N p v := upd2c N (a := 7 + p * 23 + 0) (b := 7 + p * 23 + (13 + 2)) (by omega) v
  refine eX7_takeBack hst (Nat.le_of_ble_eq_true rfl) (fun K => ?_)
  refine gParts W.k ?_
  refine aPart W.k rfl (W.p8 hp) ?_
  refine And.intro (fun z => absurd z hg) (fun _ => ?_)
  refine gMovs W.k (W.p8 hp) ?_
  refine iMov W hp (k := 2) (by decide) rfl ?_
  refine wMov W hp (k := 2) (by decide) rfl (fun H1 W1 => ?_)
  (repeat (refine And.intro (by first | assumption | rfl | exact Nat.le_of_ble_eq_true rfl | exact Nat.zero_le _ | decide) ?_)); refine And.intro (W1.k.s_w) ?_; (repeat (refine And.intro (by first | assumption | rfl | exact Nat.le_of_ble_eq_true rfl | exact Nat.zero_le _ | decide) ?_))
  refine d_comeIn hst W1 (W.nrm nn).1 rfl hp (by rw [eB]; exact hs) (fun i hi => ?_) (fun q hq => absurd hq List.not_mem_nil) (fun H2 σ2 ρ2 c22 W2 m1 m2 m3 m4 m5 => ?_)
  · rw [pk_un (by omega)]; exact hm i hi
  · rw [eB] at W2 m3 ⊢
    repeat (refine And.intro (by first | assumption | rfl | exact Nat.le_of_ble_eq_true rfl | exact Nat.zero_le _ | decide) ?_)
    refine q H2 σ2 ρ2 c22 W2 (fun k hk => ?_)
    by_cases z : k < 12
    · exact m1 k z
    · rw [(m2 k (by omega)).1, (m2 k (by omega)).2]; exact nn k hk
theorem d_takeBackB {l : Launch} (hst : l.stackTraces = false) {Q : Option Value → Hp → Prop} {X : String → Hp → Prop} {h0 H : Hp} {w : Nat} {σ ρ : Nat → Nat} {N : Nat → Int32} {c0 c1 c2 c3 c4 : Nat} (W : Wv [] h0 H w σ ρ N c0 c1 c2 c3 c4) {p : Nat} {P v : Int32} (hP : P = nI p) (hp : p < c0) (q : ∀ H', Wv [] h0 H' w σ ρ (r_bkB N p v) c0 c1 c2 c3 c4 → Q (some (.int 0)) H') : CX7_takeBack l [.ref w, .int P, .int v, .int 0] H Q X := by
  subst hP
  have k0 := W.1.1.2
  have eB : upd (upd N (7 + p * 23 + (13 + 3)) (N (7 + p * 23 + (13 + 3)) + v)) (7 + p * 23 + 1) (upd N (7 + p * 23 + (13 + 3)) (N (7 + p * 23 + (13 + 3)) + v) (7 + p * 23 + 1) + v) = r_bkB N p v := upd2c N (a := 7 + p * 23 + 1) (b := 7 + p * 23 + (13 + 3)) (by omega) v
  refine eX7_takeBack hst (Nat.le_of_ble_eq_true rfl) (fun K => ?_)
  refine gParts W.k ?_
  refine aPart W.k rfl (W.p8 hp) ?_
  refine And.intro (fun _ => ?_) (fun z => absurd rfl z)
  refine gMovs W.k (W.p8 hp) ?_
  refine iMov W hp (k := 3) (by decide) rfl ?_
  refine wMov W hp (k := 3) (by decide) rfl (fun H1 W1 => ?_)
  refine iPart W1 hp (k := 1) (by decide) ?_
  refine wPart W1 hp (k := 1) (by decide) (fun H2 W2 => ?_)
  rw [eB] at W2
  repeat (refine And.intro (by first | assumption | rfl | exact Nat.le_of_ble_eq_true rfl | exact Nat.zero_le _ | decide) ?_)
  exact q H2 W2
/-- the references to the requests from i on go down one place, n of them -/
def shW (H : Hp) (w : Nat) (σ : Nat → Nat) (i : Nat) : Nat → Hp
  | 0 => H
  | n + 1 => wR (shW H w σ i n) (w + 3) (i + n) (σ (i + n + 1))
theorem shW_s (H : Hp) (w : Nat) (σ : Nat → Nat) (i : Nat) : ∀ n, hs (shW H w σ i n) = hs H
  | 0 => rfl
  | n + 1 => shW_s H w σ i n
theorem shW_I (H : Hp) (w : Nat) (σ : Nat → Nat) (i : Nat) : ∀ n, hI (shW H w σ i n) = hI H
  | 0 => rfl
  | n + 1 => shW_I H w σ i n
theorem shW_a (H : Hp) (w : Nat) (σ : Nat → Nat) (i : Nat) {a : Nat} (h : a ≠ w + 3) : ∀ n, hR (shW H w σ i n) a = hR H a
  | 0 => rfl
  | n + 1 => (wR_a _ _ h).trans (shW_a H w σ i h n)
theorem shW_k (H : Hp) (w : Nat) (σ : Nat → Nat) (i : Nat) (k : Nat) : ∀ n, hR (shW H w σ i n) (w + 3) k = if i ≤ k ∧ k < i + n then σ (k + 1) else hR H (w + 3) k
  | 0 => by rw [if_neg (by omega)]; rfl
  | n + 1 => by
    by_cases h : k = i + n
    · subst h
      rw [if_pos (by omega)]
      exact wR_s _ _ _ _
    · refine (wR_k _ _ h).trans ?_
      rw [shW_k H w σ i k n]
      by_cases h2 : i ≤ k ∧ k < i + n
      · rw [if_pos h2, if_pos (by omega)]
      · rw [if_neg h2, if_neg (by omega)]
theorem shW_fr {h0 H : Hp} {w : Nat} {σ : Nat → Nat} {i : Nat} (h : Fr w h0 H) : ∀ n, Fr w h0 (shW H w σ i n)
  | 0 => h
  | n + 1 => (shW_fr h n).wR (by omega) (by omega)
/-- the places from i to c turn by one -/
def sigT (σ : Nat → Nat) (i c : Nat) : Nat → Nat := fun k => if i ≤ k ∧ k < c then σ (k + 1) else if k = c then σ i else σ k
theorem sigT_at (σ : Nat → Nat) (i c k : Nat) (h : i ≤ c) : ∃ z, sigT σ i c k = σ z ∧ ((i ≤ k ∧ k < c ∧ z = k + 1) ∨ (k = c ∧ z = i) ∨ (k < i ∧ z = k) ∨ (c < k ∧ z = k)) := by
  unfold sigT
  by_cases h1 : i ≤ k ∧ k < c
  · exact ⟨k + 1, if_pos h1, Or.inl ⟨h1.1, h1.2, rfl⟩⟩
  · by_cases h2 : k = c
    · exact ⟨i, by rw [if_neg h1, if_pos h2], Or.inr (Or.inl ⟨h2, rfl⟩)⟩
    · exact ⟨k, by rw [if_neg h1, if_neg h2], by omega⟩
theorem RhoOk.sigT {w : Nat} {σ : Nat → Nat} (h : RhoOk w σ) {i c : Nat} (hi : i ≤ c) (hc : c < 12) : RhoOk w (sigT σ i c) := by
  refine ⟨fun k hk => ?_, fun k hk => ?_, fun k hk => ?_, fun k j hk hj e => ?_⟩
  · obtain ⟨z, e, hz⟩ := sigT_at σ i c k hi
    rw [e]; exact h.1 z (by omega)
  · obtain ⟨z, e, hz⟩ := sigT_at σ i c (12 + k) hi
    rw [e, show z = 12 + k by omega]; exact h.2.1 k hk
  · obtain ⟨z, e, hz⟩ := sigT_at σ i c (24 + k) hi
    rw [e, show z = 24 + k by omega]; exact h.2.2.1 k hk
  · obtain ⟨z, e1, hz⟩ := sigT_at σ i c k hi
    obtain ⟨y, e2, hy⟩ := sigT_at σ i c j hi
    rw [e1, e2] at e
    have := h.inj (by omega) (by omega) e
    omega
theorem d_removeWaiting {l : Launch} (hst : l.stackTraces = false) {Q : Option Value → Hp → Prop} {X : String → Hp → Prop} {h0 H : Hp} {w : Nat} {σ ρ : Nat → Nat} {N : Nat → Int32} {c0 c1 c c3 c4 : Nat} (W : Wv [] h0 H w σ ρ N c0 c1 (c + 1) c3 c4) (nn : ∀ k, k < 36 → σ k = ρ k) {i : Nat} {P : Int32} (hP : P = nI i) (hi : i < c + 1) (q : ∀ H' σ' ρ', Wv [] h0 H' w σ' ρ' (r_fw N i c) c0 c1 c c3 c4 → (∀ k, k < 36 → σ' k = ρ' k) → Q (some (.int (N (227 + i * 5 + 3)))) H') : CX7_removeWaiting l [.ref w, .int P] H Q X := by
  subst hP
  have k2 := W.1.2.2.1.2
  have s0 := W.k.s_0
  have ei : hI H (σ i) 3 = N (227 + i * 5 + 3) := by
    rw [nn i (by omega)]
    exact W.ld (by omega) (loc_wait w ρ i 3 (by omega) (by decide)) (v_wait hi (by decide)) (by omega)
  have sW := W.k.s_w
  have sA := W.k.s_waits
  -- the row is out
  have W1 := Wv.fwr (s := i) (c := c) (W.opn (k := 2) (by decide) (fun q hq => absurd hq List.not_mem_nil)) hi
  have eC : hI H w 5 = nI (c + 1) := by rw [← W.1.2.2.1.1]; exact W.k.ld (by decide) rfl (Or.inl (by decide))
  have R0 := W.k.s_sig.sigT (i := i) (c := c) (by omega) (by omega)
  have eT : ∀ k, k < c → ρ (rot1 0 i k) = sigT σ i c k := fun k hk => by
    have := rot1_at 0 i k
    unfold sigT
    by_cases h : i ≤ k
    · rw [if_pos ⟨h, hk⟩, show rot1 0 i k = k + 1 by omega, nn (k + 1) (by omega)]
    · rw [if_neg (by omega), if_neg (by omega), show rot1 0 i k = k by omega, nn k (by omega)]
  have WA : Wv ((2, N 2) :: []) h0 (wR (shW H w σ i (c - i)) (w + 3) c (σ i)) w (sigT σ i c) (fun k => ρ (rot1 0 i k)) (r_fw N i c) c0 c1 c c3 c4 := by
    refine ⟨W1.1, ⟨(shW_fr W1.k.1 _).wR (by omega) (by omega), ?_, W1.k.2.2.1, fun j hj hv => ?_⟩, W1.2.2⟩
    · refine W1.k.2.1.refs (shW_s H w σ i _) (fun a h1 _ _ => (wR_a _ _ h1).trans (shW_a H w σ i h1 _)) R0 (fun k hk => ?_) (fun k hk => ?_) (fun k hk => ?_)
      · by_cases h : k = c
        · subst h
          rw [wR_s]
          unfold sigT
          rw [if_neg (by omega), if_pos rfl]
        · rw [wR_k _ _ h, shW_k]
          unfold sigT
          by_cases h2 : i ≤ k ∧ k < c
          · rw [if_pos (by omega), if_pos h2]
          · rw [if_neg (by omega), if_neg h2, if_neg h]
            exact W.k.s_wt k hk
      · rw [wR_a _ _ (by omega), shW_a H w σ i (by omega)]
        obtain ⟨z, e, hz⟩ := sigT_at σ i c (12 + k) (by omega)
        rw [e, show z = 12 + k by omega]
        exact W.k.s_rp k hk
      · rw [wR_a _ _ (by omega), shW_a H w σ i (by omega)]
        obtain ⟨z, e, hz⟩ := sigT_at σ i c (24 + k) (by omega)
        rw [e, show z = 24 + k by omega]
        exact W.k.s_od k hk
    · have := W1.k.2.2.2 j hj hv
      show hI (shW H w σ i (c - i)) _ _ = _
      rw [shW_I]
      exact this
  have e2 : r_fw N i c 2 = nI c := by
    unfold r_fw
    rw [if_neg (by omega), if_pos rfl]
  have WC := (WA.mixW eT).cls (fun q hq => absurd hq List.not_mem_nil) (a := w) (f := 5) rfl
  rw [e2] at WC
  refine eX7_removeWaiting hst (Nat.le_of_ble_eq_true rfl) (fun K hK => ?_)
  have hk : ∀ n m, m + n = c - i → K 11 [(3, .int (nI (i + 1 + m))), (2, .ref (σ i)), (0, .ref w), (1, .int (nI i))] [] (shW H w σ i m) (0, 0) := by
    intro n
    induction n with
    | zero =>
      intro m hm
      have em : m = c - i := by omega
      subst em
      refine hK _ _ _ _ ?_
      refine gI_of (x := nI (c + 1)) ((congrFun (shW_s H w σ i _) w).trans sW) ((congrFun (congrFun (shW_I H w σ i _) w) 5).trans eC) ?_
      refine And.intro (fun hcc => ?_) (fun hcc => ?_)
      · refine gI_of (x := nI (c + 1)) ((congrFun (shW_s H w σ i _) w).trans sW) ((congrFun (congrFun (shW_I H w σ i _) w) 5).trans eC) ?_
        refine pI_of ((congrFun (shW_s H w σ i _) w).trans sW) ?_
        refine gR_of (r := w + 3) ((congrFun (shW_s H w σ i (c - i)) w).trans sW) ((congrFun (shW_a H w σ i (by omega) (c - i)) 4).trans sA.1) (by omega) ?_
        refine gI_of (x := nI c) ((congrFun (shW_s H w σ i (c - i)) w).trans sW) (by
          show (if w = w then (if 5 = 5 then _ else _) else _) = _
          rw [if_pos rfl, if_pos rfl]; exact nI_pred c) ?_
        refine as_of ((congrFun (shW_s H w σ i (c - i)) (w + 3)).trans sA.2) rfl (show c < 12 by omega) (by decide) ((congrFun (shW_s H w σ i (c - i)) (σ i)).trans (W.k.k_wtS (by omega))) (by have := W.k.s_sig.1 i (by omega); omega) ?_
        refine gI_of (x := N (227 + i * 5 + 3)) ((congrFun (shW_s H w σ i (c - i)) (σ i)).trans (W.k.k_wtS (by omega))) (by
          have := W.k.s_sig.1 i (by omega)
          show hI (wI (shW H w σ i (c - i)) w 5 _) (σ i) 3 = _
          rw [(ag_wI (show σ i ≠ w by omega)).2.1, shW_I]
          exact ei) ?_
        repeat (refine And.intro (by first | assumption | rfl | exact Nat.le_of_ble_eq_true rfl | exact Nat.zero_le _ | decide) ?_)
        have ep : nI (c + 1) - 1 = nI c := nI_pred c
        rw [ep]
        refine q _ (sigT σ i c) _ WC (fun k hk => ?_)
        by_cases h : k < 12
        · rw [if_pos (by omega)]
        · rw [if_neg (by omega)]
          have := rot1_at 0 i k
          obtain ⟨z, e, hz⟩ := sigT_at σ i c k (by omega)
          rw [e, show z = k by omega, show rot1 0 i k = k by omega]
          exact nn k hk
      · exact absurd (nI_le (show c + 1 ≤ i + 1 + (c - i) by omega) (by omega)) hcc
    | succ n ih =>
      intro m hm
      refine hK _ _ _ _ ?_
      refine gI_of (x := nI (c + 1)) ((congrFun (shW_s H w σ i _) w).trans sW) ((congrFun (congrFun (shW_I H w σ i _) w) 5).trans eC) ?_
      refine And.intro (fun hcc => ?_) (fun hcc => ?_)
      · exact absurd hcc (nI_ge (by omega) (by omega))
      · refine gR_of (r := w + 3) ((congrFun (shW_s H w σ i m) w).trans sW) ((congrFun (shW_a H w σ i (by omega) m) 4).trans sA.1) (by omega) ?_
        refine gR_of (r := w + 3) ((congrFun (shW_s H w σ i m) w).trans sW) ((congrFun (shW_a H w σ i (by omega) m) 4).trans sA.1) (by omega) ?_
        refine aa_of (j := i + 1 + m) (r := σ (i + 1 + m)) ((congrFun (shW_s H w σ i m) (w + 3)).trans sA.2) rfl (by omega) (by decide) ((shW_k H w σ i (i + 1 + m) m).trans ((if_neg (by omega)).trans (W.k.s_wt (i + 1 + m) (by omega)))) (by have := W.k.s_sig.1 (i + 1 + m) (by omega); omega) ?_
        refine as_of (j := i + m) ((congrFun (shW_s H w σ i m) (w + 3)).trans sA.2) (by rw [show i + 1 + m = i + m + 1 by omega]; exact nI_pred (i + m)) (by omega) (by decide) ((congrFun (shW_s H w σ i m) (σ (i + 1 + m))).trans (W.k.k_wtS (by omega))) (by have := W.k.s_sig.1 (i + 1 + m) (by omega); omega) ?_
        have := ih (m + 1) (by omega)
        rw [show i + 1 + (m + 1) = i + 1 + m + 1 by omega, ← nI_1 (i + 1 + m)] at this
        rw [show i + 1 + m = i + m + 1 by omega] at this ⊢
        exact this
  refine gR_of sW sA.1 (by omega) ?_
  refine aWait W.k rfl (show i < 12 by omega) ?_
  have := hk (c - i) 0 (by omega)
  rw [Nat.add_zero, ← nI_1 i] at this
  exact this
end E2

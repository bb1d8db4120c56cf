section E4
theorem upd_self (f : Nat → Int32) (k : Nat) : upd f k (f k) = f := funext fun j => by
  by_cases e : j = k
  · subst e; exact pk_us
  · exact pk_un e
theorem yPart {h0 H : Hp} {w : Nat} {σ ρ : Nat → Nat} {N : Nat → Int32} {V : Nat → Prop} (W : Wk h0 H w σ ρ N V) {p k : Nat} (hp : p < 8) (hk : k < 8) {x : Int32} (hx : x = N (7 + p * 23 + k)) {f : FT} {L : LV} {St : List Value} {u : Nat × Nat} (q : ∀ H', Wk h0 H' w σ ρ N (fun z => V z ∨ z = 7 + p * 23 + k) → f L St H' u) : o_pI 3 13 k f L (.int x :: .ref (w + 32 + 3 * p) :: St) H u := xPart W hp hk (fun H' W' => q H' (by rw [hx, upd_self] at W'; exact W'))
theorem ySC {h0 H : Hp} {w : Nat} {σ ρ : Nat → Nat} {N : Nat → Int32} {V : Nat → Prop} (W : Wk h0 H w σ ρ N V) {p : Nat} (hp : p < 8) {x : Int32} (hx : x = N (7 + p * 23 + 8)) {f : FT} {L : LV} {St : List Value} {u : Nat × Nat} (q : ∀ H', Wk h0 H' w σ ρ N (fun z => V z ∨ z = 7 + p * 23 + 8) → f L St H' u) : o_pI 3 13 10 f L (.int x :: .ref (w + 32 + 3 * p) :: St) H u := xSC W hp (fun H' W' => q H' (by rw [hx, upd_self] at W'; exact W'))
theorem yRqd {h0 H : Hp} {w : Nat} {σ ρ : Nat → Nat} {N : Nat → Int32} {V : Nat → Prop} (W : Wk h0 H w σ ρ N V) {p : Nat} (hp : p < 8) {x : Int32} (hx : x = N (7 + p * 23 + 21)) {f : FT} {L : LV} {St : List Value} {u : Nat × Nat} (q : ∀ H', Wk h0 H' w σ ρ N (fun z => V z ∨ z = 7 + p * 23 + 21) → f L St H' u) : o_pI 3 13 8 f L (.int x :: .ref (w + 32 + 3 * p) :: St) H u := xRqd W hp (fun H' W' => q H' (by rw [hx, upd_self] at W'; exact W'))
theorem ySrv {h0 H : Hp} {w : Nat} {σ ρ : Nat → Nat} {N : Nat → Int32} {V : Nat → Prop} (W : Wk h0 H w σ ρ N V) {p : Nat} (hp : p < 8) {x : Int32} (hx : x = N (7 + p * 23 + 22)) {f : FT} {L : LV} {St : List Value} {u : Nat × Nat} (q : ∀ H', Wk h0 H' w σ ρ N (fun z => V z ∨ z = 7 + p * 23 + 22) → f L St H' u) : o_pI 3 13 9 f L (.int x :: .ref (w + 32 + 3 * p) :: St) H u := xSrv W hp (fun H' W' => q H' (by rw [hx, upd_self] at W'; exact W'))
theorem yPC {h0 H : Hp} {w : Nat} {σ ρ : Nat → Nat} {N : Nat → Int32} {V : Nat → Prop} (W : Wk h0 H w σ ρ N V)  {x : Int32} (hx : x = N (0)) {f : FT} {L : LV} {St : List Value} {u : Nat × Nat} (q : ∀ H', Wk h0 H' w σ ρ N (fun z => V z ∨ z = 0) → f L St H' u) : o_pI 7 10 1 f L (.int x :: .ref (w) :: St) H u := xPC W  (fun H' W' => q H' (by rw [hx, upd_self] at W'; exact W'))
theorem yKC {h0 H : Hp} {w : Nat} {σ ρ : Nat → Nat} {N : Nat → Int32} {V : Nat → Prop} (W : Wk h0 H w σ ρ N V)  {x : Int32} (hx : x = N (1)) {f : FT} {L : LV} {St : List Value} {u : Nat × Nat} (q : ∀ H', Wk h0 H' w σ ρ N (fun z => V z ∨ z = 1) → f L St H' u) : o_pI 7 10 3 f L (.int x :: .ref (w) :: St) H u := xKC W  (fun H' W' => q H' (by rw [hx, upd_self] at W'; exact W'))
theorem yWC {h0 H : Hp} {w : Nat} {σ ρ : Nat → Nat} {N : Nat → Int32} {V : Nat → Prop} (W : Wk h0 H w σ ρ N V)  {x : Int32} (hx : x = N (2)) {f : FT} {L : LV} {St : List Value} {u : Nat × Nat} (q : ∀ H', Wk h0 H' w σ ρ N (fun z => V z ∨ z = 2) → f L St H' u) : o_pI 7 10 5 f L (.int x :: .ref (w) :: St) H u := xWC W  (fun H' W' => q H' (by rw [hx, upd_self] at W'; exact W'))
theorem yDay {h0 H : Hp} {w : Nat} {σ ρ : Nat → Nat} {N : Nat → Int32} {V : Nat → Prop} (W : Wk h0 H w σ ρ N V)  {x : Int32} (hx : x = N (5)) {f : FT} {L : LV} {St : List Value} {u : Nat × Nat} (q : ∀ H', Wk h0 H' w σ ρ N (fun z => V z ∨ z = 5) → f L St H' u) : o_pI 7 10 9 f L (.int x :: .ref (w) :: St) H u := xDay W  (fun H' W' => q H' (by rw [hx, upd_self] at W'; exact W'))
theorem yRQ {h0 H : Hp} {w : Nat} {σ ρ : Nat → Nat} {N : Nat → Int32} {V : Nat → Prop} (W : Wk h0 H w σ ρ N V)  {x : Int32} (hx : x = N (6)) {f : FT} {L : LV} {St : List Value} {u : Nat × Nat} (q : ∀ H', Wk h0 H' w σ ρ N (fun z => V z ∨ z = 6) → f L St H' u) : o_pI 7 10 6 f L (.int x :: .ref (w) :: St) H u := xRQ W  (fun H' W' => q H' (by rw [hx, upd_self] at W'; exact W'))
theorem yRS {h0 H : Hp} {w : Nat} {σ ρ : Nat → Nat} {N : Nat → Int32} {V : Nat → Prop} (W : Wk h0 H w σ ρ N V)  {x : Int32} (hx : x = N (3)) {f : FT} {L : LV} {St : List Value} {u : Nat × Nat} (q : ∀ H', Wk h0 H' w σ ρ N (fun z => V z ∨ z = 3) → f L St H' u) : o_pI 1 2 1 f L (.int x :: .ref (w + 4) :: St) H u := xRS W  (fun H' W' => q H' (by rw [hx, upd_self] at W'; exact W'))
theorem yOS {h0 H : Hp} {w : Nat} {σ ρ : Nat → Nat} {N : Nat → Int32} {V : Nat → Prop} (W : Wk h0 H w σ ρ N V)  {x : Int32} (hx : x = N (4)) {f : FT} {L : LV} {St : List Value} {u : Nat × Nat} (q : ∀ H', Wk h0 H' w σ ρ N (fun z => V z ∨ z = 4) → f L St H' u) : o_pI 1 2 1 f L (.int x :: .ref (w + 18) :: St) H u := xOS W  (fun H' W' => q H' (by rw [hx, upd_self] at W'; exact W'))
theorem yKitC {h0 H : Hp} {w : Nat} {σ ρ : Nat → Nat} {N : Nat → Int32} {V : Nat → Prop} (W : Wk h0 H w σ ρ N V) {k : Nat} (hk : k < 4) {x : Int32} (hx : x = N (191 + k * 9)) {f : FT} {L : LV} {St : List Value} {u : Nat × Nat} (q : ∀ H', Wk h0 H' w σ ρ N (fun z => V z ∨ z = 191 + k * 9) → f L St H' u) : o_pI 2 3 0 f L (.int x :: .ref (w + 56 + 3 * k) :: St) H u := xKitC W hk (fun H' W' => q H' (by rw [hx, upd_self] at W'; exact W'))
theorem yWait {h0 H : Hp} {w : Nat} {σ ρ : Nat → Nat} {N : Nat → Int32} {V : Nat → Prop} (W : Wk h0 H w σ ρ N V) {i k : Nat} (hi : i < 12) (hk : k < 5) {x : Int32} (hx : x = N (227 + i * 5 + k)) {f : FT} {L : LV} {St : List Value} {u : Nat × Nat} (q : ∀ H', Wk h0 H' w σ ρ N (fun z => V z ∨ z = 227 + i * 5 + k) → f L St H' u) : o_pI 6 5 k f L (.int x :: .ref (ρ i) :: St) H u := xWait W hi hk (fun H' W' => q H' (by rw [hx, upd_self] at W'; exact W'))
theorem yRep {h0 H : Hp} {w : Nat} {σ ρ : Nat → Nat} {N : Nat → Int32} {V : Nat → Prop} (W : Wk h0 H w σ ρ N V) {i k : Nat} (hi : i < 12) (hk : k < 3) {x : Int32} (hx : x = N (287 + i * 3 + k)) {f : FT} {L : LV} {St : List Value} {u : Nat × Nat} (q : ∀ H', Wk h0 H' w σ ρ N (fun z => V z ∨ z = 287 + i * 3 + k) → f L St H' u) : o_pI 0 3 k f L (.int x :: .ref (ρ (12 + i)) :: St) H u := xRep W hi hk (fun H' W' => q H' (by rw [hx, upd_self] at W'; exact W'))
theorem yOrd {h0 H : Hp} {w : Nat} {σ ρ : Nat → Nat} {N : Nat → Int32} {V : Nat → Prop} (W : Wk h0 H w σ ρ N V) {i k : Nat} (hi : i < 12) (hk : k < 3) {x : Int32} (hx : x = N (323 + i * 3 + k)) {f : FT} {L : LV} {St : List Value} {u : Nat × Nat} (q : ∀ H', Wk h0 H' w σ ρ N (fun z => V z ∨ z = 323 + i * 3 + k) → f L St H' u) : o_pI 0 3 k f L (.int x :: .ref (ρ (24 + i)) :: St) H u := xOrd W hi hk (fun H' W' => q H' (by rw [hx, upd_self] at W'; exact W'))
theorem ySub {h0 H : Hp} {w : Nat} {σ ρ : Nat → Nat} {N : Nat → Int32} {V : Nat → Prop} (W : Wk h0 H w σ ρ N V) {p k : Nat} (hp : p < 8) (hk : k < 4) {i x : Int32} (hi : i = nI k) (hx : x = N (7 + p * 23 + (9 + k))) {f : FT} {L : LV} {St : List Value} {u : Nat × Nat} (q : ∀ H', Wk h0 H' w σ ρ N (fun z => V z ∨ z = 7 + p * 23 + (9 + k)) → f L St H' u) : o_iastore f L (.int x :: .int i :: .ref (w + 33 + 3 * p) :: St) H u := xSub W hp hk hi (fun H' W' => q H' (by rw [hx, upd_self] at W'; exact W'))
theorem yMov {h0 H : Hp} {w : Nat} {σ ρ : Nat → Nat} {N : Nat → Int32} {V : Nat → Prop} (W : Wk h0 H w σ ρ N V) {p k : Nat} (hp : p < 8) (hk : k < 8) {i x : Int32} (hi : i = nI k) (hx : x = N (7 + p * 23 + (13 + k))) {f : FT} {L : LV} {St : List Value} {u : Nat × Nat} (q : ∀ H', Wk h0 H' w σ ρ N (fun z => V z ∨ z = 7 + p * 23 + (13 + k)) → f L St H' u) : o_iastore f L (.int x :: .int i :: .ref (w + 34 + 3 * p) :: St) H u := xMov W hp hk hi (fun H' W' => q H' (by rw [hx, upd_self] at W'; exact W'))
theorem yKP {h0 H : Hp} {w : Nat} {σ ρ : Nat → Nat} {N : Nat → Int32} {V : Nat → Prop} (W : Wk h0 H w σ ρ N V) {p k : Nat} (hp : p < 4) (hk : k < 4) {i x : Int32} (hi : i = nI k) (hx : x = N (191 + p * 9 + 1 + 2 * k + 0)) {f : FT} {L : LV} {St : List Value} {u : Nat × Nat} (q : ∀ H', Wk h0 H' w σ ρ N (fun z => V z ∨ z = 191 + p * 9 + 1 + 2 * k + 0) → f L St H' u) : o_iastore f L (.int x :: .int i :: .ref (w + 57 + 3 * p) :: St) H u := xKP W hp hk hi (fun H' W' => q H' (by rw [hx, upd_self] at W'; exact W'))
theorem yKQ {h0 H : Hp} {w : Nat} {σ ρ : Nat → Nat} {N : Nat → Int32} {V : Nat → Prop} (W : Wk h0 H w σ ρ N V) {p k : Nat} (hp : p < 4) (hk : k < 4) {i x : Int32} (hi : i = nI k) (hx : x = N (191 + p * 9 + 1 + 2 * k + 1)) {f : FT} {L : LV} {St : List Value} {u : Nat × Nat} (q : ∀ H', Wk h0 H' w σ ρ N (fun z => V z ∨ z = 191 + p * 9 + 1 + 2 * k + 1) → f L St H' u) : o_iastore f L (.int x :: .int i :: .ref (w + 58 + 3 * p) :: St) H u := xKQ W hp hk hi (fun H' W' => q H' (by rw [hx, upd_self] at W'; exact W'))
theorem place_none {N : Nat → Int32} {p : Nat} {o : Int32} : ∀ c, (∀ j, j < c → N (7 + p * 23 + (9 + j)) ≠ o) → s_place N p o c = -1
  | 0, _ => rfl
  | c + 1, h => by
    show (if _ = _ then _ else _) = _
    rw [if_neg (h c (by omega))]
    exact place_none c (fun j hj => h j (by omega))
theorem place_at {N : Nat → Int32} {p i : Nat} {o : Int32} (e : N (7 + p * 23 + (9 + i)) = o) : ∀ c, i < c → (∀ j, i < j → j < c → N (7 + p * 23 + (9 + j)) ≠ o) → s_place N p o c = nI i
  | 0, h, _ => absurd h (Nat.not_lt_zero i)
  | c + 1, h, h2 => by
    show (if _ = _ then _ else _) = _
    by_cases z : i = c
    · subst z
      rw [if_pos e]
    · rw [if_neg (h2 c (by omega) (by omega))]
      exact place_at e c (by omega) (fun j h3 h4 => h2 j h3 (by omega))
theorem d_indexOf {l : Launch} (hst : l.stackTraces = false) {Q : Option Value → Hp → Prop} {X : String → Hp → Prop} {h0 H : Hp} {w : Nat} {σ ρ : Nat → Nat} {N : Nat → Int32} {c0 c1 c2 c3 c4 : Nat} (W : Wv [] h0 H w σ ρ N c0 c1 c2 c3 c4) {p c : Nat} (hp : p < c0) (hc : N (7 + p * 23 + 8) = nI c) (c4' : c ≤ 4) (hd : ∀ i j, i < j → j < c → N (7 + p * 23 + (9 + i)) ≠ N (7 + p * 23 + (9 + j))) {o : Int32} (q : Q (some (.int (s_place N p o c))) H) : CX3_indexOf l [.ref (w + 32 + 3 * p), .int o] H Q X := by
  refine eX3_indexOf hst (Nat.le_of_ble_eq_true rfl) (fun K hK => ?_)
  have p8 := W.p8 hp
  have hk : ∀ (n i : Nat), i + n = c → (∀ j, j < i → N (7 + p * 23 + (9 + j)) ≠ o) → K 2 [(2, .int (nI i)), (0, .ref (w + 32 + 3 * p)), (1, .int o)] [] H (0, 0) := by
    intro n
    induction n with
    | zero =>
      intro i hi hno
      refine hK _ _ _ _ ?_
      refine iSC W hp ?_
      rw [hc]
      refine And.intro (fun hcc => ?_) (fun hcc => ?_)
      · repeat (refine And.intro (by first | assumption | rfl | exact Nat.le_of_ble_eq_true rfl | exact Nat.zero_le _ | decide) ?_)
        rw [place_none c (fun j hj => hno j (by omega))] at q
        exact q
      · exact absurd (nI_le (by omega) (by omega)) hcc
    | succ n ih =>
      intro i hi hno
      refine hK _ _ _ _ ?_
      refine iSC W hp ?_
      rw [hc]
      refine And.intro (fun hcc => ?_) (fun hcc => ?_)
      · exact absurd hcc (nI_ge (by omega) (by omega))
      · refine gSubs W.k p8 ?_
        refine iSub W hp hc c4' (show i < c by omega) rfl ?_
        refine And.intro (fun heq => ?_) (fun heq => ?_)
        · have := ih (i + 1) (by omega) (fun j hj => by
            by_cases z : j = i
            · subst z; exact heq
            · exact hno j (by omega))
          rw [← nI_1 i] at this
          exact this
        · repeat (refine And.intro (by first | assumption | rfl | exact Nat.le_of_ble_eq_true rfl | exact Nat.zero_le _ | decide) ?_)
          rw [place_at heq c (by omega) (fun j h1 h2 => fun z => hd i j h1 h2 (heq.trans z.symm))] at q
          exact q
  exact hk c 0 (by omega) (fun j hj => absurd hj (Nat.not_lt_zero j))
theorem d_makeEmpty {l : Launch} (hst : l.stackTraces = false) {Q : Option Value → Hp → Prop} {X : String → Hp → Prop} {h0 H : Hp} {w : Nat} {σ ρ : Nat → Nat} {N : Nat → Int32} {V : Nat → Prop} (W : Wk h0 H w σ ρ N V) (q : ∀ H', Wv [] h0 H' w σ ρ (fun _ => 0) 0 0 0 0 0 → Q none H') : CX7_makeEmpty l [.ref w] H Q X := by
  have W0 : Wk h0 H w σ ρ (fun _ => (0 : Int32)) (fun _ => False) := W.to (fun j _ hv => hv.elim)
  refine eX7_makeEmpty hst (Nat.le_of_ble_eq_true rfl) (fun K => ?_)
  refine yPC W0 rfl (fun H1 W1 => ?_)
  refine yKC W1 rfl (fun H2 W2 => ?_)
  refine yWC W2 rfl (fun H3 W3 => ?_)
  refine yRQ W3 rfl (fun H4 W4 => ?_)
  refine gReps W4 ?_
  refine yRS W4 rfl (fun H5 W5 => ?_)
  refine gOrds W5 ?_
  refine yOS W5 rfl (fun H6 W6 => ?_)
  refine yDay W6 rfl (fun H7 W7 => ?_)
  repeat (refine And.intro (by first | assumption | rfl | exact Nat.le_of_ble_eq_true rfl | exact Nat.zero_le _ | decide) ?_)
  refine q H7 ⟨⟨⟨rfl, by decide⟩, ⟨rfl, by decide⟩, ⟨rfl, by decide⟩, ⟨rfl, by decide⟩, ⟨rfl, by decide⟩, fun p hp => absurd hp (Nat.not_lt_zero p), fun p hp => absurd hp (Nat.not_lt_zero p), fun p hp => absurd hp (Nat.not_lt_zero p), fun p hp => absurd hp (Nat.not_lt_zero p), fun p hp => absurd hp (Nat.not_lt_zero p)⟩, W7.mono (fun j hj hv => ?_), fun q hq => absurd hq List.not_mem_nil⟩
  unfold vld at hv
  omega
/-- a new part c -/
def r_addp (N : Nat → Int32) (c : Nat) (s ol rl y : Int32) : Nat → Int32 := fun j => if j = 0 then nI (c + 1) else if 7 + c * 23 ≤ j ∧ j < 7 + c * 23 + 23 then (if j = 7 + c * 23 + 0 ∨ j = 7 + c * 23 + 13 then s else if j = 7 + c * 23 + 4 then ol else if j = 7 + c * 23 + 5 then rl else if j = 7 + c * 23 + 6 then y else 0) else N j
theorem addp_o {N : Nat → Int32} {c : Nat} {s ol rl y : Int32} {j : Nat} (h0 : j ≠ 0) (h : j < 7 + c * 23 ∨ 7 + c * 23 + 23 ≤ j) : r_addp N c s ol rl y j = N j := by
  unfold r_addp
  rw [if_neg h0, if_neg (by omega)]
theorem addp_k {N : Nat → Int32} {c : Nat} {s ol rl y : Int32} (k : Nat) (hk : k < 23) : r_addp N c s ol rl y (7 + c * 23 + k) = if k = 0 ∨ k = 13 then s else if k = 4 then ol else if k = 5 then rl else if k = 6 then y else 0 := by
  unfold r_addp
  rw [if_neg (by omega), if_pos (by omega)]
  have e : ∀ m, (7 + c * 23 + k = 7 + c * 23 + m) = (k = m) := fun m => propext ⟨fun h => by omega, fun h => by omega⟩
  simp only [e]
theorem WFc.addp {N : Nat → Int32} {c0 c1 c2 c3 c4 : Nat} (h : WFc N c0 c1 c2 c3 c4) (hc : c0 < 8) (s ol rl y : Int32) : WFc (r_addp N c0 s ol rl y) (c0 + 1) c1 c2 c3 c4 := by
  obtain ⟨⟨h0, k0⟩, ⟨h1, k1⟩, ⟨h2, k2⟩, ⟨h3, k3⟩, ⟨h4, k4⟩, hp, hk, hw, hr, ho⟩ := h
  refine ⟨⟨rfl, hc⟩, ⟨by rw [addp_o (by decide) (by omega)]; exact h1, k1⟩, ⟨by rw [addp_o (by decide) (by omega)]; exact h2, k2⟩, ⟨by rw [addp_o (by decide) (by omega)]; exact h3, k3⟩, ⟨by rw [addp_o (by decide) (by omega)]; exact h4, k4⟩, fun p hp' => ?_, fun k hk' => ?_, fun i hi => ?_, fun i hi => ?_, fun i hi => ?_⟩
  · by_cases z : p = c0
    · subst z
      exact ⟨0, by decide, addp_k 8 (by decide), fun k hk => absurd hk (Nat.not_lt_zero k)⟩
    · obtain ⟨c, y1, y2, y3⟩ := hp p (by omega)
      refine ⟨c, y1, by rw [addp_o (by omega) (by omega)]; exact y2, fun k hk => ?_⟩
      obtain ⟨s, z1, z2⟩ := y3 k hk
      exact ⟨s, by omega, by rw [addp_o (by omega) (by omega)]; exact z2⟩
  · obtain ⟨c, y1, y2, y3⟩ := hk k hk'
    refine ⟨c, y1, by rw [addp_o (by omega) (by omega)]; exact y2, fun k hk => ?_⟩
    obtain ⟨s, z1, z2⟩ := y3 k hk
    exact ⟨s, by omega, by rw [addp_o (by omega) (by omega)]; exact z2⟩
  · obtain ⟨s, z1, z2⟩ := hw i hi
    exact ⟨s, by omega, by rw [addp_o (by omega) (by omega)]; exact z2⟩
  · obtain ⟨s, z1, z2⟩ := hr i hi
    exact ⟨s, by omega, by rw [addp_o (by omega) (by omega)]; exact z2⟩
  · obtain ⟨s, z1, z2⟩ := ho i hi
    exact ⟨s, by omega, by rw [addp_o (by omega) (by omega)]; exact z2⟩
/-- the entries of a part, but for the substitutes -/
def pV (c j : Nat) : Prop := 7 + c * 23 ≤ j ∧ j < 7 + c * 23 + 23 ∧ (j < 7 + c * 23 + 9 ∨ 7 + c * 23 + 13 ≤ j)
theorem d_begin {l : Launch} (hst : l.stackTraces = false) {Q : Option Value → Hp → Prop} {X : String → Hp → Prop} {h0 H : Hp} {w : Nat} {σ ρ : Nat → Nat} {N : Nat → Int32} {V : Nat → Prop} (W : Wk h0 H w σ ρ N V) {c : Nat} (hc : c < 8) (hV : ∀ j, V j → ¬ pV c j) {s ol rl y : Int32} (e : ∀ k, k < 23 → N (7 + c * 23 + k) = if k = 0 ∨ k = 13 then s else if k = 4 then ol else if k = 5 then rl else if k = 6 then y else 0) (q : ∀ H', Wk h0 H' w σ ρ N (fun j => V j ∨ pV c j) → Q none H') : CX3_begin l [.ref (w + 32 + 3 * c), .int s, .int ol, .int rl, .int y] H Q X := by
  refine eX3_begin hst (Nat.le_of_ble_eq_true rfl) (fun K hK => ?_)
  refine yPart W hc (k := 0) (by decide) ((e 0 (by decide)).symm) (fun H1 W1 => ?_)
  refine yPart W1 hc (k := 1) (by decide) ((e 1 (by decide)).symm) (fun H2 W2 => ?_)
  refine yPart W2 hc (k := 2) (by decide) ((e 2 (by decide)).symm) (fun H3 W3 => ?_)
  refine yPart W3 hc (k := 3) (by decide) ((e 3 (by decide)).symm) (fun H4 W4 => ?_)
  refine yPart W4 hc (k := 4) (by decide) ((e 4 (by decide)).symm) (fun H5 W5 => ?_)
  refine yPart W5 hc (k := 5) (by decide) ((e 5 (by decide)).symm) (fun H6 W6 => ?_)
  refine yPart W6 hc (k := 6) (by decide) ((e 6 (by decide)).symm) (fun H7 W7 => ?_)
  refine yPart W7 hc (k := 7) (by decide) ((e 7 (by decide)).symm) (fun H8 W8 => ?_)
  refine yRqd W8 hc ((e 21 (by decide)).symm) (fun H9 W9 => ?_)
  refine ySrv W9 hc ((e 22 (by decide)).symm) (fun HA WA => ?_)
  refine ySC WA hc ((e 8 (by decide)).symm) (fun HB WB => ?_)
  have WB' : Wk h0 HB w σ ρ N (fun j => V j ∨ (pV c j ∧ ¬ (7 + c * 23 + 13 ≤ j ∧ j < 7 + c * 23 + 21))) := WB.mono (fun j _ hv => by
    rcases hv with h | ⟨⟨h1, h2, h3⟩, h4⟩
    · exact Or.inl (Or.inl (Or.inl (Or.inl (Or.inl (Or.inl (Or.inl (Or.inl (Or.inl (Or.inl (Or.inl h))))))))))
    · omega)
  clear WB WA W9 W8 W7 W6 W5 W4 W3 W2 W1
  have hk : ∀ (n i : Nat) (H' : Hp), i + n = 8 → 1 ≤ i → Wk h0 H' w σ ρ N (fun j => V j ∨ (pV c j ∧ ¬ (j = 7 + c * 23 + 13) ∧ ¬ (7 + c * 23 + 13 + i ≤ j ∧ j < 7 + c * 23 + 21))) → K 59 [(5, .int (nI i)), (0, .ref (w + 32 + 3 * c)), (1, .int s), (2, .int ol), (3, .int rl), (4, .int y)] [] H' (0, 0) := by
    intro n
    induction n with
    | zero =>
      intro i H' hi h1 W'
      refine hK _ _ _ _ ?_
      refine And.intro (fun hcc => ?_) (fun hcc => ?_)
      · refine gMovs W' hc ?_
        refine yMov W' hc (k := 0) (by decide) rfl ((e 13 (by decide)).symm) (fun H2 W2 => ?_)
        repeat (refine And.intro (by first | assumption | rfl | exact Nat.le_of_ble_eq_true rfl | exact Nat.zero_le _ | decide) ?_)
        refine q H2 (W2.mono (fun j _ hv => ?_))
        rcases hv with h | ⟨h1, h2, h3⟩
        · exact Or.inl (Or.inl h)
        · unfold pV
          by_cases z : j = 7 + c * 23 + (13 + 0)
          · exact Or.inr z
          · exact Or.inl (Or.inr (by omega))
      · exact absurd (show nI 8 ≤ nI i from nI_le (by omega) (by omega)) hcc
    | succ n ih =>
      intro i H' hi h1 W'
      refine hK _ _ _ _ ?_
      refine And.intro (fun hcc => ?_) (fun hcc => ?_)
      · exact absurd (show nI 8 ≤ nI i from hcc) (nI_ge (by omega) (by omega))
      · refine gMovs W' hc ?_
        refine yMov W' hc (k := i) (by omega) rfl (by
          rw [e (13 + i) (by omega), if_neg (by omega), if_neg (by omega), if_neg (by omega), if_neg (by omega)]) (fun H2 W2 => ?_)
        have := ih (i + 1) H2 (by omega) (by omega) (W2.mono (fun j _ hv => by
          rcases hv with h | ⟨⟨h1, h2, h3⟩, h4, h5⟩
          · exact Or.inl (Or.inl h)
          · unfold pV
            by_cases z : j = 7 + c * 23 + (13 + i)
            · exact Or.inr z
            · exact Or.inl (Or.inr (by omega))))
        rw [← nI_1 i] at this
        exact this
  -- the first of them is 0 for a moment
  refine hK _ _ _ _ ?_
  refine And.intro (fun hcc => ?_) (fun hcc => ?_)
  · exact absurd hcc (by decide)
  · refine gMovs WB' hc ?_
    refine xMov WB' hc (k := 0) (by decide) rfl (fun H2 W2 => ?_)
    exact hk 7 1 H2 rfl (Nat.le_refl 1) (W2.to (fun j _ hv => by
      rcases hv with h | ⟨⟨h1, h2, h3⟩, h4, h5⟩
      · by_cases z : j = 7 + c * 23 + (13 + 0)
        · exact absurd (by unfold pV; omega) (hV j h)
        · exact ⟨Or.inl (Or.inl h), pk_un z⟩
      · refine ⟨Or.inl (Or.inr (by unfold pV; omega)), pk_un (by omega)⟩))
theorem Wv.addp0 {h0 H : Hp} {w : Nat} {σ ρ : Nat → Nat} {N : Nat → Int32} {c0 c1 c2 c3 c4 : Nat} (W : Wv [] h0 H w σ ρ N c0 c1 c2 c3 c4) (hc : c0 < 8) (s ol rl y : Int32) : Wk h0 H w σ ρ (r_addp N c0 s ol rl y) (fun j => vld N c0 c1 c2 c3 c4 j ∧ j ≠ 0) := by
  have k0 := W.1.1.2
  have k1 := W.1.2.1.2
  have k2 := W.1.2.2.1.2
  exact Wk.to (V := vld N c0 c1 c2 c3 c4) W.k (fun j hj hv => ⟨hv.1, by
    rw [addp_o hv.2]
    · rfl
    · have hv1 := hv.1
      unfold vld at hv1
      omega⟩)
theorem d_beginNew {l : Launch} (hst : l.stackTraces = false) {Q : Option Value → Hp → Prop} {X : String → Hp → Prop} {h0 H : Hp} {w : Nat} {σ ρ : Nat → Nat} {N : Nat → Int32} {c0 c1 c2 c3 c4 : Nat} (W : Wv [] h0 H w σ ρ N c0 c1 c2 c3 c4) (hc : c0 < 8) {s ol rl y : Int32} (q : ∀ H', Wk h0 H' w σ ρ (r_addp N c0 s ol rl y) (fun j => (vld N c0 c1 c2 c3 c4 j ∧ j ≠ 0) ∨ pV c0 j) → Q none H') : CX3_begin l [.ref (w + 32 + 3 * c0), .int s, .int ol, .int rl, .int y] H Q X := by
  have k0 := W.1.1.2
  have k1 := W.1.2.1.2
  refine d_begin hst (W.addp0 hc s ol rl y) hc (fun j hv hp => by
    have hv1 := hv.1
    unfold vld at hv1
    unfold pV at hp
    omega) (fun k hk => addp_k k hk) q
theorem Wv.addp {h0 H : Hp} {w : Nat} {σ ρ : Nat → Nat} {N : Nat → Int32} {c0 c1 c2 c3 c4 : Nat} {s ol rl y : Int32} (W : Wk h0 H w σ ρ (r_addp N c0 s ol rl y) (fun j => ((vld N c0 c1 c2 c3 c4 j ∧ j ≠ 0) ∨ pV c0 j) ∨ j = 0)) (hN : WFc N c0 c1 c2 c3 c4) (hc : c0 < 8) : Wv [] h0 H w σ ρ (r_addp N c0 s ol rl y) (c0 + 1) c1 c2 c3 c4 := by
  have k1 := hN.2.1.2
  refine ⟨hN.addp hc s ol rl y, W.mono (fun j hj hv => ?_), fun q hq => absurd hq List.not_mem_nil⟩
  by_cases z : j = 0
  · exact Or.inr z
  refine Or.inl ?_
  rcases hv with h | ⟨h1, h2, h3⟩ | ⟨h1, h2, h3⟩ | h
  · exact Or.inl ⟨Or.inl h, z⟩
  · by_cases g : j < 7 + c0 * 23
    · refine Or.inl ⟨Or.inr (Or.inl ⟨h1, g, ?_⟩), z⟩
      rcases h3 with h | h | h
      · exact Or.inl h
      · exact Or.inr (Or.inl h)
      · rw [addp_o (by omega) (by omega)] at h
        exact Or.inr (Or.inr h)
    · refine Or.inr ?_
      unfold pV
      refine ⟨by omega, by omega, ?_⟩
      rcases h3 with h | h | h
      · omega
      · omega
      · have e8 : r_addp N c0 s ol rl y (7 + c0 * 23 + 8) = 0 := addp_k 8 (by decide)
        have ej : j - (j - 7) % 23 + 8 = 7 + c0 * 23 + 8 := by omega
        rw [ej, e8] at h
        exact absurd h (Nat.not_lt_zero _)
  · refine Or.inl ⟨Or.inr (Or.inr (Or.inl ⟨h1, h2, ?_⟩)), z⟩
    rcases h3 with h | h
    · exact Or.inl h
    · rw [addp_o (by omega) (by omega)] at h
      exact Or.inr h
  · exact Or.inl ⟨Or.inr (Or.inr (Or.inr h)), z⟩
end E4

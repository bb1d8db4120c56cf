section C2
/-- the shape of the world at w: kinds and references -/
def ShP (s : Nat → Nat × Nat) (R : Nat → Nat → Nat) (w : Nat) (σ : Nat → Nat) : Prop :=
  0 < w ∧ s w = (8, 10) ∧ (R w 0 = w + 1 ∧ s (w + 1) = (33, 8)) ∧ (R w 2 = w + 2 ∧ s (w + 2) = (32, 4)) ∧ (R w 4 = w + 3 ∧ s (w + 3) = (36, 12)) ∧
  (R w 7 = w + 4 ∧ s (w + 4) = (2, 2) ∧ R (w + 4) 0 = w + 5 ∧ s (w + 5) = (30, 12)) ∧ (R w 8 = w + 18 ∧ s (w + 18) = (2, 2) ∧ R (w + 18) 0 = w + 19 ∧ s (w + 19) = (30, 12)) ∧
  (∀ p, p < 8 → R (w + 1) p = w + 32 + 3 * p ∧ s (w + 32 + 3 * p) = (4, 13) ∧ R (w + 32 + 3 * p) 11 = w + 33 + 3 * p ∧ s (w + 33 + 3 * p) = (20, 4) ∧ R (w + 32 + 3 * p) 12 = w + 34 + 3 * p ∧ s (w + 34 + 3 * p) = (20, 8)) ∧
  (∀ k, k < 4 → R (w + 2) k = w + 56 + 3 * k ∧ s (w + 56 + 3 * k) = (3, 3) ∧ R (w + 56 + 3 * k) 1 = w + 57 + 3 * k ∧ s (w + 57 + 3 * k) = (20, 4) ∧ R (w + 56 + 3 * k) 2 = w + 58 + 3 * k ∧ s (w + 58 + 3 * k) = (20, 4)) ∧
  (∀ i, i < 12 → R (w + 3) i = σ i) ∧ (∀ i, i < 12 → R (w + 5) i = σ (12 + i)) ∧ (∀ i, i < 12 → R (w + 19) i = σ (24 + i)) ∧ ((∀ a, w + 68 ≤ a → a < w + 80 → s a = (7, 5)) ∧ (∀ a, w + 6 ≤ a → a < w + 18 → s a = (1, 3)) ∧ (∀ a, w + 20 ≤ a → a < w + 32 → s a = (1, 3))) ∧ RhoOk w σ
/-- outside the world at w all is as it was -/
def Fr (w : Nat) (h0 H : Hp) : Prop := hn H = hn h0 ∧ hs H = hs h0 ∧ H.2.2.2.2 = h0.2.2.2.2 ∧ ∀ a, (a < w ∨ w + 80 ≤ a) → hI H a = hI h0 a ∧ hR H a = hR h0 a
theorem Fr.rfl' (w : Nat) (h : Hp) : Fr w h h := ⟨rfl, rfl, rfl, fun _ _ => ⟨rfl, rfl⟩⟩
theorem Fr.trans {w : Nat} {a b c : Hp} (h1 : Fr w a b) (h2 : Fr w b c) : Fr w a c :=
  ⟨h2.1.trans h1.1, h2.2.1.trans h1.2.1, h2.2.2.1.trans h1.2.2.1, fun x hx => ⟨(h2.2.2.2 x hx).1.trans (h1.2.2.2 x hx).1, (h2.2.2.2 x hx).2.trans (h1.2.2.2 x hx).2⟩⟩
theorem Fr.wI {w : Nat} {h0 H : Hp} (h : Fr w h0 H) {a k : Nat} {x : Int32} (h1 : w ≤ a) (h2 : a < w + 80) : Fr w h0 (wI H a k x) :=
  ⟨h.1, h.2.1, h.2.2.1, fun b hb => ⟨((ag_wI (show b ≠ a by omega)).2.1).trans (h.2.2.2 b hb).1, (h.2.2.2 b hb).2⟩⟩
theorem Fr.wR {w : Nat} {h0 H : Hp} (h : Fr w h0 H) {a k : Nat} {x : Nat} (h1 : w ≤ a) (h2 : a < w + 80) : Fr w h0 (wR H a k x) :=
  ⟨h.1, h.2.1, h.2.2.1, fun b hb => ⟨(h.2.2.2 b hb).1, ((ag_wR (show b ≠ a by omega)).2.2.1).trans (h.2.2.2 b hb).2⟩⟩
/-- the world at w keeps the numbers j of N for which V -/
def Rep (H : Hp) (w : Nat) (σ ρ : Nat → Nat) (N : Nat → Int32) (V : Nat → Prop) : Prop := ShP (hs H) (hR H) w σ ∧ RhoOk w ρ ∧ ∀ j, j < 359 → V j → hI H (loc w ρ j).1 (loc w ρ j).2 = N j
theorem Rep.mono {H : Hp} {w : Nat} {σ ρ : Nat → Nat} {N : Nat → Int32} {V V' : Nat → Prop} (h : Rep H w σ ρ N V) (m : ∀ j, j < 359 → V' j → V j) : Rep H w σ ρ N V' := ⟨h.1, h.2.1, fun j hj hv => h.2.2 j hj (m j hj hv)⟩
theorem Rep.to {H : Hp} {w : Nat} {σ ρ : Nat → Nat} {N N' : Nat → Int32} {V V' : Nat → Prop} (h : Rep H w σ ρ N V) (m : ∀ j, j < 359 → V' j → V j ∧ N j = N' j) : Rep H w σ ρ N' V' := ⟨h.1, h.2.1, fun j hj hv => (h.2.2 j hj (m j hj hv).1).trans (m j hj hv).2⟩
theorem ShP.rho {s : Nat → Nat × Nat} {R : Nat → Nat → Nat} {w : Nat} {σ : Nat → Nat} (h : ShP s R w σ) : RhoOk w σ := h.2.2.2.2.2.2.2.2.2.2.2.2.2
theorem Rep.w {H : Hp} {w : Nat} {σ ρ : Nat → Nat} {N : Nat → Int32} {V : Nat → Prop} (h : Rep H w σ ρ N V) {j : Nat} (hj : j < 359) (x : Int32) : Rep (wI H (loc w ρ j).1 (loc w ρ j).2 x) w σ ρ (upd N j x) (fun i => V i ∨ i = j) := by
  refine ⟨h.1, h.2.1, fun i hi hv => ?_⟩
  by_cases e : i = j
  · subst e
    show (if _ = _ then (if _ = _ then _ else _) else _) = if _ = _ then _ else _
    rw [if_pos rfl, if_pos rfl, if_pos rfl]
  · have e2 := h.2.2 i hi (hv.resolve_right e)
    rw [pk_un e, ← e2]
    show (if _ = _ then (if _ = _ then _ else _) else _) = _
    by_cases e3 : (loc w ρ i).1 = (loc w ρ j).1
    · rw [if_pos e3]
      by_cases e4 : (loc w ρ i).2 = (loc w ρ j).2
      · exact absurd (loc_inj h.2.1 hi hj (Prod.ext e3 e4)) e
      · rw [if_neg e4]; rfl
    · rw [if_neg e3]; rfl
def Wk (h0 H : Hp) (w : Nat) (σ ρ : Nat → Nat) (N : Nat → Int32) (V : Nat → Prop) : Prop := Fr w h0 H ∧ Rep H w σ ρ N V
theorem Wk.mono {h0 H : Hp} {w : Nat} {σ ρ : Nat → Nat} {N : Nat → Int32} {V V' : Nat → Prop} (h : Wk h0 H w σ ρ N V) (m : ∀ j, j < 359 → V' j → V j) : Wk h0 H w σ ρ N V' := ⟨h.1, h.2.mono m⟩
theorem Wk.to {h0 H : Hp} {w : Nat} {σ ρ : Nat → Nat} {N N' : Nat → Int32} {V V' : Nat → Prop} (h : Wk h0 H w σ ρ N V) (m : ∀ j, j < 359 → V' j → V j ∧ N j = N' j) : Wk h0 H w σ ρ N' V' := ⟨h.1, h.2.to m⟩
theorem Wk.w {h0 H : Hp} {w : Nat} {σ ρ : Nat → Nat} {N : Nat → Int32} {V : Nat → Prop} (h : Wk h0 H w σ ρ N V) {j a k : Nat} (hj : j < 359) (e : loc w ρ j = (a, k)) (x : Int32) : Wk h0 (wI H a k x) w σ ρ (upd N j x) (fun i => V i ∨ i = j) := by
  have r := h.2.w hj x
  have g := loc_rng h.2.2.1 hj
  rw [e] at r g
  exact ⟨h.1.wI g.1 g.2, r⟩
/-- the numbers that are kept -/
def vld (N : Nat → Int32) (c0 c1 c2 c3 c4 j : Nat) : Prop :=
  j < 7 ∨ (7 ≤ j ∧ j < 7 + c0 * 23 ∧ ((j - 7) % 23 < 9 ∨ 13 ≤ (j - 7) % 23 ∨ (j - 7) % 23 - 9 < (N (j - (j - 7) % 23 + 8)).toNatClampNeg))
  ∨ (191 ≤ j ∧ j < 191 + c1 * 9 ∧ ((j - 191) % 9 = 0 ∨ ((j - 191) % 9 - 1) / 2 < (N (j - (j - 191) % 9)).toNatClampNeg))
  ∨ (227 ≤ j ∧ j < 227 + c2 * 5) ∨ (287 ≤ j ∧ j < 287 + c3 * 3) ∨ (323 ≤ j ∧ j < 323 + c4 * 3)
theorem vld.agree {N N' : Nat → Int32} {c0 c1 c2 c3 c4 j : Nat} (k0 : c0 ≤ 8) (k1 : c1 ≤ 4) (e : ∀ i, stru i → N' i = N i) (h : vld N' c0 c1 c2 c3 c4 j) : vld N c0 c1 c2 c3 c4 j := by
  rcases h with h | ⟨h1, h2, h3⟩ | ⟨h1, h2, h3⟩ | h
  · exact Or.inl h
  · refine Or.inr (Or.inl ⟨h1, h2, ?_⟩)
    rcases h3 with h | h | h
    · exact Or.inl h
    · exact Or.inr (Or.inl h)
    · rw [e _ (by unfold stru; omega)] at h
      exact Or.inr (Or.inr h)
  · refine Or.inr (Or.inr (Or.inl ⟨h1, h2, ?_⟩))
    rcases h3 with h | h
    · exact Or.inl h
    · rw [e _ (by unfold stru; omega)] at h
      exact Or.inr h
  · exact Or.inr (Or.inr (Or.inr h))
theorem v_part {N : Nat → Int32} {c0 c1 c2 c3 c4 p k : Nat} (hp : p < c0) (hk : k < 23) (h : k < 9 ∨ 13 ≤ k) : vld N c0 c1 c2 c3 c4 (7 + p * 23 + k) := by
  unfold vld
  have e : (7 + p * 23 + k - 7) % 23 = k := by omega
  have e2 : 7 + p * 23 + k < 7 + c0 * 23 := by omega
  rw [e]
  exact Or.inr (Or.inl ⟨by omega, e2, h.elim Or.inl (fun z => Or.inr (Or.inl z))⟩)
theorem v_sub {N : Nat → Int32} {c0 c1 c2 c3 c4 p k c : Nat} (hp : p < c0) (hc : N (7 + p * 23 + 8) = nI c) (c4' : c ≤ 4) (hk : k < c) : vld N c0 c1 c2 c3 c4 (7 + p * 23 + (9 + k)) := by
  unfold vld
  have e : (7 + p * 23 + (9 + k) - 7) % 23 = 9 + k := by omega
  have e2 : 7 + p * 23 + (9 + k) < 7 + c0 * 23 := by omega
  rw [e, show 7 + p * 23 + (9 + k) - (9 + k) + 8 = 7 + p * 23 + 8 by omega, hc, nI_clamp (by omega)]
  exact Or.inr (Or.inl ⟨by omega, e2, Or.inr (Or.inr (by omega))⟩)
theorem v_kit {N : Nat → Int32} {c0 c1 c2 c3 c4 k : Nat} (hp : k < c1) : vld N c0 c1 c2 c3 c4 (191 + k * 9) := by
  unfold vld
  exact Or.inr (Or.inr (Or.inl ⟨by omega, by omega, Or.inl (by omega)⟩))
theorem v_item {N : Nat → Int32} {c0 c1 c2 c3 c4 k i c z : Nat} (hp : k < c1) (hc : N (191 + k * 9) = nI c) (c4' : c ≤ 4) (hk : i < c) (hz : z < 2) : vld N c0 c1 c2 c3 c4 (191 + k * 9 + 1 + 2 * i + z) := by
  unfold vld
  have e : (191 + k * 9 + 1 + 2 * i + z - 191) % 9 = 1 + 2 * i + z := by omega
  rw [e, show 191 + k * 9 + 1 + 2 * i + z - (1 + 2 * i + z) = 191 + k * 9 by omega, hc, nI_clamp (by omega)]
  exact Or.inr (Or.inr (Or.inl ⟨by omega, by omega, Or.inr (by omega)⟩))
theorem v_wait {N : Nat → Int32} {c0 c1 c2 c3 c4 i f : Nat} (hi : i < c2) (hf : f < 5) : vld N c0 c1 c2 c3 c4 (227 + i * 5 + f) := Or.inr (Or.inr (Or.inr (Or.inl (by omega))))
theorem v_rep {N : Nat → Int32} {c0 c1 c2 c3 c4 i f : Nat} (hi : i < c3) (hf : f < 3) : vld N c0 c1 c2 c3 c4 (287 + i * 3 + f) := Or.inr (Or.inr (Or.inr (Or.inr (Or.inl (by omega)))))
theorem v_ord {N : Nat → Int32} {c0 c1 c2 c3 c4 i f : Nat} (hi : i < c4) (hf : f < 3) : vld N c0 c1 c2 c3 c4 (323 + i * 3 + f) := Or.inr (Or.inr (Or.inr (Or.inr (Or.inr (by omega)))))
/-- a row but for some counts -/
def ovr (E : List (Nat × Int32)) (N : Nat → Int32) : Nat → Int32 := fun j => (E.lookup j).getD (N j)
theorem ovr_o {E : List (Nat × Int32)} {N : Nat → Int32} {j : Nat} (h : ∀ q, q ∈ E → q.1 < 5) (hj : 5 ≤ j) : ovr E N j = N j := by
  unfold ovr
  have : E.lookup j = none := by
    induction E with
    | nil => rfl
    | cons q E ih =>
      obtain ⟨a, b⟩ := q
      have hq := h (a, b) List.mem_cons_self
      have : (j == a) = false := beq_eq_false_iff_ne.mpr (fun z => by dsimp only at hq; omega)
      rw [List.lookup_cons, this]
      exact ih (fun q hq => h q (List.mem_cons_of_mem _ hq))
  rw [this]
  rfl
theorem ovr_upd {E : List (Nat × Int32)} {N : Nat → Int32} {j : Nat} {x : Int32} (h : ∀ q, q ∈ E → q.1 < 5) (hj : 5 ≤ j) : ovr E (upd N j x) = upd (ovr E N) j x := by
  funext i
  by_cases e : i = j
  · subst e
    rw [ovr_o h hj, pk_us, pk_us]
  · rw [pk_un e]
    unfold ovr
    rw [pk_un e]
/-- the world at w keeps the row N, but for the counts in E -/
def Wv (E : List (Nat × Int32)) (h0 H : Hp) (w : Nat) (σ ρ : Nat → Nat) (N : Nat → Int32) (c0 c1 c2 c3 c4 : Nat) : Prop := WFc N c0 c1 c2 c3 c4 ∧ Wk h0 H w σ ρ (ovr E N) (vld N c0 c1 c2 c3 c4) ∧ ∀ q, q ∈ E → q.1 < 5
theorem Wv.k {E : List (Nat × Int32)} {h0 H : Hp} {w : Nat} {σ ρ : Nat → Nat} {N : Nat → Int32} {c0 c1 c2 c3 c4 : Nat} (h : Wv E h0 H w σ ρ N c0 c1 c2 c3 c4) : Wk h0 H w σ ρ (ovr E N) (vld N c0 c1 c2 c3 c4) := h.2.1
theorem Wv.agree {E : List (Nat × Int32)} {h0 H H' : Hp} {w : Nat} {σ ρ : Nat → Nat} {N N' : Nat → Int32} {V' : Nat → Prop} {c0 c1 c2 c3 c4 : Nat} (h : Wv E h0 H w σ ρ N c0 c1 c2 c3 c4) (k : Wk h0 H' w σ ρ (ovr E N') V') (m : ∀ j, vld N c0 c1 c2 c3 c4 j → V' j) (e : ∀ j, stru j → N' j = N j) : Wv E h0 H' w σ ρ N' c0 c1 c2 c3 c4 :=
  ⟨h.1.agree e, k.mono (fun _ _ hv => m _ (hv.agree h.1.1.2 h.1.2.1.2 e)), h.2.2⟩
theorem Wv.w {E : List (Nat × Int32)} {h0 H : Hp} {w : Nat} {σ ρ : Nat → Nat} {N : Nat → Int32} {c0 c1 c2 c3 c4 : Nat} (h : Wv E h0 H w σ ρ N c0 c1 c2 c3 c4) {j a k : Nat} (hj : j < 359) (e : loc w ρ j = (a, k)) (hs : ¬ stru j) (x : Int32) : Wv E h0 (wI H a k x) w σ ρ (upd N j x) c0 c1 c2 c3 c4 :=
  h.agree (V' := fun i => vld N c0 c1 c2 c3 c4 i ∨ i = j) (by rw [ovr_upd h.2.2 (Nat.not_lt.mp (fun z => hs (Or.inl z)))]; exact h.k.w hj e x) (fun _ hv => Or.inl hv) (fun i hi => pk_un (fun z => hs (z ▸ hi)))
theorem Wk.ld {h0 H : Hp} {w : Nat} {σ ρ : Nat → Nat} {N : Nat → Int32} {V : Nat → Prop} (h : Wk h0 H w σ ρ N V) {j a k : Nat} (hj : j < 359) (e : loc w ρ j = (a, k)) (hv : V j) : hI H a k = N j := by
  have := h.2.2.2 j hj hv
  rw [e] at this
  exact this
theorem Wv.ld {E : List (Nat × Int32)} {h0 H : Hp} {w : Nat} {σ ρ : Nat → Nat} {N : Nat → Int32} {c0 c1 c2 c3 c4 : Nat} (h : Wv E h0 H w σ ρ N c0 c1 c2 c3 c4) {j a k : Nat} (hj : j < 359) (e : loc w ρ j = (a, k)) (hv : vld N c0 c1 c2 c3 c4 j) (h5 : 5 ≤ j) : hI H a k = N j := (h.k.ld hj e hv).trans (ovr_o h.2.2 h5)
end C2

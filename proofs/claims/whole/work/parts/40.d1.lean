section D1
/-- what serving the waiting requests leaves as it is -/
def swx (j : Nat) : Prop := j ≠ 2 ∧ ¬ (227 ≤ j ∧ j < 287) ∧ ∀ q, q < 8 → j ≠ 7 + q * 23 + 0 ∧ j ≠ 7 + q * 23 + 20
theorem r_serve_x {N : Nat → Int32} {c0 c1 c2 c3 c4 p : Nat} {v : Int32} (hN : WFc N c0 c1 c2 c3 c4) (hp : p < c0) {j : Nat} (hj : ∀ q, q < 8 → j ≠ 7 + q * 23 + 0 ∧ j ≠ 7 + q * 23 + 20) : (r_serve N p v).2 j = N j := by
  obtain ⟨c, c4', hc, hsub⟩ := hN.2.2.2.2.2.1 p hp
  have k0 := hN.1.2
  unfold r_serve
  rw [hc, nI_clamp (by omega)]
  have : ∀ n, n ≤ c → (r_subs p n (r_issue N p v) (v - lss (N (7 + p * 23 + 0)) v)).2 j = N j := by
    intro n
    induction n with
    | zero => intro _; exact r_issue_o (hj p (by omega)).1 (hj p (by omega)).2
    | succ n ih =>
      intro hn
      obtain ⟨s, s1, s2⟩ := hsub n (by omega)
      have es : (r_subs p n (r_issue N p v) (v - lss (N (7 + p * 23 + 0)) v)).2 (7 + p * 23 + (9 + n)) = nI s := by
        rw [r_subs_o n (by omega) (by omega), r_issue_o (by omega) (by omega), s2]
      show r_issue _ _ _ j = N j
      rw [es, nI_clamp (by omega), r_issue_o (hj s (by omega)).1 (hj s (by omega)).2]
      exact ih (by omega)
  exact this c (Nat.le_refl _)
/-- the requests that wait miss 1 to 999 pieces -/
def Mq (N : Nat → Int32) (c2 : Nat) : Prop := ∀ i, i < c2 → 0 < (N (227 + i * 5 + 3)).toInt ∧ (N (227 + i * 5 + 3)).toInt ≤ 999
theorem Mq.mp {N : Nat → Int32} {c2 : Nat} (h : Mq N c2) : Mp N c2 := fun i hi => (h i hi).1
def Rw (c0 : Nat) (N N' : Nat → Int32) : Prop := (∀ j, swx j → N' j = N j) ∧ ∀ q, q < c0 → (N' (7 + q * 23 + 0)).toInt ≤ (N (7 + q * 23 + 0)).toInt
theorem Rw.trans {c0 : Nat} {A B C : Nat → Int32} (h1 : Rw c0 A B) (h2 : Rw c0 B C) : Rw c0 A C := ⟨fun j hj => (h2.1 j hj).trans (h1.1 j hj), fun q hq => Int.le_trans (h2.2 q hq) (h1.2 q hq)⟩
theorem sw_num {c0 c1 c3 c4 : Nat} : ∀ (n i d : Nat) {N : Nat → Int32}, WFc N c0 c1 (i + n) c3 c4 → Sk N c0 → Mq N (i + n) → ∃ c2, c2 + (r_sw n i N d).2 = i + n + d ∧ WFc (r_sw n i N d).1 c0 c1 c2 c3 c4 ∧ c2 ≤ i + n ∧ Sk (r_sw n i N d).1 c0 ∧ Mq (r_sw n i N d).1 c2 ∧ Rw c0 N (r_sw n i N d).1
  | 0, i, d, N, h, hs, hm => ⟨i, rfl, h, Nat.le_refl _, hs, hm, fun _ _ => rfl, fun _ _ => Int.le_refl _⟩
  | n + 1, i, d, N, h, hs, hm => by
    obtain ⟨p, p1, p2⟩ := h.2.2.2.2.2.2.2.1 i (by omega)
    have k0 := h.1.2
    have k2 := h.2.2.1.2
    obtain ⟨m1, m2⟩ := hm i (by omega)
    obtain ⟨n1, n2, n3, n4⟩ := serve_num h hs p1 (v := N (227 + i * 5 + 3)) (by omega)
    have wf := h.sv1 p1 (N (227 + i * 5 + 3)) (r_serve N p (N (227 + i * 5 + 3))).1 i (by omega)
    have eo : ∀ j, (∀ q, q < 8 → j ≠ 7 + q * 23 + 0 ∧ j ≠ 7 + q * 23 + 20) → (r_serve N p (N (227 + i * 5 + 3))).2 j = N j := fun j hj => r_serve_x h p1 hj
    rw [r_sw_s, p2, nI_clamp (by omega)]
    generalize r_serve N p (N (227 + i * 5 + 3)) = r at *
    have S2 : Sk (upd r.2 (227 + i * 5 + 3) r.1) c0 := fun q hq => by
      rw [pk_un (by omega)]; exact n1 q hq
    have R2 : Rw c0 N (upd r.2 (227 + i * 5 + 3) r.1) := ⟨fun j hj => by
      rw [pk_un (fun z => hj.2.1 (by omega)), eo j hj.2.2], fun q hq => by
      rw [pk_un (by omega)]; exact n4 q hq⟩
    by_cases hz : r.1 = 0
    · rw [if_pos hz]
      have w3 : WFc (r_fw (upd r.2 (227 + i * 5 + 3) r.1) i (i + n)) c0 c1 (i + n) c3 c4 := WFc.fw (c := i + n) wf (by omega)
      have S3 : Sk (r_fw (upd r.2 (227 + i * 5 + 3) r.1) i (i + n)) c0 := fun q hq => by
        unfold r_fw
        rw [if_neg (by omega), if_neg (by omega)]
        exact S2 q hq
      have M3 : Mq (r_fw (upd r.2 (227 + i * 5 + 3) r.1) i (i + n)) (i + n) := fun k hk => by
        unfold r_fw
        by_cases hks : k < i
        · rw [if_neg (by omega), if_neg (by omega), pk_un (by omega), eo _ (by omega)]
          exact hm k (by omega)
        · rw [if_pos (by omega), pk_un (by omega), eo _ (by omega), show 227 + k * 5 + 3 + 5 = 227 + (k + 1) * 5 + 3 by omega]
          exact hm (k + 1) (by omega)
      have R3 : Rw c0 N (r_fw (upd r.2 (227 + i * 5 + 3) r.1) i (i + n)) := by
        refine R2.trans ⟨fun j hj => ?_, fun q hq => ?_⟩
        · unfold r_fw
          rw [if_neg (fun z => hj.2.1 (by omega)), if_neg hj.1]
        · unfold r_fw
          rw [if_neg (by omega), if_neg (by omega)]
          exact Int.le_refl _
      obtain ⟨c, a1, a2, a3, a4, a5, a6⟩ := sw_num n i (d + 1) w3 S3 M3
      exact ⟨c, by omega, a2, by omega, a4, a5, R3.trans a6⟩
    · rw [if_neg hz]
      have M3 : Mq (upd r.2 (227 + i * 5 + 3) r.1) (i + (n + 1)) := fun k hk => by
        by_cases hks : k = i
        · subst hks
          rw [pk_us]
          have : r.1.toInt ≠ 0 := fun z => hz (i_eq0.mpr z)
          omega
        · rw [pk_un (by omega), eo _ (by omega)]
          exact hm k (by omega)
      obtain ⟨c, a1, a2, a3, a4, a5, a6⟩ := sw_num n (i + 1) d (N := upd r.2 (227 + i * 5 + 3) r.1) (by rw [show i + 1 + n = i + (n + 1) by omega]; exact wf) S2 (by rw [show i + 1 + n = i + (n + 1) by omega]; exact M3)
      exact ⟨c, by omega, a2, by omega, a4, a5, R2.trans a6⟩
theorem swA_num {N : Nat → Int32} {c0 c1 c2 c3 c4 : Nat} (h : WFc N c0 c1 c2 c3 c4) (hs : Sk N c0) (hm : Mq N c2) : ∃ c, c + (r_swA N).2 = c2 ∧ WFc (r_swA N).1 c0 c1 c c3 c4 ∧ c ≤ c2 ∧ Sk (r_swA N).1 c0 ∧ Mq (r_swA N).1 c ∧ Rw c0 N (r_swA N).1 := by
  have e : r_swA N = r_sw c2 0 N 0 := by
    unfold r_swA
    have := h.2.2.1.2
    rw [h.2.2.1.1, nI_clamp (by omega)]
  rw [e]
  obtain ⟨c, a1, a2, a3, a4, a5, a6⟩ := sw_num c2 0 0 (N := N) (by rw [Nat.zero_add]; exact h) hs (by rw [Nat.zero_add]; exact hm)
  exact ⟨c, by omega, a2, by omega, a4, a5, a6⟩
/-- the row of repairs and orders -/
def off (j : Nat) : Prop := j = 3 ∨ j = 4 ∨ 287 ≤ j
/-- the same but for repairs and orders -/
def Ag (A B : Nat → Int32) : Prop := ∀ j, ¬ off j → A j = B j
theorem Ag.upd {A B : Nat → Int32} (h : Ag A B) {k : Nat} {x y : Int32} (e : x = y) : Ag (upd A k x) (upd B k y) := fun j hj => by
  subst e
  by_cases z : j = k
  · subst z; rw [pk_us, pk_us]
  · rw [pk_un z, pk_un z]; exact h j hj
theorem noff {j : Nat} (h : 5 ≤ j) (h2 : j < 287) : ¬ off j := by unfold off; omega
theorem Ag.issue {A B : Nat → Int32} (h : Ag A B) {p : Nat} (hp : p < 8) {v w : Int32} (e : v = w) : Ag (r_issue A p v) (r_issue B p w) := by
  subst e
  have a := h (7 + p * 23 + 0) (noff (by omega) (by omega))
  have b := h (7 + p * 23 + 20) (noff (by omega) (by omega))
  unfold r_issue
  dsimp only
  rw [a]
  exact (h.upd rfl).upd (by rw [pk_un (by omega), pk_un (by omega), b])
theorem Ag.subs {A B : Nat → Int32} {p c : Nat} (hp : p < 8) (c4' : c ≤ 4) {v w : Int32} (hsub : ∀ k, k < c → ∃ s : Nat, s < 8 ∧ A (7 + p * 23 + (9 + k)) = nI s) (h : Ag A B) (e : v = w) : ∀ n, n ≤ c → (r_subs p n A v).1 = (r_subs p n B w).1 ∧ Ag (r_subs p n A v).2 (r_subs p n B w).2
  | 0, _ => ⟨e, h⟩
  | n + 1, hn => by
    obtain ⟨i1, i2⟩ := Ag.subs hp c4' hsub h e n (by omega)
    obtain ⟨s, s1, s2⟩ := hsub n (by omega)
    have e1 : (r_subs p n A v).2 (7 + p * 23 + (9 + n)) = nI s := by rw [r_subs_o n (by omega) (by omega), s2]
    have e2 : (r_subs p n B w).2 (7 + p * 23 + (9 + n)) = nI s := (i2 _ (noff (by omega) (by omega))).symm.trans e1
    show (_ - lss _ _) = (_ - lss _ _) ∧ Ag (r_issue _ _ _) (r_issue _ _ _)
    rw [e1, e2, nI_clamp (by omega), i1, i2 (7 + s * 23 + 0) (noff (by omega) (by omega))]
    exact ⟨rfl, i2.issue s1 rfl⟩
theorem Ag.serve {A B : Nat → Int32} {c0 c1 c2 c3 c4 p : Nat} {v w : Int32} (hN : WFc A c0 c1 c2 c3 c4) (hp : p < c0) (h : Ag A B) (e : v = w) : (r_serve A p v).1 = (r_serve B p w).1 ∧ Ag (r_serve A p v).2 (r_serve B p w).2 := by
  subst e
  obtain ⟨c, c4', hc, hsub⟩ := hN.2.2.2.2.2.1 p hp
  have k0 := hN.1.2
  unfold r_serve
  rw [← h (7 + p * 23 + 8) (noff (by omega) (by omega)), hc, nI_clamp (by omega), h (7 + p * 23 + 0) (noff (by omega) (by omega))]
  exact Ag.subs (by omega) c4' (fun k hk => by
    obtain ⟨s, s1, s2⟩ := hsub k hk
    exact ⟨s, by omega, by rw [r_issue_o (by omega) (by omega)]; exact s2⟩) (h.issue (by omega) rfl) rfl c (Nat.le_refl _)
theorem r_sw_off {c0 c1 c3 c4 : Nat} : ∀ (n i d : Nat) {N : Nat → Int32}, WFc N c0 c1 (i + n) c3 c4 → ∀ j, off j → (r_sw n i N d).1 j = N j
  | 0, _, _, _, _, _, _ => rfl
  | n + 1, i, d, N, h, j, hj => by
    obtain ⟨p, p1, p2⟩ := h.2.2.2.2.2.2.2.1 i (by omega)
    have k0 := h.1.2
    have k2 := h.2.2.1.2
    have wf := h.sv1 p1 (N (227 + i * 5 + 3)) (r_serve N p (N (227 + i * 5 + 3))).1 i (by omega)
    have eo : (r_serve N p (N (227 + i * 5 + 3))).2 j = N j := r_serve_x h p1 (by unfold off at hj; omega)
    rw [r_sw_s, p2, nI_clamp (by omega)]
    generalize r_serve N p (N (227 + i * 5 + 3)) = r at *
    have o1 : upd r.2 (227 + i * 5 + 3) r.1 j = N j := by rw [pk_un (by unfold off at hj; omega), eo]
    split
    · have w3 : WFc (r_fw (upd r.2 (227 + i * 5 + 3) r.1) i (i + n)) c0 c1 (i + n) c3 c4 := WFc.fw (c := i + n) wf (by omega)
      rw [r_sw_off n i (d + 1) w3 j hj]
      unfold r_fw
      rw [if_neg (by unfold off at hj; omega), if_neg (by unfold off at hj; omega)]
      exact o1
    · rw [r_sw_off n (i + 1) d (by rw [show i + 1 + n = i + (n + 1) by omega]; exact wf) j hj]
      exact o1
theorem Ag.fw {A B : Nat → Int32} (h : Ag A B) (i : Nat) {c : Nat} (hc : c + 1 ≤ 12) : Ag (r_fw A i c) (r_fw B i c) := fun j hj => by
  unfold r_fw
  split
  · exact h _ (noff (by omega) (by omega))
  · split
    · rfl
    · exact h j hj
theorem Ag.sw {c0 c1 c3 c4 : Nat} : ∀ (n i d : Nat) {A B : Nat → Int32}, WFc A c0 c1 (i + n) c3 c4 → Ag A B → (r_sw n i A d).2 = (r_sw n i B d).2 ∧ Ag (r_sw n i A d).1 (r_sw n i B d).1
  | 0, _, _, _, _, _, h => ⟨rfl, h⟩
  | n + 1, i, d, A, B, hw, h => by
    obtain ⟨p, p1, p2⟩ := hw.2.2.2.2.2.2.2.1 i (by omega)
    have k0 := hw.1.2
    have k2 := hw.2.2.1.2
    have wf := hw.sv1 p1 (A (227 + i * 5 + 3)) (r_serve A p (A (227 + i * 5 + 3))).1 i (by omega)
    have e3 := h (227 + i * 5 + 3) (noff (by omega) (by omega))
    obtain ⟨s1, s2⟩ := h.serve hw p1 e3
    rw [r_sw_s, r_sw_s, ← h (227 + i * 5 + 1) (noff (by omega) (by omega)), p2, nI_clamp (by omega), ← s1]
    have a2 := s2.upd (k := 227 + i * 5 + 3) (show (r_serve A p (A (227 + i * 5 + 3))).1 = (r_serve A p (A (227 + i * 5 + 3))).1 from rfl)
    split
    · exact Ag.sw n i (d + 1) (WFc.fw (c := i + n) wf (by omega)) (a2.fw i (by omega))
    · exact Ag.sw n (i + 1) d (by rw [show i + 1 + n = i + (n + 1) by omega]; exact wf) a2
theorem Ag.swA {A B : Nat → Int32} {c0 c1 c2 c3 c4 : Nat} (hw : WFc A c0 c1 c2 c3 c4) (h : Ag A B) : (r_swA A).2 = (r_swA B).2 ∧ Ag (r_swA A).1 (r_swA B).1 ∧ ∀ j, off j → (r_swA A).1 j = A j := by
  have k2 := hw.2.2.1.2
  have hw' : WFc A c0 c1 (0 + c2) c3 c4 := by rw [Nat.zero_add]; exact hw
  unfold r_swA
  rw [← h 2 (by unfold off; omega), hw.2.2.1.1, nI_clamp (by omega)]
  have := Ag.sw c2 0 0 hw' h
  exact ⟨this.1, this.2, fun j hj => r_sw_off c2 0 0 hw' j hj⟩
end D1

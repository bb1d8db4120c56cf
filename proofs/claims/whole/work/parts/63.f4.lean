section F4
/-- what serving leaves as it is, but stocks and what was issued -/
def svx (j : Nat) : Prop := ∀ q, q < 8 → j ≠ 7 + q * 23 + 0 ∧ j ≠ 7 + q * 23 + 20
/-- the row's structure and its small numbers stay; stocks do not grow -/
theorem GI.down {N N' : Nat → Int32} {c0 c1 c2 c3 c4 : Nat} {B : Int} (h : GI N c0 c1 c2 c3 c4 B) (e : ∀ j, j < 359 → svx j → N' j = N j) (hs : ∀ p, p < c0 → 0 ≤ (N' (7 + p * 23 + 0)).toInt ∧ (N' (7 + p * 23 + 0)).toInt ≤ (N (7 + p * 23 + 0)).toInt) : GI N' c0 c1 c2 c3 c4 B := by
  have k0 := h.wf.1.2
  have k1 := h.wf.2.1.2
  have k2 := h.wf.2.2.1.2
  have k3 := h.wf.2.2.2.1.2
  have k4 := h.wf.2.2.2.2.1.2
  have n := h.ni
  have ep : ∀ p k, p < c0 → k < 23 → k ≠ 0 → k ≠ 20 → N' (7 + p * 23 + k) = N (7 + p * 23 + k) := fun p k hp hk h0 h2 => e _ (by omega) (fun q hq => by omega)
  have eh : ∀ j, j < 359 → 191 ≤ j → N' j = N j := fun j hj h1 => e j hj (fun q hq => by omega)
  refine ⟨⟨n.wf.agree9 (fun j hj hst => e j hj (fun q hq => by unfold stru at hst; omega)), fun p hp => (hs p hp).1, fun i hi => ?_, fun p hp => ?_, fun p hp => ?_, fun i hi => ?_, fun i hi => ?_, fun p hp => ?_, n.bb⟩, fun p c hp hc c4' => ?_, fun k c i hk hc c4' hi => ?_, fun p hp => ?_, h.b16⟩
  · rw [eh _ (by omega) (by omega)]; exact n.mq i hi
  · have := n.pt p hp
    unfold Pt at *
    rw [ep p 6 hp (by decide) (by decide) (by decide), ep p 2 hp (by decide) (by decide) (by decide), ep p 3 hp (by decide) (by decide) (by decide)]
    exact this
  · rw [ep p 7 hp (by decide) (by decide) (by decide)]; exact n.hu p hp
  · rw [eh _ (by omega) (by omega)]; exact n.rq i hi
  · rw [eh _ (by omega) (by omega)]; exact n.oq i hi
  · have z := n.zz p hp
    have y := hs p hp
    rw [sI_eq c3 (fun j h1 h2 => eh j (by omega) (by omega)), sI_eq c4 (fun j h1 h2 => eh j (by omega) (by omega))]
    omega
  · rw [ep p 8 hp (by decide) (by decide) (by decide)] at hc
    obtain ⟨d1, d2⟩ := h.dst p c hp hc c4'
    refine ⟨fun i hi => ?_, fun i j hij hj => ?_⟩
    · rw [ep p (9 + i) hp (by omega) (by omega) (by omega)]; exact d1 i hi
    · rw [ep p (9 + i) hp (by omega) (by omega) (by omega), ep p (9 + j) hp (by omega) (by omega) (by omega)]; exact d2 i j hij hj
  · rw [eh _ (by omega) (by omega)] at hc
    rw [eh _ (by omega) (by omega)]
    exact h.kq k c i hk hc c4' hi
  · rw [ep p 22 hp (by decide) (by decide) (by decide), ep p 21 hp (by decide) (by decide) (by decide)]
    exact h.rs p hp
theorem GI.serve {N : Nat → Int32} {c0 c1 c2 c3 c4 p : Nat} {v : Int32} {B : Int} (h : GI N c0 c1 c2 c3 c4 B) (hp : p < c0) (hv : 0 ≤ v.toInt) : GI (r_serve N p v).2 c0 c1 c2 c3 c4 B := by
  obtain ⟨n1, n2, n3, n4⟩ := serve_num h.wf h.ni.sk hp hv
  exact h.down (fun j hj hs => r_serve_x h.wf hp hs) (fun q hq => ⟨n1 q hq, n4 q hq⟩)
theorem GI.take {c0 c1 c2 c3 c4 k c : Nat} {B : Int} (hk : k < c1) (c4' : c ≤ 4) : ∀ (n i : Nat) (N : Nat → Int32) (o : Int32), i + n = c → N (191 + k * 9) = nI c → GI N c0 c1 c2 c3 c4 B → (g_take k n i N o).2.1 = true → GI (g_take k n i N o).1 c0 c1 c2 c3 c4 B
  | 0, i, N, o, _, _, h, _ => h
  | n + 1, i, N, o, hi, hc, h, ht => by
    have k0 := h.wf.1.2
    obtain ⟨c', y1, y2, y3⟩ := h.wf.2.2.2.2.2.2.1 k hk
    have ec : c' = c := (nI_eq (by omega) (by omega)).mp (y2.symm.trans hc)
    subst ec
    obtain ⟨p, p1, p2⟩ := y3 i (by omega)
    have hq := h.kq k c' i hk hc c4' (by omega)
    rw [g_take_s k n i N o p2 (by omega)] at ht ⊢
    by_cases z : s_av N p (N (7 + p * 23 + 8)).toNatClampNeg < N (191 + k * 9 + 1 + 2 * i + 1)
    · rw [if_pos z] at ht
      exact Bool.noConfusion (show false = true from ht)
    · rw [if_neg z] at ht ⊢
      exact GI.take hk c4' n (i + 1) _ _ (by omega) (by rw [r_serve_o h.wf p1 (by omega)]; exact hc) (h.serve p1 (by omega)) ht
theorem NI.fw {N : Nat → Int32} {c0 c1 c c3 c4 i : Nat} {B : Int} (h : NI N c0 c1 (c + 1) c3 c4 B) (hi : i < c + 1) : NI (r_fw N i c) c0 c1 c c3 c4 B := by
  have k0 := h.wf.1.2
  have k2 := h.wf.2.2.1.2
  have k3 := h.wf.2.2.2.1.2
  have k4 := h.wf.2.2.2.2.1.2
  have lo : ∀ j, j ≠ 2 → (j < 227 ∨ 287 ≤ j) → r_fw N i c j = N j := fun j h1 h2 => by
    unfold r_fw
    rw [if_neg (by omega), if_neg h1]
  refine ⟨h.wf.fw hi, fun p hp => ?_, fun k hk => ?_, fun p hp => ?_, fun p hp => ?_, fun i hi => ?_, fun i hi => ?_, fun p hp => ?_, h.bb⟩
  · rw [lo _ (by omega) (by omega)]; exact h.sk p hp
  · unfold r_fw
    by_cases hks : k < i
    · rw [if_neg (by omega), if_neg (by omega)]
      exact h.mq k (by omega)
    · rw [if_pos (by omega), show 227 + k * 5 + 3 + 5 = 227 + (k + 1) * 5 + 3 by omega]
      exact h.mq (k + 1) (by omega)
  · have := h.pt p hp
    unfold Pt at *
    rw [lo _ (by omega) (by omega), lo _ (by omega) (by omega), lo _ (by omega) (by omega)]
    exact this
  · rw [lo _ (by omega) (by omega)]; exact h.hu p hp
  · rw [lo _ (by omega) (by omega)]; exact h.rq i hi
  · rw [lo _ (by omega) (by omega)]; exact h.oq i hi
  · rw [lo _ (by omega) (by omega), sI_eq c3 (fun j h1 h2 => lo j (by omega) (by omega)), sI_eq c4 (fun j h1 h2 => lo j (by omega) (by omega))]
    exact h.zz p hp
/-- NI is known, and nothing else has changed that GI speaks of -/
theorem GI.of' {N N' : Nat → Int32} {c0 c1 c2 c3 c4 c2' c3' c4' : Nat} {B B' : Int} (h : GI N c0 c1 c2 c3 c4 B) (n : NI N' c0 c1 c2' c3' c4' B') (e : ∀ j, (7 ≤ j ∧ j < 191 ∧ ((8 ≤ (j - 7) % 23 ∧ (j - 7) % 23 ≤ 12) ∨ 21 ≤ (j - 7) % 23)) ∨ (191 ≤ j ∧ j < 227) → N' j = N j) (hB : B ≤ B') (hB2 : B' ≤ 16000000) : GI N' c0 c1 c2' c3' c4' B' := by
  have k0 := h.wf.1.2
  have k1 := h.wf.2.1.2
  refine ⟨n, fun p c hp hc c4' => ?_, fun k c i hk hc c4' hi => ?_, fun p hp => ?_, hB2⟩
  · rw [e _ (by omega)] at hc
    obtain ⟨d1, d2⟩ := h.dst p c hp hc c4'
    refine ⟨fun i hi => ?_, fun i j hij hj => ?_⟩
    · rw [e _ (by omega)]; exact d1 i hi
    · rw [e (7 + p * 23 + (9 + i)) (by omega), e (7 + p * 23 + (9 + j)) (by omega)]; exact d2 i j hij hj
  · rw [e _ (by omega)] at hc
    rw [e _ (by omega)]
    exact h.kq k c i hk hc c4' hi
  · rw [e (7 + p * 23 + 22) (by omega), e (7 + p * 23 + 21) (by omega)]
    have := h.rs p hp
    omega
theorem GI.fw {N : Nat → Int32} {c0 c1 c c3 c4 i : Nat} {B : Int} (h : GI N c0 c1 (c + 1) c3 c4 B) (hi : i < c + 1) : GI (r_fw N i c) c0 c1 c c3 c4 B :=
  h.of' (h.ni.fw hi) (fun j hj => by unfold r_fw; rw [if_neg (by omega), if_neg (by omega)]) (Int.le_refl _) h.b16
theorem swA_x {N : Nat → Int32} {c0 c1 c2 c3 c4 : Nat} {B : Int} (h : NI N c0 c1 c2 c3 c4 B) {j : Nat} (hj : swx j) : (r_swA N).1 j = N j := by
  obtain ⟨c, a1, a2, a3, a4, a5, a6⟩ := swA_num h.wf h.sk h.mq
  exact a6.1 j hj
theorem GI.bkG {N : Nat → Int32} {c0 c1 c2 c3 c4 p : Nat} {v : Int32} {B : Int} (h : GI N c0 c1 c2 c3 c4 B) (hp : p < c0) (hv : 0 ≤ v.toInt ∧ v.toInt ≤ 999) (hB : B + 999 ≤ 16000000) : NI (r_bkG N p v) c0 c1 c2 c3 c4 (B + 999) ∧ ∃ c, c + (r_swA (r_bkG N p v)).2 = c2 ∧ GI (r_swA (r_bkG N p v)).1 c0 c1 c c3 c4 (B + 999) := by
  have k0 := h.wf.1.2
  have n := h.ni.le (B' := B + 999) (by omega) (by omega)
  have z := h.ni.zz p hp
  have n2 : NI (r_bkG N p v) c0 c1 c2 c3 c4 (B + 999) := n.stk hp hv.1 (by omega) bkG_at (fun j _ hn hj => bkG_o ⟨hj, fun z => by unfold nix stru at hn; omega⟩)
  refine ⟨n2, ?_⟩
  obtain ⟨c, a1, a2, a3⟩ := n2.swA
  refine ⟨c, a1, h.of' a3 (fun j hj => ?_) (by omega) hB⟩
  rw [swA_x n2 ⟨by omega, by omega, fun q hq => by omega⟩, bkG_o ⟨by omega, by omega⟩]
theorem GI.bkB {N : Nat → Int32} {c0 c1 c2 c3 c4 p : Nat} {v : Int32} {B : Int} (h : GI N c0 c1 c2 c3 c4 B) (hp : p < c0) : GI (r_bkB N p v) c0 c1 c2 c3 c4 B := by
  have k0 := h.wf.1.2
  exact h.agree (fun j hj hg => bkB_o ⟨fun z => by unfold gix nix stru at hg; omega, fun z => by unfold gix nix stru at hg; omega⟩)
theorem NI.start3 {N : Nat → Int32} {c0 c1 c2 c c4 p : Nat} {v e : Int32} {B : Int} (h : NI N c0 c1 c2 c c4 B) (hc : c < 12) (hp : p < c0) (hv : 0 ≤ v.toInt ∧ v.toInt ≤ 999) (hz : (N (7 + p * 23 + 0)).toInt + sI N 287 p c + sI N 323 p c4 + v.toInt ≤ B) : NI (r_start N 287 3 c (nI p) v e) c0 c1 c2 (c + 1) c4 B := by
  have k0 := h.wf.1.2
  have k2 := h.wf.2.2.1.2
  have k4 := h.wf.2.2.2.2.1.2
  have lo : ∀ j, j ≠ 3 → (j < 287 + c * 3 ∨ 287 + c * 3 + 3 ≤ j) → r_start N 287 3 c (nI p) v e j = N j := fun j h1 h2 => by
    unfold r_start r_st3
    rw [pk_un h1, pk_un (by omega), pk_un (by omega), pk_un (by omega)]
  have e0 : r_start N 287 3 c (nI p) v e (287 + c * 3 + 0) = nI p := by
    unfold r_start r_st3
    rw [pk_un (by omega), pk_un (by omega), pk_un (by omega), Nat.add_zero, pk_us]
  have e1 : r_start N 287 3 c (nI p) v e (287 + c * 3 + 1) = v := by
    unfold r_start r_st3
    rw [pk_un (by omega), pk_un (by omega), pk_us]
  have ep : ∀ q k, q < c0 → k < 23 → r_start N 287 3 c (nI p) v e (7 + q * 23 + k) = N (7 + q * 23 + k) := fun q k hq hk => lo _ (by omega) (by omega)
  refine ⟨h.wf.start3 hc hp v e, fun q hq => ?_, fun i hi => ?_, fun q hq => ?_, fun q hq => ?_, fun i hi => ?_, fun i hi => ?_, fun q hq => ?_, h.bb⟩
  · rw [ep q 0 hq (by decide)]; exact h.sk q hq
  · rw [lo _ (by omega) (by omega)]; exact h.mq i hi
  · have := h.pt q hq
    unfold Pt at *
    rw [ep q 6 hq (by decide), ep q 2 hq (by decide), ep q 3 hq (by decide)]
    exact this
  · rw [ep q 7 hq (by decide)]; exact h.hu q hq
  · by_cases z : i = c
    · subst z; rw [e1]; exact hv
    · rw [lo _ (by omega) (by omega)]; exact h.rq i (by omega)
  · rw [lo _ (by omega) (by omega)]; exact h.oq i hi
  · have s3 : sI (r_start N 287 3 c (nI p) v e) 287 q c = sI N 287 q c := sI_eq c (fun j h1 h2 => lo j (by omega) (by omega))
    have s4 : sI (r_start N 287 3 c (nI p) v e) 323 q c4 = sI N 323 q c4 := sI_eq c4 (fun j h1 h2 => lo j (by omega) (by omega))
    have es : sI (r_start N 287 3 c (nI p) v e) 287 q (c + 1) = sI (r_start N 287 3 c (nI p) v e) 287 q c + (if r_start N 287 3 c (nI p) v e (287 + c * 3 + 0) = nI q then (r_start N 287 3 c (nI p) v e (287 + c * 3 + 1)).toInt else 0) := rfl
    rw [ep q 0 hq (by decide), es, s3, s4, e0, e1]
    have zz := h.zz q hq
    by_cases z : q = p
    · subst z; rw [if_pos rfl]; omega
    · rw [if_neg (fun y => z ((nI_eq (by omega) (by omega)).mp y).symm)]; omega
theorem GI.send {N : Nat → Int32} {c0 c1 c2 c3 c4 p : Nat} {v : Int32} {B : Int} (h : GI N c0 c1 c2 c3 c4 B) (hp : p < c0) (hc : c3 < 12) (hv : 0 ≤ v.toInt ∧ v.toInt ≤ 999) (hB : B + 999 ≤ 16000000) : GI (r_send N p v c3) c0 c1 c2 (c3 + 1) c4 (B + 999) := by
  have k0 := h.wf.1.2
  have z := h.ni.zz p hp
  have n := h.ni.le (B' := B + 999) (by omega) (by omega)
  have ea : ∀ (x y : Int32) (j : Nat), j ≠ 7 + p * 23 + 1 → j ≠ 7 + p * 23 + 17 → upd (upd N (7 + p * 23 + 1) x) (7 + p * 23 + 17) y j = N j := fun x y j h1 h2 => by rw [pk_un h2, pk_un h1]
  unfold r_send
  dsimp only
  generalize N (7 + p * 23 + 1) + -v = X1
  generalize upd N (7 + p * 23 + 1) X1 (7 + p * 23 + 17) + v = X2
  have n2 : NI (upd (upd N (7 + p * 23 + 1) X1) (7 + p * 23 + 17) X2) c0 c1 c2 c3 c4 (B + 999) := n.agree (fun j _ hn => ea _ _ j (fun z => by unfold nix stru at hn; omega) (fun z => by unfold nix stru at hn; omega))
  have n3 := n2.start3 (e := N 5 + N (7 + p * 23 + 5)) hc hp hv (by
    rw [ea _ _ _ (by omega) (by omega), sI_eq c3 (fun j h1 h2 => ea _ _ j (by omega) (by omega)), sI_eq c4 (fun j h1 h2 => ea _ _ j (by omega) (by omega))]
    omega)
  refine h.of' n3 (fun j hj => ?_) (by omega) hB
  unfold r_start r_st3
  rw [pk_un (by omega), pk_un (by omega), pk_un (by omega), pk_un (by omega), ea _ _ _ (by omega) (by omega)]
/-- what the days leave as it is -/
def dyx (j : Nat) : Prop := (7 ≤ j ∧ j < 191 ∧ ((8 ≤ (j - 7) % 23 ∧ (j - 7) % 23 ≤ 12) ∨ 21 ≤ (j - 7) % 23)) ∨ (191 ≤ j ∧ j < 227)
theorem dyx.sw {j : Nat} (h : dyx j) : swx j := ⟨by unfold dyx at h; omega, by unfold dyx at h; omega, fun q hq => by unfold dyx at h; omega⟩
theorem er_x {c0 c1 c4 : Nat} {B : Int} {j : Nat} (hj : dyx j) : ∀ (n i : Nat) {N : Nat → Int32} {s : Int32} {c2 : Nat}, NI N c0 c1 c2 (i + n) c4 B → (r_er n i N s).1 j = N j
  | 0, _, _, _, _, _ => rfl
  | n + 1, i, N, s, c2, h => by
    have e : r_er (n + 1) i N s = if N (287 + i * 3 + 2) ≤ N 5 then r_er n i (r_er1 N i (i + n)).2 (s + (r_er1 N i (i + n)).1) else r_er n (i + 1) N s := rfl
    rw [e]
    split
    · obtain ⟨c, a1, a2, a3⟩ := h.er1 (i := i) (c := i + n) (by omega)
      rw [er_x hj n i a2]
      obtain ⟨p, p1, p2⟩ := h.wf.2.2.2.2.2.2.2.2.1 i (by omega)
      have k0 := h.wf.1.2
      have k3 := h.wf.2.2.2.1.2
      obtain ⟨f1, f2⟩ := h.fu3 (i := i) (c := i + n) (by omega)
      have e1 : r_fu N 287 3 i (i + n) j = N j := by
        unfold r_fu
        rw [if_neg (by unfold dyx at hj; omega), if_neg (by unfold dyx at hj; omega)]
      have R := f1.rp p1 (h.rq i (by omega)) (by
        have : r_fu N 287 3 i (i + n) (7 + p * 23 + 0) = N (7 + p * 23 + 0) := by
          unfold r_fu
          rw [if_neg (by omega), if_neg (by omega)]
        rw [this]; exact f2 p p1 p2)
      unfold r_er1
      dsimp only
      rw [p2, nI_clamp (by omega)]
      split
      · rw [rp_o (by unfold dyx at hj; omega)]; exact e1
      · rw [swA_x R hj.sw, rp_o (by unfold dyx at hj; omega)]; exact e1
    · exact er_x hj n (i + 1) (by rw [show i + 1 + n = i + (n + 1) by omega]; exact h)
theorem ro_x {c0 c1 c3 : Nat} {B : Int} {j : Nat} (hj : dyx j) : ∀ (n i : Nat) {N : Nat → Int32} {s : Int32} {c2 : Nat}, NI N c0 c1 c2 c3 (i + n) B → (r_ro n i N s).1 j = N j
  | 0, _, _, _, _, _ => rfl
  | n + 1, i, N, s, c2, h => by
    have e : r_ro (n + 1) i N s = if N (323 + i * 3 + 2) ≤ N 5 then r_ro n i (r_ro1 N i (i + n)) (s + N (323 + i * 3 + 1)) else r_ro n (i + 1) N s := rfl
    rw [e]
    split
    · obtain ⟨c, a1, a2⟩ := h.ro1 (i := i) (c := i + n) (by omega)
      rw [ro_x hj n i a2]
      obtain ⟨p, p1, p2⟩ := h.wf.2.2.2.2.2.2.2.2.2 i (by omega)
      have k0 := h.wf.1.2
      have k3 := h.wf.2.2.2.1.2
      have k4 := h.wf.2.2.2.2.1.2
      obtain ⟨f1, f2⟩ := h.fu4 (i := i) (c := i + n) (by omega)
      have e1 : ∀ j, j < 323 → j ≠ 4 → r_fu N 323 4 i (i + n) j = N j := fun j h1 h2 => by
        unfold r_fu
        rw [if_neg (by omega), if_neg h2]
      have R := f1.stk (N' := r_in (r_fu N 323 4 i (i + n)) p (N (323 + i * 3 + 1))) p1 (h.oq i (by omega)) (by rw [e1 _ (by omega) (by omega)]; exact f2 p p1 p2) in_at (fun j _ hn hj => in_o ⟨hj, fun z => by unfold nix stru at hn; omega⟩)
      unfold r_ro1
      rw [p2, nI_clamp (by omega), swA_x R hj.sw, in_o (by unfold dyx at hj; omega)]
      exact e1 j (by unfold dyx at hj; omega) (by unfold dyx at hj; omega)
    · exact ro_x hj n (i + 1) (by rw [show i + 1 + n = i + (n + 1) by omega]; exact h)
theorem mo_x {j : Nat} (hj : dyx j) : ∀ (n i : Nat) {N : Nat → Int32}, r_mo n i N j = N j
  | 0, _, _ => rfl
  | n + 1, i, N => by
    show r_mo n (i + 1) (r_mo1 N i) j = N j
    rw [mo_x hj n (i + 1)]
    unfold r_mo1
    split
    · unfold r_start r_st3
      rw [pk_un (by unfold dyx at hj; omega), pk_un (by unfold dyx at hj; omega), pk_un (by unfold dyx at hj; omega), pk_un (by unfold dyx at hj; omega)]
    · rfl
theorem day_x {N : Nat → Int32} {c0 c1 c2 c3 c4 : Nat} {B : Int} (h : NI N c0 c1 c2 c3 c4 B) {j : Nat} (hj : dyx j) : (r_day N).1 j = N j := by
  have h1 : NI (upd N 5 (N 5 + 1)) c0 c1 c2 c3 c4 B := h.agree (fun j _ hn => pk_un (by unfold nix stru at hn; omega))
  have k3 := h1.wf.2.2.2.1
  unfold r_day
  dsimp only
  rw [k3.1, nI_clamp (by omega), mo_x hj]
  obtain ⟨c2', c3', a1, a2, a3⟩ := NI.er c3 0 (N := upd N 5 (N 5 + 1)) (s := 0) (c2 := c2) (by rw [Nat.zero_add]; exact h1)
  have k4 := a3.wf.2.2.2.2.1
  rw [k4.1, nI_clamp (by omega), ro_x hj c4 0 (c2 := c2') (c3 := c3') (c0 := c0) (c1 := c1) (B := B) (by rw [Nat.zero_add]; exact a3), er_x hj c3 0 (c2 := c2) (c4 := c4) (c0 := c0) (c1 := c1) (B := B) (by rw [Nat.zero_add]; exact h1)]
  exact pk_un (by unfold dyx at hj; omega)
theorem GI.days {N : Nat → Int32} {c0 c1 c2 c3 c4 c2' c3' c4' : Nat} {B : Int} (h : GI N c0 c1 c2 c3 c4 B) (k : Nat) (wf : WFc (r_days k N).1 c0 c1 c2' c3' c4') : GI (r_days k N).1 c0 c1 c2' c3' c4' B := by
  have key : ∀ k, ∃ a b c, NI (r_days k N).1 c0 c1 a b c B ∧ ∀ j, dyx j → (r_days k N).1 j = N j := by
    intro k
    induction k with
    | zero => exact ⟨c2, c3, c4, h.ni, fun j _ => rfl⟩
    | succ k ih =>
      obtain ⟨a, b, c, n, e⟩ := ih
      obtain ⟨a', b', c', n'⟩ := n.day
      exact ⟨a', b', c', n', fun j hj => (day_x n hj).trans (e j hj)⟩
  obtain ⟨a, b, c, n, e⟩ := key k
  obtain ⟨-, -, u2, u3, u4⟩ := n.wf.uniq wf
  subst u2; subst u3; subst u4
  exact h.of' n (fun j hj => e j hj) (Int.le_refl _) h.b16
theorem GI.req {N : Nat → Int32} {c0 c1 c2 c3 c4 c2' p : Nat} {v : Int32} {B : Int} (h : GI N c0 c1 c2 c3 c4 B) (hp : p < c0) (hv : 1 ≤ v.toInt ∧ v.toInt ≤ 999) (hfull : c2 < 12 ∨ (r_serve N p v).1 ≤ 0) (hB : B + 999 ≤ 16000000) (wf : WFc (r_req N p v c2) c0 c1 c2' c3 c4) : GI (r_req N p v c2) c0 c1 c2' c3 c4 (B + 999) := by
  have k0 := h.wf.1.2
  have k2 := h.wf.2.2.1.2
  obtain ⟨n1, n2, n3, n4⟩ := serve_num h.wf h.ni.sk hp (v := v) (by omega)
  have g1 := h.serve hp (v := v) (by omega)
  have kx := wf.2.2.1
  -- the row after serving
  have e1 : ∀ j, r_req1 N p v j = if j = 7 + p * 23 + 22 then (r_serve N p v).2 (7 + p * 23 + 22) + (v - (r_serve N p v).1) else if j = 7 + p * 23 + 21 then (r_serve N p v).2 (7 + p * 23 + 21) + v else (r_serve N p v).2 j := fun j => by
    unfold r_req1
    by_cases z2 : j = 7 + p * 23 + 22
    · subst z2
      rw [pk_us, if_pos rfl, pk_un (by omega)]
    · rw [pk_un z2, if_neg z2]
      by_cases z1 : j = 7 + p * 23 + 21
      · subst z1
        rw [pk_us, if_pos rfl]
      · rw [pk_un z1, if_neg z1]
  have f6 : ∀ j, r_req N p v c2 j = if j = 6 then (if (r_serve N p v).1 ≤ 0 then r_req1 N p v else upd (r_wait (r_req1 N p v) c2 (nI p) v (r_serve N p v).1) 2 (nI c2 + 1)) 6 + 1 else (if (r_serve N p v).1 ≤ 0 then r_req1 N p v else upd (r_wait (r_req1 N p v) c2 (nI p) v (r_serve N p v).1) 2 (nI c2 + 1)) j := fun j => by
    unfold r_req
    by_cases z : j = 6
    · subst z; rw [pk_us, if_pos rfl]
    · rw [pk_un z, if_neg z]
  have lo : ∀ j, j ≠ 6 → j ≠ 2 → (j < 227 + c2 * 5 ∨ 227 + c2 * 5 + 5 ≤ j) → r_req N p v c2 j = r_req1 N p v j := fun j h1 h2 h3 => by
    rw [f6, if_neg h1]
    split
    · rfl
    · rw [pk_un h2, r_wait_o h3]
  have lo2 : ∀ j, j ≠ 6 → j ≠ 2 → (j < 227 + c2 * 5 ∨ 227 + c2 * 5 + 5 ≤ j) → j ≠ 7 + p * 23 + 21 → j ≠ 7 + p * 23 + 22 → r_req N p v c2 j = (r_serve N p v).2 j := fun j h1 h2 h3 h4 h5 => by
    rw [lo j h1 h2 h3, e1, if_neg h5, if_neg h4]
  have hi9 : ∀ j, 287 ≤ j → r_req N p v c2 j = (r_serve N p v).2 j := fun j hj => by
    by_cases y : c2 < 12
    · exact lo2 j (by omega) (by omega) (by omega) (by omega) (by omega)
    · have z := hfull.resolve_left y
      rw [f6, if_neg (by omega), if_pos z, e1, if_neg (by omega), if_neg (by omega)]
  have cnt : (c2' = c2 ∧ (r_serve N p v).1 ≤ 0) ∨ (c2' = c2 + 1 ∧ ¬ (r_serve N p v).1 ≤ 0 ∧ r_req N p v c2 (227 + c2 * 5 + 3) = (r_serve N p v).1) := by
    by_cases z : (r_serve N p v).1 ≤ 0
    · refine Or.inl ⟨(nI_eq (by omega) (by omega)).mp (kx.1.symm.trans ?_), z⟩
      rw [f6, if_neg (by decide), if_pos z, e1, if_neg (by omega), if_neg (by omega), r_serve_s (by omega) (h.wf.sub hp) (Or.inl (by decide))]
      exact h.wf.2.2.1.1
    · refine Or.inr ⟨(nI_eq (by omega) (by omega)).mp (kx.1.symm.trans ?_), z, ?_⟩
      · rw [f6, if_neg (by decide), if_neg z, pk_us]; exact nI_1 c2
      · rw [f6, if_neg (by omega), if_neg z, pk_un (by omega)]
        unfold r_wait
        rw [pk_un (by omega), pk_us]
  have m1 : (r_serve N p v).1.toInt ≤ v.toInt := n3
  have ev : (v - (r_serve N p v).1).toInt = v.toInt - (r_serve N p v).1.toInt := isub_i (by omega) (by omega)
  have bb := h.ni.bb
  refine ⟨⟨wf, fun q hq => ?_, fun i hi => ?_, fun q hq => ?_, fun q hq => ?_, fun i hi => ?_, fun i hi => ?_, fun q hq => ?_, by omega⟩, fun q c hq hc c4' => ?_, fun k c i hk hc c4' hi => ?_, fun q hq => ?_, hB⟩
  · rw [lo2 _ (by omega) (by omega) (by omega) (by omega) (by omega)]; exact g1.ni.sk q hq
  · by_cases z : i < c2
    · rw [lo2 _ (by omega) (by omega) (by omega) (by omega) (by omega)]; exact g1.ni.mq i z
    · rcases cnt with ⟨e, _⟩ | ⟨e, y, w⟩
      · omega
      · rw [show i = c2 by omega, w]
        have : ¬ (r_serve N p v).1.toInt ≤ 0 := fun z => y (i_le0.mpr z)
        omega
  · have := g1.ni.pt q hq
    unfold Pt at *
    rw [lo2 _ (by omega) (by omega) (by omega) (by omega) (by omega), lo2 _ (by omega) (by omega) (by omega) (by omega) (by omega), lo2 _ (by omega) (by omega) (by omega) (by omega) (by omega)]
    exact this
  · rw [lo2 _ (by omega) (by omega) (by omega) (by omega) (by omega)]; exact g1.ni.hu q hq
  · rw [hi9 _ (by omega)]; exact g1.ni.rq i hi
  · rw [hi9 _ (by omega)]; exact g1.ni.oq i hi
  · have zz := g1.ni.zz q hq
    have e0 : r_req N p v c2 (7 + q * 23 + 0) = (r_serve N p v).2 (7 + q * 23 + 0) := lo2 _ (by omega) (by omega) (by omega) (by omega) (by omega)
    rw [e0, sI_eq c3 (fun j h1 h2 => hi9 j (by omega)), sI_eq c4 (fun j h1 h2 => hi9 j (by omega))]
    omega
  · rw [lo2 _ (by omega) (by omega) (by omega) (by omega) (by omega)] at hc
    obtain ⟨d1, d2⟩ := g1.dst q c hq hc c4'
    refine ⟨fun i hi => ?_, fun i j hij hj => ?_⟩
    · rw [lo2 _ (by omega) (by omega) (by omega) (by omega) (by omega)]; exact d1 i hi
    · rw [lo2 (7 + q * 23 + (9 + i)) (by omega) (by omega) (by omega) (by omega) (by omega), lo2 (7 + q * 23 + (9 + j)) (by omega) (by omega) (by omega) (by omega) (by omega)]; exact d2 i j hij hj
  · have k1 := h.wf.2.1.2
    rw [lo2 _ (by omega) (by omega) (by omega) (by omega) (by omega)] at hc
    rw [lo2 _ (by omega) (by omega) (by omega) (by omega) (by omega)]
    exact g1.kq k c i hk hc c4' hi
  · have r1 := g1.rs q hq
    rw [lo _ (by omega) (by omega) (by omega), lo _ (by omega) (by omega) (by omega), e1, e1]
    by_cases z : q = p
    · subst z
      rw [if_pos rfl, if_neg (by omega), if_pos rfl]
      have a1 : ((r_serve N q v).2 (7 + q * 23 + 22) + (v - (r_serve N q v).1)).toInt = ((r_serve N q v).2 (7 + q * 23 + 22)).toInt + (v.toInt - (r_serve N q v).1.toInt) := by
        rw [iadd_i (by omega) (by omega), ev]
      have a2 : ((r_serve N q v).2 (7 + q * 23 + 21) + v).toInt = ((r_serve N q v).2 (7 + q * 23 + 21)).toInt + v.toInt := iadd_i (by omega) (by omega)
      rw [a1, a2]
      omega
    · rw [if_neg (by omega), if_neg (by omega), if_neg (by omega), if_neg (by omega)]
      omega
end F4

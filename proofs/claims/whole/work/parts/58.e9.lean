section E9
/-- a row of a running planner: all numbers that matter are in their ranges; B bounds the pieces -/
def GI (N : Nat → Int32) (c0 c1 c2 c3 c4 : Nat) (B : Int) : Prop := NI N c0 c1 c2 c3 c4 B ∧ Dst N c0 ∧ (∀ k c i, k < c1 → N (191 + k * 9) = nI c → c ≤ 4 → i < c → 1 ≤ (N (191 + k * 9 + 1 + 2 * i + 1)).toInt ∧ (N (191 + k * 9 + 1 + 2 * i + 1)).toInt ≤ 9) ∧ (∀ p, p < c0 → 0 ≤ (N (7 + p * 23 + 22)).toInt ∧ (N (7 + p * 23 + 22)).toInt ≤ (N (7 + p * 23 + 21)).toInt ∧ (N (7 + p * 23 + 21)).toInt ≤ B) ∧ B ≤ 16000000
theorem GI.wf {N : Nat → Int32} {c0 c1 c2 c3 c4 : Nat} {B : Int} (h : GI N c0 c1 c2 c3 c4 B) : WFc N c0 c1 c2 c3 c4 := h.1.1
theorem GI.ni {N : Nat → Int32} {c0 c1 c2 c3 c4 : Nat} {B : Int} (h : GI N c0 c1 c2 c3 c4 B) : NI N c0 c1 c2 c3 c4 B := h.1
theorem GI.dst {N : Nat → Int32} {c0 c1 c2 c3 c4 : Nat} {B : Int} (h : GI N c0 c1 c2 c3 c4 B) : Dst N c0 := h.2.1
theorem GI.kq {N : Nat → Int32} {c0 c1 c2 c3 c4 : Nat} {B : Int} (h : GI N c0 c1 c2 c3 c4 B) : ∀ k c i, k < c1 → N (191 + k * 9) = nI c → c ≤ 4 → i < c → 1 ≤ (N (191 + k * 9 + 1 + 2 * i + 1)).toInt ∧ (N (191 + k * 9 + 1 + 2 * i + 1)).toInt ≤ 9 := h.2.2.1
theorem GI.rs {N : Nat → Int32} {c0 c1 c2 c3 c4 : Nat} {B : Int} (h : GI N c0 c1 c2 c3 c4 B) : ∀ p, p < c0 → 0 ≤ (N (7 + p * 23 + 22)).toInt ∧ (N (7 + p * 23 + 22)).toInt ≤ (N (7 + p * 23 + 21)).toInt ∧ (N (7 + p * 23 + 21)).toInt ≤ B := h.2.2.2.1
theorem GI.b16 {N : Nat → Int32} {c0 c1 c2 c3 c4 : Nat} {B : Int} (h : GI N c0 c1 c2 c3 c4 B) : B ≤ 16000000 := h.2.2.2.2
theorem NI.le {N : Nat → Int32} {c0 c1 c2 c3 c4 : Nat} {B B' : Int} (h : NI N c0 c1 c2 c3 c4 B) (hB : B ≤ B') (hB2 : B' ≤ 20000000) : NI N c0 c1 c2 c3 c4 B' := by
  have bb := h.bb
  exact ⟨h.wf, h.sk, h.mq, h.pt, h.hu, h.rq, h.oq, fun p hp => Int.le_trans (h.zz p hp) hB, by omega⟩
theorem GI.le {N : Nat → Int32} {c0 c1 c2 c3 c4 : Nat} {B B' : Int} (h : GI N c0 c1 c2 c3 c4 B) (hB : B ≤ B') (hB2 : B' ≤ 16000000) : GI N c0 c1 c2 c3 c4 B' :=
  ⟨h.ni.le hB (by omega), h.dst, h.kq, fun p hp => ⟨(h.rs p hp).1, (h.rs p hp).2.1, Int.le_trans (h.rs p hp).2.2 hB⟩, hB2⟩
/-- the numbers that GI speaks of -/
def gix (j : Nat) : Prop := nix j ∨ (7 ≤ j ∧ j < 191 ∧ ((j - 7) % 23 = 21 ∨ (j - 7) % 23 = 22)) ∨ (191 ≤ j ∧ j < 227)
theorem GI.agree {N N' : Nat → Int32} {c0 c1 c2 c3 c4 : Nat} {B : Int} (h : GI N c0 c1 c2 c3 c4 B) (e : ∀ j, j < 359 → gix j → N' j = N j) : GI N' c0 c1 c2 c3 c4 B := by
  have k0 := h.wf.1.2
  have k1 := h.wf.2.1.2
  refine ⟨h.ni.agree (fun j hj hn => e j hj (Or.inl hn)), fun p c hp hc c4' => ?_, fun k c i hk hc c4' hi => ?_, fun p hp => ?_, h.b16⟩
  · have ep : ∀ k, k ≤ 12 → 8 ≤ k → N' (7 + p * 23 + k) = N (7 + p * 23 + k) := fun k h1 h2 => e _ (by omega) (Or.inl (Or.inl (by unfold stru; omega)))
    rw [ep 8 (by decide) (by decide)] at hc
    obtain ⟨d1, d2⟩ := h.dst p c hp hc c4'
    refine ⟨fun i hi => ?_, fun i j hij hj => ?_⟩
    · rw [ep (9 + i) (by omega) (by omega)]; exact d1 i hi
    · rw [ep (9 + i) (by omega) (by omega), ep (9 + j) (by omega) (by omega)]; exact d2 i j hij hj
  · have hc' : N (191 + k * 9) = nI c := by rw [← e (191 + k * 9) (by omega) (Or.inr (Or.inr (by omega)))]; exact hc
    rw [e _ (by omega) (Or.inr (Or.inr (by omega)))]
    exact h.kq k c i hk hc' c4' hi
  · rw [e (7 + p * 23 + 22) (by omega) (Or.inr (Or.inl (by omega))), e (7 + p * 23 + 21) (by omega) (Or.inr (Or.inl (by omega)))]
    exact h.rs p hp
theorem GI.ki {N : Nat → Int32} {c0 c1 c2 c3 c4 : Nat} {B : Int} (h : GI N c0 c1 c2 c3 c4 B) : KI N c0 c1 := by
  have hb := h.b16
  refine ⟨h.ni.sk, fun q hq => ?_, h.dst, fun k c i hk hc c4' hi => ?_⟩
  · have p3 : 0 ≤ sI N 287 q c3 := sI_pos c3 (fun i hi => (h.ni.rq i hi).1)
    have p4 : 0 ≤ sI N 323 q c4 := sI_pos c4 (fun i hi => h.ni.oq i hi)
    have := h.ni.zz q hq
    omega
  · have := h.kq k c i hk hc c4' hi
    omega
/-- the world at w keeps the row N, in its ranges -/
def Kp (h : Hp) (w : Nat) (N : Nat → Int32) (B : Int) : Prop := ∃ (σ : Nat → Nat) (c0 c1 c2 c3 c4 : Nat), Wv [] h h w σ σ N c0 c1 c2 c3 c4 ∧ GI N c0 c1 c2 c3 c4 B
/-- a world lies at w -/
def Sp (h : Hp) (w : Nat) : Prop := ∃ σ, ShP (hs h) (hR h) w σ
theorem Sp.wk {h : Hp} {w : Nat} (S : Sp h w) (N : Nat → Int32) : ∃ σ, Wk h h w σ σ N (fun _ => False) := by
  obtain ⟨σ, S⟩ := S
  exact ⟨σ, Fr.rfl' _ _, S, S.rho, fun j _ hv => hv.elim⟩
theorem Kp.sp {h : Hp} {w : Nat} {N : Nat → Int32} {B : Int} (K : Kp h w N B) : Sp h w := by
  obtain ⟨σ, c0, c1, c2, c3, c4, W, -⟩ := K
  exact ⟨σ, W.k.2.1⟩
/-- h' is as h at the places from a on, n of them -/
def Sm (h h' : Hp) (a n : Nat) : Prop := ∀ b, a ≤ b → b < a + n → hs h' b = hs h b ∧ hR h' b = hR h b ∧ hI h' b = hI h b
theorem Sm.sub {h h' : Hp} {a n b k : Nat} (S : Sm h h' a n) (h1 : a ≤ b) (h2 : b + k ≤ a + n) : Sm h h' b k := fun c h3 h4 => S c (by omega) (by omega)
theorem Sp.same {h h' : Hp} {w : Nat} (S : Sp h w) (e : Sm h h' w 80) : Sp h' w := by
  obtain ⟨σ, S⟩ := S
  exact ⟨σ, S.same (fun a h1 h2 => ⟨(e a h1 h2).1, (e a h1 h2).2.1⟩)⟩
theorem Kp.same {h h' : Hp} {w : Nat} {N : Nat → Int32} {B : Int} (K : Kp h w N B) (e : Sm h h' w 80) : Kp h' w N B := by
  obtain ⟨σ, c0, c1, c2, c3, c4, W, g⟩ := K
  exact ⟨σ, c0, c1, c2, c3, c4, ⟨W.1, ⟨Fr.rfl' _ _, W.k.2.same (fun a h1 h2 => ⟨(e a h1 h2).1, (e a h1 h2).2.1⟩) (fun a h1 h2 => (e a h1 h2).2.2)⟩, W.2.2⟩, g⟩
theorem Kp.le {h : Hp} {w : Nat} {N : Nat → Int32} {B B' : Int} (K : Kp h w N B) (hB : B ≤ B') (hB2 : B' ≤ 16000000) : Kp h w N B' := by
  obtain ⟨σ, c0, c1, c2, c3, c4, W, g⟩ := K
  exact ⟨σ, c0, c1, c2, c3, c4, W, g.le hB hB2⟩
theorem WFc.c9 {N : Nat → Int32} {c0 c1 c2 c3 c4 : Nat} (h : WFc N c0 c1 c2 c3 c4) {N' : Nat → Int32} (e : ∀ j, j < 359 → N' j = N j) : WFc N' c0 c1 c2 c3 c4 := h.agree9 (fun j hj _ => e j hj)
theorem Kp.congr {h : Hp} {w : Nat} {N N' : Nat → Int32} {B : Int} (K : Kp h w N B) (e : ∀ j, j < 359 → N' j = N j) : Kp h w N' B := by
  obtain ⟨σ, c0, c1, c2, c3, c4, W, g⟩ := K
  have k0 := W.1.1.2
  have k1 := W.1.2.1.2
  refine ⟨σ, c0, c1, c2, c3, c4, ⟨W.1.c9 e, W.k.to (fun j hj hv => ⟨?_, ?_⟩), fun q hq => absurd hq List.not_mem_nil⟩, g.agree (fun j hj _ => e j hj)⟩
  · rcases hv with h | ⟨h1, h2, h3⟩ | ⟨h1, h2, h3⟩ | h
    · exact Or.inl h
    · refine Or.inr (Or.inl ⟨h1, h2, ?_⟩)
      rcases h3 with h | h | h
      · exact Or.inl h
      · exact Or.inr (Or.inl h)
      · rw [e _ (by omega)] at h
        exact Or.inr (Or.inr h)
    · refine Or.inr (Or.inr (Or.inl ⟨h1, h2, ?_⟩))
      rcases h3 with h | h
      · exact Or.inl h
      · rw [e _ (by omega)] at h
        exact Or.inr h
    · exact Or.inr (Or.inr (Or.inr h))
  · show N j = N' j
    exact (e j hj).symm
/-- what the world's methods leave behind -/
theorem Kp.of {h0 H : Hp} {w : Nat} {σ ρ : Nat → Nat} {N : Nat → Int32} {c0 c1 c2 c3 c4 : Nat} {B : Int} (W : Wv [] h0 H w σ ρ N c0 c1 c2 c3 c4) (nn : ∀ k, k < 36 → σ k = ρ k) (g : GI N c0 c1 c2 c3 c4 B) : Kp H w N B := by
  have W' := W.nns nn
  exact ⟨σ, c0, c1, c2, c3, c4, ⟨W'.1, ⟨Fr.rfl' _ _, W'.k.2⟩, W'.2.2⟩, g⟩
theorem Fr.sm {w : Nat} {h0 H : Hp} (F : Fr w h0 H) {a n : Nat} (hd : a + n ≤ w ∨ w + 80 ≤ a) : Sm h0 H a n := fun b h1 h2 => ⟨by rw [F.2.1], (F.2.2.2 b (by omega)).2, (F.2.2.2 b (by omega)).1⟩
theorem d_copyK {l : Launch} (hst : l.stackTraces = false) {Q : Option Value → Hp → Prop} {X : String → Hp → Prop} {H : Hp} {w w2 : Nat} {N : Nat → Int32} {B : Int} (S : Sp H w) (K : Kp H w2 N B) (hd : w2 + 80 ≤ w ∨ w + 80 ≤ w2) (q : ∀ H', Fr w H H' → Kp H' w N B → Kp H' w2 N B → Q none H') : CX7_copyFrom l [.ref w, .ref w2] H Q X := by
  obtain ⟨σ, W⟩ := S.wk N
  obtain ⟨σ2, c0, c1, c2, c3, c4, W2, g⟩ := id K
  refine d_copyWorld hst W W2.k.2 W2.1 hd (fun H' W' => ?_)
  exact q H' W'.k.1 (Kp.of W' (fun _ _ => rfl) g) (K.same (W'.k.1.sm (by omega)))
end E9

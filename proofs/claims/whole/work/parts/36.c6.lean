section C6
theorem isub_i {a b : Int32} (h1 : -2147483648 ≤ a.toInt - b.toInt) (h2 : a.toInt - b.toInt < 2147483648) : (a - b).toInt = a.toInt - b.toInt := by
  rw [Int32.toInt_sub]
  exact Int.bmod_eq_of_le (by omega) (by omega)
theorem iadd_i {a b : Int32} (h1 : -2147483648 ≤ a.toInt + b.toInt) (h2 : a.toInt + b.toInt < 2147483648) : (a + b).toInt = a.toInt + b.toInt := by
  rw [Int32.toInt_add]
  exact Int.bmod_eq_of_le (by omega) (by omega)
theorem i32_lo (a : Int32) : -2147483648 ≤ a.toInt := Int32.le_toInt a
theorem i32_hi (a : Int32) : a.toInt < 2147483648 := Int32.toInt_lt a
theorem lss_i (a b : Int32) : (lss a b).toInt = min a.toInt b.toInt := by
  unfold lss
  by_cases h : a < b
  · rw [if_pos h]
    have := Int32.lt_iff_toInt_lt.mp h
    omega
  · rw [if_neg h]
    have : ¬ a.toInt < b.toInt := fun z => h (Int32.lt_iff_toInt_lt.mpr z)
    omega
theorem i_le0 {a : Int32} : a ≤ 0 ↔ a.toInt ≤ 0 := Int32.le_iff_toInt_le
theorem i_lt0 {a : Int32} : 0 < a ↔ 0 < a.toInt := Int32.lt_iff_toInt_lt
theorem i_eq0 {a : Int32} : a = 0 ↔ a.toInt = 0 := by
  rw [← Int32.toInt_inj]; rfl
/-- no stock is below 0 -/
def Sk (N : Nat → Int32) (c0 : Nat) : Prop := ∀ p, p < c0 → 0 ≤ (N (7 + p * 23 + 0)).toInt
theorem issue_p (N : Nat → Int32) (p : Nat) (v : Int32) : r_issue N p v (7 + p * 23 + 0) = N (7 + p * 23 + 0) - lss (N (7 + p * 23 + 0)) v := by
  unfold r_issue
  show upd _ _ _ _ = _
  rw [pk_un (by omega), pk_us, Int32.sub_eq_add_neg]
theorem issue_q (N : Nat → Int32) (p q : Nat) (v : Int32) (h : q ≠ p) : r_issue N p v (7 + q * 23 + 0) = N (7 + q * 23 + 0) := r_issue_o (by omega) (by omega)
theorem Sk.issue {N : Nat → Int32} {c0 p : Nat} {v : Int32} (h : Sk N c0) (hp : p < c0) (hv : 0 ≤ v.toInt) : Sk (r_issue N p v) c0 ∧ (r_issue N p v (7 + p * 23 + 0)).toInt = (N (7 + p * 23 + 0)).toInt - min (N (7 + p * 23 + 0)).toInt v.toInt ∧ (v - lss (N (7 + p * 23 + 0)) v).toInt = v.toInt - min (N (7 + p * 23 + 0)).toInt v.toInt := by
  have h0 := h p hp
  have e := lss_i (N (7 + p * 23 + 0)) v
  have g1 := i32_hi (N (7 + p * 23 + 0))
  have g2 := i32_hi v
  have k1 : (N (7 + p * 23 + 0) - lss (N (7 + p * 23 + 0)) v).toInt = (N (7 + p * 23 + 0)).toInt - min (N (7 + p * 23 + 0)).toInt v.toInt := by
    rw [isub_i (by omega) (by omega), e]
  have k2 : (v - lss (N (7 + p * 23 + 0)) v).toInt = v.toInt - min (N (7 + p * 23 + 0)).toInt v.toInt := by
    rw [isub_i (by omega) (by omega), e]
  refine ⟨fun q hq => ?_, by rw [issue_p]; exact k1, k2⟩
  by_cases eq : q = p
  · subst eq
    rw [issue_p, k1]
    omega
  · rw [issue_q N p q v eq]
    exact h q hq
/-- a part's pieces and those of its first k substitutes -/
def s_avI (N : Nat → Int32) (p : Nat) : Nat → Int
  | 0 => (N (7 + p * 23 + 0)).toInt
  | k + 1 => s_avI N p k + (N (7 + (N (7 + p * 23 + (9 + k))).toNatClampNeg * 23 + 0)).toInt
/-- no part has a substitute twice, nor itself -/
def Dst (N : Nat → Int32) (c0 : Nat) : Prop := ∀ p c, p < c0 → N (7 + p * 23 + 8) = nI c → c ≤ 4 → (∀ i, i < c → N (7 + p * 23 + (9 + i)) ≠ nI p) ∧ ∀ i j, i < j → j < c → N (7 + p * 23 + (9 + i)) ≠ N (7 + p * 23 + (9 + j))
theorem subs_num {N : Nat → Int32} {c0 p c : Nat} {v : Int32} (h : Sk N c0) (k8 : c0 ≤ 8) (hp : p < c0) (hv : 0 ≤ v.toInt) (hsub : ∀ k, k < c → ∃ s : Nat, s < c0 ∧ N (7 + p * 23 + (9 + k)) = nI s) (c4' : c ≤ 4) : ∀ n, n ≤ c →
    let r := r_subs p n (r_issue N p v) (v - lss (N (7 + p * 23 + 0)) v)
    Sk r.2 c0 ∧ 0 ≤ r.1.toInt ∧ r.1.toInt ≤ v.toInt ∧ (∀ q, q < c0 → (r.2 (7 + q * 23 + 0)).toInt ≤ (N (7 + q * 23 + 0)).toInt)
  | 0, _ => by
    obtain ⟨a1, a2, a3⟩ := h.issue hp hv
    have h0 := h p hp
    refine ⟨a1, ?_, ?_, fun q hq => ?_⟩
    · show 0 ≤ (v - lss (N (7 + p * 23 + 0)) v).toInt
      omega
    · show (v - lss (N (7 + p * 23 + 0)) v).toInt ≤ _
      omega
    · show (r_issue N p v (7 + q * 23 + 0)).toInt ≤ _
      by_cases eq : q = p
      · subst eq; omega
      · rw [issue_q N p q v eq]
        exact Int.le_refl _
  | n + 1, hn => by
    obtain ⟨s, s1, s2⟩ := hsub n (by omega)
    have ih := subs_num h k8 hp hv hsub c4' n (by omega)
    dsimp only at ih ⊢
    have es : (r_subs p n (r_issue N p v) (v - lss (N (7 + p * 23 + 0)) v)).2 (7 + p * 23 + (9 + n)) = nI s := by
      rw [r_subs_o n (by omega) (by omega), r_issue_o (by omega) (by omega), s2]
    show Sk (r_issue _ _ _) c0 ∧ 0 ≤ (_ - lss _ _).toInt ∧ (_ - lss _ _).toInt ≤ _ ∧ (∀ q, q < c0 → (r_issue _ _ _ _).toInt ≤ _)
    rw [es, nI_clamp (by omega)]
    generalize r_subs p n (r_issue N p v) (v - lss (N (7 + p * 23 + 0)) v) = r at *
    obtain ⟨b1, b2, b3, b4⟩ := ih
    obtain ⟨a1, a2, a3⟩ := b1.issue s1 b2
    have h0 := b1 s s1
    refine ⟨a1, by omega, by omega, fun q hq => ?_⟩
    have b := b4 q hq
    by_cases eq : q = s
    · subst eq; omega
    · rw [issue_q r.2 s q r.1 eq]
      exact b
theorem serve_num {N : Nat → Int32} {c0 c1 c2 c3 c4 p : Nat} {v : Int32} (hN : WFc N c0 c1 c2 c3 c4) (h : Sk N c0) (hp : p < c0) (hv : 0 ≤ v.toInt) : Sk (r_serve N p v).2 c0 ∧ 0 ≤ (r_serve N p v).1.toInt ∧ (r_serve N p v).1.toInt ≤ v.toInt ∧ (∀ q, q < c0 → ((r_serve N p v).2 (7 + q * 23 + 0)).toInt ≤ (N (7 + q * 23 + 0)).toInt) := by
  obtain ⟨c, c4', hc, hsub⟩ := hN.2.2.2.2.2.1 p hp
  unfold r_serve
  rw [hc, nI_clamp (by omega)]
  exact subs_num h hN.1.2 hp hv hsub c4' c (Nat.le_refl _)
/-- what is missing when a quantity is served is what the stocks in reach don't have -/
theorem subs_av {N : Nat → Int32} {c0 p c : Nat} {v : Int32} (h : Sk N c0) (k8 : c0 ≤ 8) (hp : p < c0) (hv : 0 ≤ v.toInt) (hc : N (7 + p * 23 + 8) = nI c) (hsub : ∀ k, k < c → ∃ s : Nat, s < c0 ∧ N (7 + p * 23 + (9 + k)) = nI s) (c4' : c ≤ 4) (hd : Dst N c0) : ∀ n, n ≤ c →
    (r_subs p n (r_issue N p v) (v - lss (N (7 + p * 23 + 0)) v)).1.toInt = max 0 (v.toInt - s_avI N p n) ∧ 0 ≤ s_avI N p n ∧
    ∀ k s, n ≤ k → k < c → N (7 + p * 23 + (9 + k)) = nI s → (r_subs p n (r_issue N p v) (v - lss (N (7 + p * 23 + 0)) v)).2 (7 + s * 23 + 0) = N (7 + s * 23 + 0)
  | 0, _ => by
    obtain ⟨a1, a2, a3⟩ := h.issue hp hv
    have h0 := h p hp
    refine ⟨?_, h0, fun k s _ hk hs => ?_⟩
    · show (v - lss (N (7 + p * 23 + 0)) v).toInt = max 0 (v.toInt - (N (7 + p * 23 + 0)).toInt)
      omega
    · show r_issue N p v (7 + s * 23 + 0) = _
      refine issue_q N p s v (fun z => ?_)
      rw [z] at hs
      exact (hd p c hp hc c4').1 k hk hs
  | n + 1, hn => by
    obtain ⟨s, s1, s2⟩ := hsub n (by omega)
    have ih := subs_av h k8 hp hv hc hsub c4' hd n (by omega)
    have num := subs_num h k8 hp hv hsub c4' n (by omega)
    dsimp only at num
    have es : (r_subs p n (r_issue N p v) (v - lss (N (7 + p * 23 + 0)) v)).2 (7 + p * 23 + (9 + n)) = nI s := by
      rw [r_subs_o n (by omega) (by omega), r_issue_o (by omega) (by omega), s2]
    have eI : s_avI N p (n + 1) = s_avI N p n + (N (7 + s * 23 + 0)).toInt := by
      show _ + _ = _
      rw [s2, nI_clamp (by omega)]
    have hs0 := h s s1
    show (_ - lss _ _).toInt = _ ∧ _ ∧ ∀ k s, _ → _ → _ → (r_issue _ _ _ _) = _
    rw [es, nI_clamp (by omega), eI]
    obtain ⟨i1, i2, i3⟩ := ih
    have i4 := i3 n s (Nat.le_refl _) (by omega) s2
    generalize r_subs p n (r_issue N p v) (v - lss (N (7 + p * 23 + 0)) v) = r at *
    obtain ⟨b1, b2, b3, b4⟩ := num
    obtain ⟨a1, a2, a3⟩ := b1.issue s1 b2
    rw [i4] at a2 a3
    refine ⟨?_, by omega, fun k t hk hkc ht => ?_⟩
    · rw [i4, a3, i1]
      omega
    · have ne : t ≠ s := fun z => by
        rw [z] at ht
        exact (hd p c hp hc c4').2 n k (by omega) hkc (s2.trans ht.symm)
      rw [issue_q r.2 s t r.1 ne]
      exact i3 k t (by omega) hkc ht
theorem serve_av {N : Nat → Int32} {c0 c1 c2 c3 c4 p : Nat} {v : Int32} (hN : WFc N c0 c1 c2 c3 c4) (h : Sk N c0) (hd : Dst N c0) (hp : p < c0) (hv : 0 ≤ v.toInt) : (r_serve N p v).1.toInt = max 0 (v.toInt - s_avI N p (N (7 + p * 23 + 8)).toNatClampNeg) ∧ 0 ≤ s_avI N p (N (7 + p * 23 + 8)).toNatClampNeg := by
  obtain ⟨c, c4', hc, hsub⟩ := hN.2.2.2.2.2.1 p hp
  have := subs_av h hN.1.2 hp hv hc hsub c4' hd c (Nat.le_refl _)
  unfold r_serve
  rw [hc, nI_clamp (by omega)]
  exact ⟨this.1, this.2.1⟩
theorem av_i {N : Nat → Int32} {c0 p c : Nat} (k8 : c0 ≤ 8) (h : Sk N c0) (hb : ∀ q, q < c0 → (N (7 + q * 23 + 0)).toInt ≤ 100000000) (hp : p < c0) (hsub : ∀ k, k < c → ∃ s : Nat, s < c0 ∧ N (7 + p * 23 + (9 + k)) = nI s) (c4' : c ≤ 4) : ∀ n, n ≤ c → (s_av N p n).toInt = s_avI N p n ∧ 0 ≤ s_avI N p n ∧ s_avI N p n ≤ 100000000 * (n + 1)
  | 0, _ => ⟨rfl, h p hp, by have := hb p hp; show (N (7 + p * 23 + 0)).toInt ≤ _; omega⟩
  | n + 1, hn => by
    obtain ⟨i1, i2, i3⟩ := av_i k8 h hb hp hsub c4' n (by omega)
    obtain ⟨s, s1, s2⟩ := hsub n (by omega)
    have e1 : s_av N p (n + 1) = s_av N p n + N (7 + s * 23 + 0) := by
      show _ + _ = _
      rw [s2, nI_clamp (by omega)]
    have eI : s_avI N p (n + 1) = s_avI N p n + (N (7 + s * 23 + 0)).toInt := by
      show _ + _ = _
      rw [s2, nI_clamp (by omega)]
    have h1 := h s s1
    have h2 := hb s s1
    rw [e1, eI, iadd_i (by omega) (by omega), i1]
    exact ⟨rfl, by omega, by omega⟩
end C6

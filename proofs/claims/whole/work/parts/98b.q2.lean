section Q2
theorem take_ge {c0 c1 c2 c3 c4 k c : Nat} {B : Int} (hk : k < c1) (c4' : c ≤ 4) : ∀ (n i : Nat) (N : Nat → Int32) (o : Int32), i + n = c → N (191 + k * 9) = nI c → GI N c0 c1 c2 c3 c4 B → 0 ≤ o.toInt → o.toInt ≤ 9 * i → (g_take k n i N o).2.1 = true → 0 ≤ (g_take k n i N o).2.2.1.toInt ∧ (g_take k n i N o).2.2.1.toInt ≤ 9 * c
  | 0, i, N, o, hi, hc, g, o1, o2, h => by
    have : i = c := by omega
    subst this
    exact ⟨o1, o2⟩
  | n + 1, i, N, o, hi, hc, g, o1, o2, h => by
    have hic : i < c := by omega
    have k8 := g.wf.1.2
    obtain ⟨c', c4'', hc', hit⟩ := g.wf.2.2.2.2.2.2.1 k hk
    have : c' = c := (nI_eq (by omega) (by omega)).mp (hc'.symm.trans hc)
    subst this
    obtain ⟨s, s1, s2⟩ := hit i hic
    have qk := g.kq k c' i hk hc c4' hic
    rw [g_take_s k n i N o s2 (by omega)] at h ⊢
    by_cases ha : s_av N s (N (7 + s * 23 + 8)).toNatClampNeg < N (191 + k * 9 + 1 + 2 * i + 1)
    · rw [if_pos ha] at h
      exact absurd (show false = true from h) (by decide)
    · rw [if_neg ha] at h ⊢
      have sk := g.ni.sk s s1
      have l := lss_i (a := N (191 + k * 9 + 1 + 2 * i + 1)) (b := N (7 + s * 23 + 0))
      have b1 : 0 ≤ (N (191 + k * 9 + 1 + 2 * i + 1)).toInt - (lss (N (191 + k * 9 + 1 + 2 * i + 1)) (N (7 + s * 23 + 0))).toInt ∧ (N (191 + k * 9 + 1 + 2 * i + 1)).toInt - (lss (N (191 + k * 9 + 1 + 2 * i + 1)) (N (7 + s * 23 + 0))).toInt ≤ 9 := by
        rw [l]
        omega
      have e1 := isub_i (a := N (191 + k * 9 + 1 + 2 * i + 1)) (b := lss (N (191 + k * 9 + 1 + 2 * i + 1)) (N (7 + s * 23 + 0))) (by omega) (by omega)
      have e2 := iadd_i (a := o) (b := N (191 + k * 9 + 1 + 2 * i + 1) - lss (N (191 + k * 9 + 1 + 2 * i + 1)) (N (7 + s * 23 + 0))) (by omega) (by omega)
      exact take_ge hk c4' n (i + 1) _ _ (by omega) (by rw [r_serve_o g.wf s1 (by omega)]; exact hc) (g.serve s1 (by omega)) (by omega) (by push_cast; omega) h
theorem kt_ge {N : Nat → Int32} {c0 c1 c2 c3 c4 k : Nat} {B : Int} (hk : k < c1) (g : GI N c0 c1 c2 c3 c4 B) (h : (kt N k).2.1 = true) : 0 ≤ (kt N k).2.2.1 := by
  obtain ⟨c, c4', hc, hit⟩ := g.wf.2.2.2.2.2.2.1 k hk
  have ek := kt_eq hc c4'
  rw [ek] at h ⊢
  have z : (0 : Int32).toInt = 0 := rfl
  exact Int32.le_iff_toInt_le.mpr (by have := (take_ge hk c4' c 0 N 0 (by omega) hc g (by rw [z]; omega) (by rw [z]; omega) h).1; omega)
theorem k_possible {l : Launch} (hst : l.stackTraces = false) {Q : Option Value → Hp → Prop} {X : String → Hp → Prop} {h : Hp} {m : Nat} {F N : Nat → Int32} (hM : MdS h m) (hL9 : MdL h m) {c0 c1 c2 c3 c4 : Nat} {B : Int} (g : GI N c0 c1 c2 c3 c4 B) {P : Int32} (x1 : ¬ (0 ≤ P ∧ P < nI c1) → Q (some (.int 0)) (st h m (upd F 0 1) N)) (q : ∀ k h' F' N', P = nI k → k < c1 → Mf m h h' → (∀ j, j < 359 → N' j = N j) → (∀ j, j ≠ 10 → j ≠ 11 → F' j = upd F 0 0 j) → Q (some (.int (nI (s_poss k 99 N)))) (st h' m F' N')) : CX9_possible l [.ref m, .int P] (st h m F N) Q X := by
  have hN := g.wf
  have k4 := hN.2.1.2
  refine eX9_possible hst (Nat.le_of_ble_eq_true rfl) (fun K hK => ?_)
  by_cases hP : 0 ≤ P ∧ P < nI c1
  rotate_left
  · (repeat (first | (refine And.intro hM.1 (And.intro hM.2.1 ?_); rw [g_st hM]) | (refine And.intro hM.1 ?_; rw [fp_st hM]) | (refine And.intro hM.1 ?_; rw [fg_st hM]) | refine And.intro (by first | exact hM.1 | assumption | rfl | exact Nat.le_of_ble_eq_true rfl | exact Nat.zero_le _ | decide) ?_))
    refine c_isKit0 hst hM hN.2.1.1 hN.2.1.2 hP ?_
    (repeat (first | (refine And.intro hM.1 (And.intro hM.2.1 ?_); rw [g_st hM]) | (refine And.intro hM.1 ?_; rw [fp_st hM]) | (refine And.intro hM.1 ?_; rw [fg_st hM]) | refine And.intro (by first | exact hM.1 | assumption | rfl | exact Nat.le_of_ble_eq_true rfl | exact Nat.zero_le _ | decide) ?_ | refine And.intro (fun _ => ?_) (fun hz => absurd hz (by decide)) | refine And.intro (fun hz => absurd hz (by decide)) (fun _ => ?_)))
    refine c_fails1 hst hM ?_
    (repeat (first | (refine And.intro hM.1 (And.intro hM.2.1 ?_); rw [g_st hM]) | (refine And.intro hM.1 ?_; rw [fp_st hM]) | (refine And.intro hM.1 ?_; rw [fg_st hM]) | refine And.intro (by first | exact hM.1 | assumption | rfl | exact Nat.le_of_ble_eq_true rfl | exact Nat.zero_le _ | decide) ?_ | refine And.intro (fun _ => ?_) (fun hz => absurd hz (by decide)) | refine And.intro (fun hz => absurd hz (by decide)) (fun _ => ?_)))
    exact x1 hP
  obtain ⟨p, p1, p2⟩ := in9 (c := c1) (by have := hN.2.1.2; omega) hP
  subst p2
  (repeat (first | (refine And.intro hM.1 (And.intro hM.2.1 ?_); rw [g_st hM]) | (refine And.intro hM.1 ?_; rw [fp_st hM]) | (refine And.intro hM.1 ?_; rw [fg_st hM]) | refine And.intro (by first | exact hM.1 | assumption | rfl | exact Nat.le_of_ble_eq_true rfl | exact Nat.zero_le _ | decide) ?_))
  refine c_isKit1 hst hM hN.2.1.1 hN.2.1.2 p1 ?_
  (repeat (first | (refine And.intro hM.1 (And.intro hM.2.1 ?_); rw [g_st hM]) | (refine And.intro hM.1 ?_; rw [fp_st hM]) | (refine And.intro hM.1 ?_; rw [fg_st hM]) | refine And.intro (by first | exact hM.1 | assumption | rfl | exact Nat.le_of_ble_eq_true rfl | exact Nat.zero_le _ | decide) ?_ | refine And.intro (fun _ => ?_) (fun hz => absurd hz (by decide)) | refine And.intro (fun hz => absurd hz (by decide)) (fun _ => ?_)))
  refine c_fails0 hst hM ?_
  (repeat (first | (refine And.intro hM.1 (And.intro hM.2.1 ?_); rw [g_st hM]) | (refine And.intro hM.1 ?_; rw [fp_st hM]) | (refine And.intro hM.1 ?_; rw [fg_st hM]) | refine And.intro (by first | exact hM.1 | assumption | rfl | exact Nat.le_of_ble_eq_true rfl | exact Nat.zero_le _ | decide) ?_ | refine And.intro (fun _ => ?_) (fun hz => absurd hz (by decide)) | refine And.intro (fun hz => absurd hz (by decide)) (fun _ => ?_)))
  refine And.intro (g12n hL9) ?_; rw [g12 hL9]
  repeat (refine And.intro (by first | assumption | rfl | exact Nat.le_of_ble_eq_true rfl | exact Nat.zero_le _ | decide) ?_)
  refine c_cpO hst hM hL9 (Or.inr rfl) (fun h1 f1 eb => ?_)
  have hM := hM.mf f1
  have hL9 := hL9.mf f1
  have fin : ∀ (i : Nat) (F' M : Nat → Int32), i = s_poss p 99 N → (∀ j, j ≠ 10 → j ≠ 11 → F' j = upd F 0 0 j) → fX9_possible_56 l Q X K [(2, .int (nI i)), (0, .ref m), (1, .int (nI p))] [] (st h1 m F' M) (0, 0) := by
    intro i F' M hi hF
    subst hi
    refine And.intro hM.1 ?_
    refine And.intro (g12n hL9) ?_; rw [g12 hL9]
    repeat (first | (refine And.intro hM.1 (And.intro hM.2.1 ?_); rw [g_st hM]) | (refine And.intro hM.1 ?_; rw [fp_st hM]) | (refine And.intro hM.1 ?_; rw [fg_st hM]) | refine And.intro (by first | exact hM.1 | assumption | rfl | exact Nat.le_of_ble_eq_true rfl | exact Nat.zero_le _ | decide) ?_)
    refine c_cpI hst hM hL9 (Or.inr rfl) ?_
    repeat (refine And.intro (by first | assumption | rfl | exact Nat.le_of_ble_eq_true rfl | exact Nat.zero_le _ | decide) ?_)
    exact q p h1 F' _ rfl p1 f1 (fun j hj => by rw [cpr_lt hj, eb, cpr_lt hj]) hF
  have loop : ∀ (n i : Nat) (F' M : Nat → Int32), i + n = 99 → GI M c0 c1 c2 c3 c4 B → i + s_poss p n M = s_poss p 99 N → (∀ j, j ≠ 10 → j ≠ 11 → F' j = upd F 0 0 j) → K 36 [(2, .int (nI i)), (0, .ref m), (1, .int (nI p))] [] (st h1 m F' M) (0, 0) := by
    intro n
    induction n with
    | zero =>
      intro i F' M hi gM hs hF
      refine hK _ _ _ _ ?_
      refine And.intro (fun hcc => ?_) (fun hcc => ?_)
      · exact fin i F' M hs hF
      · exact absurd (show nI 99 ≤ nI i from nI_le (by omega) (by omega)) hcc
    | succ n ih =>
      intro i F' M hi gM hs hF
      refine hK _ _ _ _ ?_
      refine And.intro (fun hcc => ?_) (fun hcc => ?_)
      · exact absurd (show nI 99 ≤ nI i from hcc) (nI_ge (by omega) (by decide))
      · have hs' : i + (if (kt M p).2.1 = true then s_poss p n (kt M p).1 + 1 else 0) = s_poss p 99 N := hs
        obtain ⟨ok1, -⟩ := kt_ok p1 gM
        repeat (first | (refine And.intro hM.1 (And.intro hM.2.1 ?_); rw [g_st hM]) | (refine And.intro hM.1 ?_; rw [fp_st hM]) | (refine And.intro hM.1 ?_; rw [fg_st hM]) | refine And.intro (by first | exact hM.1 | assumption | rfl | exact Nat.le_of_ble_eq_true rfl | exact Nat.zero_le _ | decide) ?_)
        refine c_goTake hst hM gM p1 (fun hb => ?_) (fun hb M2 => ?_)
        · rw [if_pos hb] at hs'
          refine And.intro (fun z => absurd (kt_ge p1 gM hb) (Int32.not_le.mpr z)) (fun _ => ?_)
          have := ih (i + 1) F' _ (by omega) (ok1 hb) (by omega) hF
          rw [← nI_1 i] at this
          exact this
        · rw [if_neg (by rw [hb]; decide)] at hs'
          refine And.intro (fun _ => ?_) (fun z => absurd (by decide) z)
          exact fin i _ M2 hs' (fun j h1 h2 => by rw [pk_un h2, pk_un h1]; exact hF j h1 h2)
  exact loop 99 0 (upd F 0 0) N rfl g (by omega) (fun j _ _ => rfl)
end Q2

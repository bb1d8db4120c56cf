section J9
theorem c_goTake {l : Launch} (hst : l.stackTraces = false) {Q : Option Value → Hp → Prop} {X : String → Hp → Prop} {h : Hp} {m : Nat} {F N : Nat → Int32} (hM : MdS h m) {c0 c1 c2 c3 c4 k : Nat} {B : Int} (g : GI N c0 c1 c2 c3 c4 B) (hk : k < c1) (q1 : (kt N k).2.1 = true → Q (some (.int (kt N k).2.2.1)) (st h m F (kt N k).1)) (q0 : (kt N k).2.1 = false → ∀ M, Q (some (.int (-1))) (st h m (upd (upd F 10 (kt N k).2.2.2.1) 11 (kt N k).2.2.2.2) M)) : CX9_goTake l [.ref m, .int (nI k)] (st h m F N) Q X := by
  have k4 := g.wf.2.1.2
  have k8 := g.wf.1.2
  obtain ⟨c, c4', hc, hit⟩ := g.wf.2.2.2.2.2.2.1 k hk
  have ek := kt_eq hc c4'
  rw [ek] at q1 q0
  refine eX9_goTake hst (Nat.le_of_ble_eq_true rfl) (fun K hK => ?_)
  have loop : ∀ (n i : Nat) (M : Nat → Int32) (o : Int32), i + n = c → M (191 + k * 9) = nI c → (∀ i, i < c → ∃ s : Nat, s < c0 ∧ M (191 + k * 9 + 1 + 2 * i + 0) = nI s) → GI M c0 c1 c2 c3 c4 B → g_take k n i M o = g_take k c 0 N 0 → K 4 [(3, .int (nI i)), (2, .int o), (0, .ref m), (1, .int (nI k))] [] (st h m F M) (0, 0) ∧ ∀ y z, K 4 [(3, .int (nI i)), (2, .int o), (5, .int y), (4, .int z), (0, .ref m), (1, .int (nI k))] [] (st h m F M) (0, 0) := by
    intro n
    induction n with
    | zero =>
      intro i M o hi hcM hitM gM e
      have e0 : g_take k 0 i M o = (M, true, o, 0, 0) := rfl
      rw [e0] at e
      rw [← e] at q1
      constructor
      rotate_left
      intro y z
      all_goals
        refine hK _ _ _ _ ?_
        repeat (first | (refine And.intro hM.1 (And.intro hM.2.1 ?_); rw [g_st hM]) | (refine And.intro hM.1 ?_; rw [fp_st hM]) | (refine And.intro hM.1 ?_; rw [fg_st hM]) | refine And.intro (by first | exact hM.1 | assumption | rfl | exact Nat.le_of_ble_eq_true rfl | exact Nat.zero_le _ | decide) ?_)
        refine c_items hst hM k rfl (by omega) ?_
        rw [hcM]
        refine And.intro (fun hcc => ?_) (fun hcc => ?_)
        · repeat (refine And.intro (by first | assumption | rfl | exact Nat.le_of_ble_eq_true rfl | exact Nat.zero_le _ | decide) ?_)
          exact q1 rfl
        · exact absurd (show nI c ≤ nI i by rw [show i = c by omega]; exact Int32.le_refl _) hcc
    | succ n ih =>
      intro i M o hi hcM hitM gM e
      have hic : i < c := by omega
      obtain ⟨s, s1, s2⟩ := hitM i hic
      have qk := gM.kq k c i hk hcM c4' hic
      rw [g_take_s k n i M o s2 (by omega)] at e
      constructor
      rotate_left
      intro y z
      all_goals
        refine hK _ _ _ _ ?_
        repeat (first | (refine And.intro hM.1 (And.intro hM.2.1 ?_); rw [g_st hM]) | (refine And.intro hM.1 ?_; rw [fp_st hM]) | (refine And.intro hM.1 ?_; rw [fg_st hM]) | refine And.intro (by first | exact hM.1 | assumption | rfl | exact Nat.le_of_ble_eq_true rfl | exact Nat.zero_le _ | decide) ?_)
        refine c_items hst hM k rfl (by omega) ?_
        rw [hcM]
        refine And.intro (fun hcc => ?_) (fun hcc => ?_)
        · exact absurd (show nI c ≤ nI i from hcc) (nI_ge hic (by omega))
        · repeat (first | (refine And.intro hM.1 (And.intro hM.2.1 ?_); rw [g_st hM]) | (refine And.intro hM.1 ?_; rw [fp_st hM]) | (refine And.intro hM.1 ?_; rw [fg_st hM]) | refine And.intro (by first | exact hM.1 | assumption | rfl | exact Nat.le_of_ble_eq_true rfl | exact Nat.zero_le _ | decide) ?_)
          refine c_itemOf hst hM k i 0 rfl rfl rfl (by omega) ?_
          rw [s2]
          repeat (first | (refine And.intro hM.1 (And.intro hM.2.1 ?_); rw [g_st hM]) | (refine And.intro hM.1 ?_; rw [fp_st hM]) | (refine And.intro hM.1 ?_; rw [fg_st hM]) | refine And.intro (by first | exact hM.1 | assumption | rfl | exact Nat.le_of_ble_eq_true rfl | exact Nat.zero_le _ | decide) ?_)
          refine c_itemOf hst hM k i 1 rfl rfl rfl (by omega) ?_
          repeat (first | (refine And.intro hM.1 (And.intro hM.2.1 ?_); rw [g_st hM]) | (refine And.intro hM.1 ?_; rw [fp_st hM]) | (refine And.intro hM.1 ?_; rw [fg_st hM]) | refine And.intro (by first | exact hM.1 | assumption | rfl | exact Nat.le_of_ble_eq_true rfl | exact Nat.zero_le _ | decide) ?_)
          refine c_availableOf hst hM s rfl (by omega) (gM.wf.sub s1) ?_
          refine And.intro (fun ha => ?_) (fun ha => ?_)
          · rw [if_neg (Int32.not_lt.mpr ha)] at e
            repeat (first | (refine And.intro hM.1 (And.intro hM.2.1 ?_); rw [g_st hM]) | (refine And.intro hM.1 ?_; rw [fp_st hM]) | (refine And.intro hM.1 ?_; rw [fg_st hM]) | refine And.intro (by first | exact hM.1 | assumption | rfl | exact Nat.le_of_ble_eq_true rfl | exact Nat.zero_le _ | decide) ?_)
            refine c_of hst hM s 0 rfl rfl (by omega) ?_
            repeat (first | (refine And.intro hM.1 (And.intro hM.2.1 ?_); rw [g_st hM]) | (refine And.intro hM.1 ?_; rw [fp_st hM]) | (refine And.intro hM.1 ?_; rw [fg_st hM]) | refine And.intro (by first | exact hM.1 | assumption | rfl | exact Nat.le_of_ble_eq_true rfl | exact Nat.zero_le _ | decide) ?_)
            refine c_lesser hst ?_
            repeat (first | (refine And.intro hM.1 (And.intro hM.2.1 ?_); rw [g_st hM]) | (refine And.intro hM.1 ?_; rw [fp_st hM]) | (refine And.intro hM.1 ?_; rw [fg_st hM]) | refine And.intro (by first | exact hM.1 | assumption | rfl | exact Nat.le_of_ble_eq_true rfl | exact Nat.zero_le _ | decide) ?_)
            refine c_serve hst hM s rfl (by omega) (gM.wf.sub s1) ?_
            have gS := gM.serve s1 (v := M (191 + k * 9 + 1 + 2 * i + 1)) (by omega)
            have ke : ∀ j, 191 ≤ j → j < 227 → (r_serve M s (M (191 + k * 9 + 1 + 2 * i + 1))).2 j = M j := fun j h1 h2 => r_serve_o gM.wf s1 h1
            have nx := (ih (i + 1) _ (o + (M (191 + k * 9 + 1 + 2 * i + 1) - lss (M (191 + k * 9 + 1 + 2 * i + 1)) (M (7 + s * 23 + 0)))) (by omega) (by rw [ke _ (by omega) (by omega)]; exact hcM) (fun i' hi' => by
              obtain ⟨s', t1, t2⟩ := hitM i' hi'
              exact ⟨s', t1, by rw [ke _ (by omega) (by omega)]; exact t2⟩) gS e).2
            rw [← nI_1 i] at nx
            exact nx _ _
          · rw [if_pos (Int32.not_le.mp ha)] at e
            rw [← e] at q0
            repeat (first | (refine And.intro hM.1 (And.intro hM.2.1 ?_); rw [g_st hM]) | (refine And.intro hM.1 ?_; rw [fp_st hM]) | (refine And.intro hM.1 ?_; rw [fg_st hM]) | refine And.intro (by first | exact hM.1 | assumption | rfl | exact Nat.le_of_ble_eq_true rfl | exact Nat.zero_le _ | decide) ?_)
            refine c_availableOf hst hM s rfl (by omega) (gM.wf.sub s1) ?_
            repeat (first | (refine And.intro hM.1 (And.intro hM.2.1 ?_); rw [g_st hM]) | (refine And.intro hM.1 ?_; rw [fp_st hM]) | (refine And.intro hM.1 ?_; rw [fg_st hM]) | refine And.intro (by first | exact hM.1 | assumption | rfl | exact Nat.le_of_ble_eq_true rfl | exact Nat.zero_le _ | decide) ?_)
            exact q0 rfl M
  exact (loop c 0 N 0 (by omega) hc hit g rfl).1
/-- 100 times the part and what lacks -/
theorem c_doTake {l : Launch} (hst : l.stackTraces = false) {Q : Option Value → Hp → Prop} {X : String → Hp → Prop} {h : Hp} {m : Nat} {F N : Nat → Int32} (hM : MdS h m) (hL9 : MdL h m) {c0 c1 c2 c3 c4 k : Nat} {B : Int} (g : GI N c0 c1 c2 c3 c4 B) (hk : k < c1) (q1 : ∀ h', Mf m h h' → hI h' (m + 3) = hI h (m + 3) → (kt N k).2.1 = true → Q (some (.int (kt N k).2.2.1)) (st h' m F (kt N k).1)) (q0 : ∀ h' N', Mf m h h' → hI h' (m + 3) = hI h (m + 3) → (∀ j, j < 359 → N' j = N j) → (kt N k).2.1 = false → Q (some (.int (-1))) (st h' m (upd (upd (upd (upd (upd F 10 (kt N k).2.2.2.1) 11 (kt N k).2.2.2.2) 7 3) 8 (kt N k).2.2.2.1) 9 (kt N k).2.2.2.2) N')) (hge : (kt N k).2.1 = true → 0 ≤ (kt N k).2.2.1) : CX9_doTake l [.ref m, .int (nI k)] (st h m F N) Q X := by
  refine eX9_doTake hst (Nat.le_of_ble_eq_true rfl) (fun K => ?_)
  repeat (first | (refine And.intro hM.1 (And.intro hM.2.1 ?_); rw [g_st hM]) | (refine And.intro hM.1 ?_; rw [fp_st hM]) | (refine And.intro hM.1 ?_; rw [fg_st hM]) | refine And.intro (by first | exact hM.1 | assumption | rfl | exact Nat.le_of_ble_eq_true rfl | exact Nat.zero_le _ | decide) ?_)
  refine And.intro (g12n hL9) ?_; rw [g12 hL9]
  repeat (refine And.intro (by first | assumption | rfl | exact Nat.le_of_ble_eq_true rfl | exact Nat.zero_le _ | decide) ?_)
  have hb : hs (st h m F N) (m + 13) = (20, 359) := hL9.2.2.2.2.2.1.2
  refine c_copyRow hst (h := st h m F N) hM.2.2.1 hb (by omega) ?_
  rw [st_N, st_o (by omega) (by omega), st_sO (by omega) (by omega)]
  generalize hh : sRow h (m + 13) (cpr N (hI h (m + 13))) = h1
  have f1 : Mf m h h1 := by rw [← hh]; exact Mf.row (Or.inr rfl)
  have e13 : hI h1 (m + 13) = cpr N (hI h (m + 13)) := by rw [← hh]; exact hI_sRow _ _ _
  have e3 : hI h1 (m + 3) = hI h (m + 3) := by rw [← hh]; exact hI_sRow_ne (by omega)
  have hM1 := hM.mf f1
  have hL1 := hL9.mf f1
  (repeat (refine And.intro (by first | assumption | rfl | exact Nat.le_of_ble_eq_true rfl | exact Nat.zero_le _ | decide) ?_)); refine And.intro (hM1.1) ?_; (repeat (refine And.intro (by first | assumption | rfl | exact Nat.le_of_ble_eq_true rfl | exact Nat.zero_le _ | decide) ?_))
  refine c_goTake hst hM1 g hk (fun hb => ?_) (fun hb M => ?_)
  · refine And.intro (fun _ => ?_) (fun z => absurd (hge hb) z)
    repeat (refine And.intro (by first | assumption | rfl | exact Nat.le_of_ble_eq_true rfl | exact Nat.zero_le _ | decide) ?_)
    exact q1 h1 f1 e3 hb
  · refine And.intro (fun z => absurd z (by decide)) (fun _ => ?_)
    have hM := hM1
    have hL9 := hL1
    refine And.intro hM.1 ?_
    refine And.intro (g12n hL9) ?_; rw [g12 hL9]
    repeat (first | (refine And.intro hM.1 (And.intro hM.2.1 ?_); rw [g_st hM]) | (refine And.intro hM.1 ?_; rw [fp_st hM]) | (refine And.intro hM.1 ?_; rw [fg_st hM]) | refine And.intro (by first | exact hM.1 | assumption | rfl | exact Nat.le_of_ble_eq_true rfl | exact Nat.zero_le _ | decide) ?_)
    refine c_cpI hst hM hL9 (Or.inr rfl) ?_
    repeat (first | (refine And.intro hM.1 (And.intro hM.2.1 ?_); rw [g_st hM]) | (refine And.intro hM.1 ?_; rw [fp_st hM]) | (refine And.intro hM.1 ?_; rw [fg_st hM]) | refine And.intro (by first | exact hM.1 | assumption | rfl | exact Nat.le_of_ble_eq_true rfl | exact Nat.zero_le _ | decide) ?_)
    refine c_keepReason hst hM ?_
    repeat (first | (refine And.intro hM.1 (And.intro hM.2.1 ?_); rw [g_st hM]) | (refine And.intro hM.1 ?_; rw [fp_st hM]) | (refine And.intro hM.1 ?_; rw [fg_st hM]) | refine And.intro (by first | exact hM.1 | assumption | rfl | exact Nat.le_of_ble_eq_true rfl | exact Nat.zero_le _ | decide) ?_)
    refine q0 h1 _ f1 e3 (fun j hj => ?_) hb
    rw [cpr_lt hj, e13, cpr_lt hj]
end J9

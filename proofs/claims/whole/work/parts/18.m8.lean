section M8
theorem hs_st (h : Hp) (m : Nat) (F N : Nat → Int32) : hs (st h m F N) = hs h := rfl
theorem hR_st (h : Hp) (m : Nat) (F N : Nat → Int32) : hR (st h m F N) = hR h := rfl
theorem hs_sRow (h : Hp) (a : Nat) (f : Nat → Int32) : hs (sRow h a f) = hs h := rfl
theorem upd_upd (f : Nat → Int32) (k : Nat) (x y : Int32) : upd (upd f k x) k y = upd f k y := by
  funext j
  by_cases e : j = k
  · subst e; rw [pk_us, pk_us]
  · rw [pk_un e, pk_un e, pk_un e]
/-- what lies behind the reference's row: rows of numbers, history, shelves, text -/
def MdL (h : Hp) (m : Nat) : Prop := 0 < m ∧ (hR h m 2 = m + 2 ∧ hs h (m + 2) = (20, 359)) ∧ (hR h m 3 = m + 3 ∧ hs h (m + 3) = (20, 359)) ∧ (hR h m 4 = m + 4 ∧ hs h (m + 4) = (25, 8)) ∧ (∀ k, k < 8 → hR h (m + 4) k = m + 5 + k ∧ hs h (m + 5 + k) = (20, 359)) ∧ (hR h m 12 = m + 13 ∧ hs h (m + 13) = (20, 359)) ∧
  (hR h m 13 = m + 14 ∧ hs h (m + 14) = (25, 6)) ∧ (∀ k, k < 6 → hR h (m + 14) k = m + 15 + k ∧ hs h (m + 15 + k) = (20, 4)) ∧ (hR h m 14 = m + 21 ∧ hs h (m + 21) = (21, 6)) ∧ (hR h m 15 = m + 22 ∧ hs h (m + 22) = (22, 60))
/-- the first 359 numbers of f, the others of g -/
def cpr (f g : Nat → Int32) : Nat → Int32 := fun j => if j < 359 then f j else g j
theorem c_copyRow {l : Launch} (hst : l.stackTraces = false) {Q : Option Value → Hp → Prop} {X : String → Hp → Prop} {h : Hp} {a b : Nat} (ha : hs h a = (20, 359)) (hb : hs h b = (20, 359)) (ne : a ≠ b) (q : Q none (sRow h b (cpr (hI h a) (hI h b)))) : CX9_copyRow l [.ref a, .ref b] h Q X := by
  refine eX9_copyRow hst (Nat.le_of_ble_eq_true rfl) (fun K hK => ?_)
  have hk : ∀ (n i : Nat), i + n = 359 → K 2 [(2, .int (nI i)), (0, .ref a), (1, .ref b)] [] (sRow h b (fun j => if j < i then hI h a j else hI h b j)) (0, 0) := by
    intro n
    induction n with
    | zero =>
      intro i hi
      refine hK _ _ _ _ ?_
      refine And.intro (fun hcc => ?_) (fun hcc => ?_)
      · repeat refine And.intro (by first | assumption | rfl | exact Nat.le_of_ble_eq_true rfl | exact Nat.zero_le _ | decide) ?_
        rw [show i = 359 by omega]
        exact q
      · exact absurd (show (359 : Int32) ≤ nI i from nI_le (a := 359) (by omega) (by omega)) hcc
    | succ n ih =>
      intro i hi
      refine hK _ _ _ _ ?_
      refine And.intro (fun hcc => ?_) (fun hcc => ?_)
      · exact absurd hcc (show ¬ (359 : Int32) ≤ nI i from nI_ge (a := i) (b := 359) (by omega) (by omega))
      · refine And.intro (congrArg Prod.fst (show hs (sRow h b _) a = _ from ha)) (And.intro (by rw [show hs (sRow h b _) a = _ from ha]; exact vp_in_nI (by omega) (by decide)) ?_)
        refine And.intro (congrArg Prod.fst (show hs (sRow h b _) b = _ from hb)) (And.intro (by rw [show hs (sRow h b _) b = _ from hb]; exact vp_in_nI (by omega) (by decide)) ?_)
        rw [nI_clamp (by omega), hI_sRow_ne ne, wI_row, hI_sRow, sRow_sRow]
        have := ih (i + 1) (by omega)
        rw [← nI_1 i, show (fun j => if j < i + 1 then hI h a j else hI h b j) = upd (fun j => if j < i then hI h a j else hI h b j) i (hI h a i) from by
          funext j
          by_cases e : j = i
          · subst e; rw [pk_us, if_pos (Nat.lt_succ_self _)]
          · rw [pk_un e]
            by_cases g : j < i
            · rw [if_pos g, if_pos (by omega)]
            · rw [if_neg g, if_neg (by omega)]] at this
        exact this
  have := hk 359 0 (by omega)
  rw [show (fun j => if j < 0 then hI h a j else hI h b j) = hI h b from funext fun j => if_neg (Nat.not_lt_zero j), sRow_self] at this
  exact this
/-- the first n rows of the history take what the next ones hold -/
def hshift (h : Hp) (m : Nat) : Nat → Hp
  | 0 => h
  | n + 1 => sRow (hshift h m n) (m + 5 + n) (cpr (hI (hshift h m n) (m + 5 + (n + 1))) (hI (hshift h m n) (m + 5 + n)))
theorem hshift_hs (h : Hp) (m : Nat) : ∀ n, hs (hshift h m n) = hs h
  | 0 => rfl
  | n + 1 => hshift_hs h m n
theorem hshift_hR (h : Hp) (m : Nat) : ∀ n, hR (hshift h m n) = hR h
  | 0 => rfl
  | n + 1 => hshift_hR h m n
theorem hshift_o {h : Hp} {m b : Nat} : ∀ n, (b < m + 5 ∨ m + 5 + n ≤ b) → hI (hshift h m n) b = hI h b
  | 0, _ => rfl
  | n + 1, hb => (hI_sRow_ne (by omega)).trans (hshift_o n (by omega))
/-- a row is put into the history that holds r rows -/
def hpush (h : Hp) (m r : Nat) (R : Nat → Int32) : Hp := if r < 8 then sRow h (m + 5 + r) (cpr R (hI h (m + 5 + r))) else sRow (hshift h m 7) (m + 12) (cpr R (hI (hshift h m 7) (m + 12)))
theorem hpush_hs (h : Hp) (m r : Nat) (R : Nat → Int32) : hs (hpush h m r R) = hs h := by
  unfold hpush; split
  · rfl
  · exact hshift_hs h m 7
theorem hpush_hR (h : Hp) (m r : Nat) (R : Nat → Int32) : hR (hpush h m r R) = hR h := by
  unfold hpush; split
  · rfl
  · exact hshift_hR h m 7
theorem hpush_o {h : Hp} {m r b : Nat} {R : Nat → Int32} (hr : r ≤ 8) (hb : b < m + 5 ∨ m + 13 ≤ b) : hI (hpush h m r R) b = hI h b := by
  unfold hpush; split
  · exact hI_sRow_ne (by omega)
  · exact (hI_sRow_ne (by omega)).trans (hshift_o 7 (by omega))
theorem MdS.of {h h' : Hp} {m : Nat} (hM : MdS h m) (e1 : hs h' = hs h) (e2 : hR h' = hR h) : MdS h' m := by
  unfold MdS at *
  rw [e1, e2]; exact hM
theorem MdL.of {h h' : Hp} {m : Nat} (hM : MdL h m) (e1 : hs h' = hs h) (e2 : hR h' = hR h) : MdL h' m := by
  unfold MdL at *
  rw [e1, e2]; exact hM
theorem c_rememberRow {l : Launch} (hst : l.stackTraces = false) {Q : Option Value → Hp → Prop} {X : String → Hp → Prop} {h : Hp} {m : Nat} {F N : Nat → Int32} (hM : MdS h m) (hL9 : MdL h m) {a r : Nat} (ha : a = m + 1 ∨ a = m + 3) (hr : F 5 = nI r) (r8 : r ≤ 8) (q : Q none (st (hpush h m r (hI (st h m F N) a)) m (upd F 5 (nI (if r < 8 then r + 1 else 8))) N)) : CX9_rememberRow l [.ref m, .ref a] (st h m F N) Q X := by
  obtain ⟨z0, z2, z3, z4, zh, z12, z13, zs, z14, z15⟩ := id hL9
  have hsa : hs h a = (20, 359) := ha.elim (fun e => by rw [e]; exact hM.2.2.1) (fun e => by rw [e]; exact z3.2)
  refine eX9_rememberRow hst (Nat.le_of_ble_eq_true rfl) (fun K hK => ?_)
  have go : ∀ (h' : Hp) (F' : Nat → Int32) (r' : Nat) (L : LV), MdS h' m → MdL h' m → F' 5 = nI r' → r' < 8 → hI h' a = hI h a → lget L 0 = some (.ref m) → lget L 1 = some (.ref a) → (L = lv_args 0 [.ref m, .ref a] ∨ ∃ v, L = [(2, v), (0, .ref m), (1, .ref a)]) → Q none (st (sRow h' (m + 5 + r') (cpr (hI (st h m F N) a) (hI h' (m + 5 + r')))) m (upd F' 5 (F' 5 + 1)) N) → fX9_rememberRow_52 l Q X K L [] (st h' m F' N) (0, 0) := by
    have nes : ∀ r' : Nat, a ≠ m + 5 + r' ∧ m + 5 + r' ≠ m ∧ m + 5 + r' ≠ m + 1 ∧ m + 5 + r' ≠ 0 := by intro r'; omega
    have nea : a = m + 3 → a ≠ m ∧ a ≠ m + 1 := by intro e; omega
    intro h' F' r' L hM' hL' hF hr' hI' _ _ hLL hq
    obtain ⟨ne1, ne2, ne3, ne0⟩ := nes r'
    have hM := hM'
    obtain ⟨y0, y2, y3, y4, yh, y12, y13, ys, y14, y15⟩ := id hL'
    have hsa' : hs h' a = (20, 359) := ha.elim (fun e => by rw [e]; exact hM'.2.2.1) (fun e => by rw [e]; exact y3.2)
    have e4 : hR (st h' m F' N) m 4 = m + 4 := by rw [hR_st]; exact y4.1
    have n4 : m + 4 ≠ 0 := by omega
    rcases hLL with hLL | ⟨v, hLL⟩ <;> subst hLL
    all_goals
      refine And.intro (by rw [hs_st]; exact hM'.1) (And.intro (show hR (st h' m F' N) m 4 ≠ 0 by rw [e4]; exact n4) ?_)
      rw [e4]
      refine And.intro hM'.1 ?_
      rw [fg_st hM', hF]
      refine And.intro (by rw [hs_st, y4.2]) (And.intro (by rw [hs_st, y4.2]; exact vp_in_nI hr' (by decide)) ?_)
      rw [nI_clamp (by omega), hR_st, (yh r' hr').1]
      refine And.intro ne0 ?_
      repeat refine And.intro (by first | assumption | rfl | exact Nat.le_of_ble_eq_true rfl | exact Nat.zero_le _ | decide) ?_
      refine c_copyRow hst (by rw [hs_st]; exact hsa') (by rw [hs_st]; exact (yh r' hr').2) ne1 ?_
      have e9 : hI (st h' m F' N) a = hI (st h m F N) a := by
        rcases ha with e | e
        · rw [e, st_N, st_N]
        · rw [st_o (nea e).1 (nea e).2, st_o (nea e).1 (nea e).2]; exact hI'
      rw [st_sO ne2 ne3, e9, st_o ne2 ne3]
      generalize hB : sRow h' (m + 5 + r') (cpr (hI (st h m F N) a) (hI h' (m + 5 + r'))) = B at hq ⊢
      have hMB : MdS B m := by rw [← hB]; exact hM'
      refine And.intro hMB.1 ?_
      rw [fg_st hMB]
      refine And.intro hMB.1 ?_
      rw [fp_st hMB]
      repeat refine And.intro (by first | assumption | rfl | exact Nat.le_of_ble_eq_true rfl | exact Nat.zero_le _ | decide) ?_
      exact hq
  unfold hpush at q
  have m1 := hM.1
  repeat (first | (refine And.intro hM.1 (And.intro hM.2.1 ?_); rw [g_st hM]) | (refine And.intro hM.1 ?_; rw [fp_st hM]) | (refine And.intro hM.1 ?_; rw [fg_st hM]) | refine And.intro (by first | exact hM.1 | assumption | rfl | exact Nat.le_of_ble_eq_true rfl | exact Nat.zero_le _ | decide) ?_)
  rw [hr]
  by_cases h8 : r < 8
  · rw [if_pos h8, if_pos h8] at q
    refine And.intro (fun _ => ?_) (fun hz => absurd ((nI_eq (by omega) (by decide)).mp (show nI r = nI 8 from hz)) (by omega))
    refine go h F r _ hM hL9 hr h8 rfl rfl rfl (Or.inl rfl) ?_
    rw [hr, nI_1]
    exact q
  · rw [if_neg h8, if_neg h8] at q
    have r88 : r = 8 := by omega
    subst r88
    refine And.intro (fun hz => absurd (show nI 8 = (8 : Int32) from rfl) hz) (fun _ => ?_)
    repeat (first | (refine And.intro hM.1 (And.intro hM.2.1 ?_); rw [g_st hM]) | (refine And.intro hM.1 ?_; rw [fp_st hM]) | (refine And.intro hM.1 ?_; rw [fg_st hM]) | refine And.intro (by first | exact hM.1 | assumption | rfl | exact Nat.le_of_ble_eq_true rfl | exact Nat.zero_le _ | decide) ?_)
    rw [hr, show nI 8 - 1 = nI 7 from rfl]
    have nn : ∀ i : Nat, m + 5 + i ≠ 0 ∧ m + 5 + i ≠ m ∧ m + 5 + i ≠ m + 1 ∧ m + 5 + (i + 1) ≠ 0 ∧ m + 5 + (i + 1) ≠ m + 5 + i ∧ (m + 5 + (i + 1) ≠ m ∧ m + 5 + (i + 1) ≠ m + 1) ∧ m + 4 ≠ 0 := by clear hL9 z2 z3 z4 zh z12 z13 zs z14 z15 q go hK; intro i; omega
    have hk : ∀ (n i : Nat), i + n = 7 → K 21 [(2, .int (nI i)), (0, .ref m), (1, .ref a)] [] (st (hshift h m i) m (upd F 5 (nI 7)) N) (0, 0) := by
      intro n
      induction n with
      | zero =>
        intro i hi
        have hM7 : MdS (hshift h m i) m := hM.of (hshift_hs h m i) (hshift_hR h m i)
        refine hK _ _ _ _ ?_
        refine And.intro hM7.1 ?_
        rw [fg_st hM7, pk_us]
        refine And.intro (fun hcc => ?_) (fun hcc => ?_)
        · have i7 : i = 7 := by omega
          subst i7
          refine go (hshift h m 7) (upd F 5 (nI 7)) 7 _ hM7 (hL9.of (hshift_hs h m 7) (hshift_hR h m 7)) pk_us (by decide) (hshift_o 7 (by omega)) rfl rfl (Or.inr ⟨_, rfl⟩) ?_
          rw [upd_upd, pk_us, show nI 7 + 1 = nI 8 from rfl]
          exact q
        · exact absurd (nI_le (by omega) (by omega)) hcc
      | succ n ih =>
        intro i hi
        obtain ⟨i7, i8, i31, i30⟩ : i < 8 ∧ i + 1 < 8 ∧ i < 2 ^ 31 ∧ i + 1 < 2 ^ 31 := by omega
        have i77 : i < 7 := by omega
        have in1 : i + 1 + n = 7 := by omega
        obtain ⟨n1, n2, n3, n4, n5, n6, n7⟩ := nn i
        have hM7 : MdS (hshift h m i) m := hM.of (hshift_hs h m i) (hshift_hR h m i)
        have hL7 : MdL (hshift h m i) m := hL9.of (hshift_hs h m i) (hshift_hR h m i)
        obtain ⟨y0, y2, y3, y4, yh, y12, y13, ys, y14, y15⟩ := id hL7
        have e4 : hR (st (hshift h m i) m (upd F 5 (nI 7)) N) m 4 = m + 4 := by rw [hR_st]; exact y4.1
        have s4 : hs (st (hshift h m i) m (upd F 5 (nI 7)) N) (m + 4) = (25, 8) := by rw [hs_st]; exact y4.2
        refine hK _ _ _ _ ?_
        refine And.intro hM7.1 ?_
        rw [fg_st hM7, pk_us]
        refine And.intro (fun hcc => ?_) (fun hcc => ?_)
        · exact absurd hcc (nI_ge i77 (by decide))
        · refine And.intro hM7.1 (And.intro (by rw [e4]; exact n7) ?_)
          rw [e4]
          refine And.intro (by rw [s4]) (And.intro (by rw [s4, nI_1]; exact vp_in_nI i8 (by decide)) ?_)
          rw [nI_1, nI_clamp i30, hR_st, (yh (i + 1) i8).1]
          refine And.intro n4 ?_
          refine And.intro hM7.1 (And.intro (by rw [e4]; exact n7) ?_)
          rw [e4]
          refine And.intro (by rw [s4]) (And.intro (by rw [s4]; exact vp_in_nI i7 (by decide)) ?_)
          rw [nI_clamp i31, hR_st, (yh i i7).1]
          refine And.intro n1 ?_
          repeat refine And.intro (by first | assumption | rfl | exact Nat.le_of_ble_eq_true rfl | exact Nat.zero_le _ | decide) ?_
          refine c_copyRow hst (by rw [hs_st]; exact (yh (i + 1) i8).2) (by rw [hs_st]; exact (yh i i7).2) n5 ?_
          rw [st_sO n2 n3, st_o n6.1 n6.2, st_o n2 n3]
          have := ih (i + 1) in1
          rw [← nI_1 i] at this
          exact this
    exact hk 7 0 (by omega)
theorem c_remember {l : Launch} (hst : l.stackTraces = false) {Q : Option Value → Hp → Prop} {X : String → Hp → Prop} {h : Hp} {m : Nat} {F N : Nat → Int32} (hM : MdS h m) (hL9 : MdL h m) {r : Nat} (hr : F 5 = nI r) (r8 : r ≤ 8) (q : Q none (st (hpush h m r N) m (upd F 5 (nI (if r < 8 then r + 1 else 8))) N)) : CX9_remember l [.ref m] (st h m F N) Q X := by
  refine eX9_remember hst (Nat.le_of_ble_eq_true rfl) (fun K => ?_)
  repeat (first | (refine And.intro hM.1 (And.intro hM.2.1 ?_); rw [g_st hM]) | (refine And.intro hM.1 ?_; rw [fp_st hM]) | (refine And.intro hM.1 ?_; rw [fg_st hM]) | refine And.intro (by first | exact hM.1 | assumption | rfl | exact Nat.le_of_ble_eq_true rfl | exact Nat.zero_le _ | decide) ?_)
  refine c_rememberRow hst hM hL9 (Or.inl rfl) hr r8 ?_
  rw [st_N]
  exact And.intro (Nat.zero_le _) (And.intro (Nat.zero_le _) q)
theorem c_changed {l : Launch} (hst : l.stackTraces = false) {Q : Option Value → Hp → Prop} {X : String → Hp → Prop} {h : Hp} {m : Nat} {F N : Nat → Int32} (hM : MdS h m) (hL9 : MdL h m) {r : Nat} {v : Int32} (hr : F 5 = nI r) (r8 : r ≤ 8) (q : Q (some (.int v)) (st (hpush h m r (hI h (m + 3))) m (upd F 5 (nI (if r < 8 then r + 1 else 8))) N)) : CX9_changed l [.ref m, .int v] (st h m F N) Q X := by
  obtain ⟨z0, z2, z3, z4, -⟩ := id hL9
  refine eX9_changed hst (Nat.le_of_ble_eq_true rfl) (fun K => ?_)
  refine And.intro hM.1 (And.intro (show hR (st h m F N) m 3 ≠ 0 by rw [show hR (st h m F N) m 3 = _ from z3.1]; omega) ?_)
  rw [show hR (st h m F N) m 3 = _ from z3.1]
  repeat (first | (refine And.intro hM.1 (And.intro hM.2.1 ?_); rw [g_st hM]) | (refine And.intro hM.1 ?_; rw [fp_st hM]) | (refine And.intro hM.1 ?_; rw [fg_st hM]) | refine And.intro (by first | exact hM.1 | assumption | rfl | exact Nat.le_of_ble_eq_true rfl | exact Nat.zero_le _ | decide) ?_)
  refine c_rememberRow hst hM hL9 (Or.inr rfl) hr r8 ?_
  rw [st_o (by omega) (by omega)]
  repeat (first | (refine And.intro hM.1 (And.intro hM.2.1 ?_); rw [g_st hM]) | (refine And.intro hM.1 ?_; rw [fp_st hM]) | (refine And.intro hM.1 ?_; rw [fg_st hM]) | refine And.intro (by first | exact hM.1 | assumption | rfl | exact Nat.le_of_ble_eq_true rfl | exact Nat.zero_le _ | decide) ?_)
  exact q
end M8

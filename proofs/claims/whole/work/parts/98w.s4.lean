section S4
theorem enF_c {M : Nat → Int32} {e : Ent} {F F' : Nat → Int32} {k : Nat} (h : F' k = F k) : enF M e F' k = enF M e F k := by
  have u : ∀ (G G' : Nat → Int32) (j : Nat) (v : Int32), G' k = G k → upd G' j v k = upd G j v k := fun G G' j v hg => by
    by_cases z : k = j
    · subst z; rw [pk_us, pk_us]
    · rw [pk_un z, pk_un z]; exact hg
  unfold enF
  split
  · split
    · exact u _ _ _ _ (u _ _ _ _ (u _ _ _ _ h))
    · exact h
  · split
    · split
      · exact u _ _ _ _ h
      · split
        · exact u _ _ _ _ h
        · exact u _ _ _ _ h
    · exact h
theorem m1m (i : Nat) (hi : i < 1000) : (-1 : Int32) - (-1 - nI i) = nI i := by
  rw [Int32.sub_eq_add_neg, Int32.neg_sub, Int32.sub_eq_add_neg, ← Int32.add_assoc, Int32.add_comm (-1) (nI i), Int32.add_assoc]
  rw [show (-1 : Int32) + - -1 = 0 by decide, Int32.add_zero]
theorem u_at {F G : Nat → Int32} {j k : Nat} {v : Int32} (h : k ≠ j → F k = G k) : upd F j v k = upd G j v k := by
  by_cases z : k = j
  · subst z; rw [pk_us, pk_us]
  · rw [pk_un z, pk_un z]; exact h z
theorem rd_len {tx : Nat → Int32} {n : Nat} (n60 : n ≤ 60) {es : List Ent} (h : rd tx n = .inl es) : es.length ≤ 20 := by
  by_cases z : 0 < n
  · have k := au_pg (tx := tx) n60 61 0 (0, fun _ => 0, fun _ => 0, fun _ => 0) z (by decide) (by omega)
    rw [show pg tx n 61 0 = .inl es from h] at k
    have := k.2.1
    dsimp only [Note.n] at this
    omega
  · unfold rd at h
    have eq : pg tx n 61 0 = match pe tx n 0 with | .inr j => .inr j | .inl (e, p') => if p' < n then (match pg tx n 60 p' with | .inl es => .inl (e :: es) | .inr j => .inr j) else .inl [e] := rfl
    rw [eq] at h
    cases hp : pe tx n 0 with
    | inr j => rw [hp] at h; cases h
    | inl t =>
      obtain ⟨e, p'⟩ := t
      exact absurd (pe_le hp).1 z
theorem run_len : ∀ (es : List Ent) (N : Nat → Int32) {i : Nat} {Mi : Nat → Int32} {ei : Ent}, run es N = .inr (i, Mi, ei) → i < es.length
  | [], N, i, Mi, ei, h => nomatch h
  | e :: es, N, i, Mi, ei, h => by
    rw [run_cons] at h
    cases he : en N e with
    | none =>
      rw [he] at h
      cases h
      exact Nat.succ_pos _
    | some M' =>
      rw [he] at h
      dsimp only at h
      cases hr : run es M' with
      | inl M'' => rw [hr] at h; cases h
      | inr t =>
        obtain ⟨j, Mj, ej⟩ := t
        rw [hr] at h
        cases h
        have := run_len es M' hr
        rw [List.length_cons]
        omega
theorem k_read {l : Launch} (hst : l.stackTraces = false) {Q : Option Value → Hp → Prop} {X : String → Hp → Prop} {h : Hp} {m : Nat} {F N : Nat → Int32} (hM : MdS h m) (hL9 : MdL h m) {n : Nat} (e16 : F 16 = nI n) (n60 : n ≤ 60) {c0 c1 c2 c3 c4 : Nat} {B D : Int} (g : GI N c0 c1 c2 c3 c4 B) (dd : DI N c0 D) (hB : B + 19980 ≤ 16000000) (hD : D + 180 ≤ 1000000) {r : Nat} (hr : F 5 = nI r) (r8 : r ≤ 8) (x1 : ∀ j F', rd (hI h (m + 22)) n = .inr j → (∀ k, k ≠ 17 → k ≠ 20 → F' k = upd (upd (upd F 18 (nI j)) 0 1) 16 0 k) → Q (some (.int 0)) (st h m F' N)) (x2 : ∀ es i Mi ei h' F' N', rd (hI h (m + 22)) n = .inl es → run es N = .inr (i, Mi, ei) → Mf m h h' → (∀ j, j < 359 → N' j = N j) → (∀ k, k ≠ 17 → k ≠ 20 → k ≠ 10 → k ≠ 11 → F' k = upd (upd (upd (enF Mi ei (upd F 0 0)) 16 0) 0 2) 19 (nI i) k) → Q (some (.int 0)) (st h' m F' N')) (q : ∀ es M h' F', rd (hI h (m + 22)) n = .inl es → run es N = .inl M → Mf m (hpush h m r N) h' → (∀ k, k ≠ 17 → k ≠ 20 → F' k = upd (upd (upd F 16 0) 0 0) 5 (nI (pr r)) k) → Q (some (.int (nI es.length))) (st h' m F' M)) : CX9_read l [.ref m] (st h m F N) Q X := by
  have hday := fun p hp => dd.sum (p := p) hp
  refine eX9_read hst (Nat.le_of_ble_eq_true rfl) (fun K => ?_)
  repeat (first | (refine And.intro hM.1 (And.intro hM.2.1 ?_); rw [g_st hM]) | (refine And.intro hM.1 ?_; rw [fp_st hM]) | (refine And.intro hM.1 ?_; rw [fg_st hM]) | refine And.intro (by first | exact hM.1 | assumption | rfl | exact Nat.le_of_ble_eq_true rfl | exact Nat.zero_le _ | decide) ?_)
  refine c_goOver0 hst hM hL9 e16 n60 g hday (fun j v hrd => ?_) (fun es hrd => ?_)
  · repeat (first | (refine And.intro hM.1 (And.intro hM.2.1 ?_); rw [g_st hM]) | (refine And.intro hM.1 ?_; rw [fp_st hM]) | (refine And.intro hM.1 ?_; rw [fg_st hM]) | refine And.intro (by first | exact hM.1 | assumption | rfl | exact Nat.le_of_ble_eq_true rfl | exact Nat.zero_le _ | decide) ?_)
    rw [PF_20]
    refine And.intro (fun z => absurd z (by decide)) (fun _ => ?_)
    repeat (first | (refine And.intro hM.1 (And.intro hM.2.1 ?_); rw [g_st hM]) | (refine And.intro hM.1 ?_; rw [fp_st hM]) | (refine And.intro hM.1 ?_; rw [fg_st hM]) | refine And.intro (by first | exact hM.1 | assumption | rfl | exact Nat.le_of_ble_eq_true rfl | exact Nat.zero_le _ | decide) ?_)
    rw [PF_17]
    rw [show upd (PF F j 1) 18 (nI j) 20 = 1 from (pk_un (by decide)).trans PF_20]
    refine c_fails1 hst hM ?_
    refine And.intro (fun z => absurd z (by decide)) (fun _ => ?_)
    repeat (first | (refine And.intro hM.1 (And.intro hM.2.1 ?_); rw [g_st hM]) | (refine And.intro hM.1 ?_; rw [fp_st hM]) | (refine And.intro hM.1 ?_; rw [fg_st hM]) | refine And.intro (by first | exact hM.1 | assumption | rfl | exact Nat.le_of_ble_eq_true rfl | exact Nat.zero_le _ | decide) ?_)
    refine x1 j _ hrd (fun k h1 h2 => ?_)
    exact u_at (fun _ => u_at (fun _ => u_at (fun _ => PF_o h1 h2)))
  · repeat (first | (refine And.intro hM.1 (And.intro hM.2.1 ?_); rw [g_st hM]) | (refine And.intro hM.1 ?_; rw [fp_st hM]) | (refine And.intro hM.1 ?_; rw [fg_st hM]) | refine And.intro (by first | exact hM.1 | assumption | rfl | exact Nat.le_of_ble_eq_true rfl | exact Nat.zero_le _ | decide) ?_)
    rw [PF_20]
    refine And.intro (fun _ => ?_) (fun z => absurd rfl z)
    repeat (first | (refine And.intro hM.1 (And.intro hM.2.1 ?_); rw [g_st hM]) | (refine And.intro hM.1 ?_; rw [fp_st hM]) | (refine And.intro hM.1 ?_; rw [fg_st hM]) | refine And.intro (by first | exact hM.1 | assumption | rfl | exact Nat.le_of_ble_eq_true rfl | exact Nat.zero_le _ | decide) ?_)
    rw [PF_20]
    refine c_fails0 hst hM ?_
    refine And.intro (fun _ => ?_) (fun z => absurd rfl z)
    refine And.intro hM.1 ?_
    refine And.intro (by rw [g_st hM]; omega) ?_
    rw [g_st hM]
    refine And.intro hM.1 ?_
    refine And.intro (g3n hL9) ?_; rw [g3 hL9]
    repeat (refine And.intro (by first | assumption | rfl | exact Nat.le_of_ble_eq_true rfl | exact Nat.zero_le _ | decide) ?_)
    refine c_cpO hst hM hL9 (Or.inl rfl) (fun h1 f1 eb => ?_)
    have eb' : ∀ j, j < 359 → hI h1 (m + 3) j = N j := fun j hj => by rw [eb]; exact cpr_lt hj
    have tx1 : hI h1 (m + 22) = hI h (m + 22) := f1.2.2.2.2 _ (by omega) (by omega)
    have hM1 := hM.mf f1
    have hL1 := hL9.mf f1
    have f16 : upd (PF F n 0) 0 0 16 = nI n := (pk_un (by decide)).trans ((PF_o (by decide) (by decide)).trans e16)
    (repeat (refine And.intro (by first | assumption | rfl | exact Nat.le_of_ble_eq_true rfl | exact Nat.zero_le _ | decide) ?_)); refine And.intro (hM1.1) ?_; (repeat (refine And.intro (by first | assumption | rfl | exact Nat.le_of_ble_eq_true rfl | exact Nat.zero_le _ | decide) ?_))
    refine c_goOver1 hst hM1 hL1 (F := upd (PF F n 0) 0 0) f16 n60 g dd hB hD (by rw [tx1]; exact hrd) (fun M h2 hrun f2 e3 => ?_) (fun i Mi ei p' h2 F2 N2 hrun f2 e3 ef => ?_)
    · have hM0 := hM
      have hM := hM1.mf f2
      repeat (first | (refine And.intro hM.1 (And.intro hM.2.1 ?_); rw [g_st hM]) | (refine And.intro hM.1 ?_; rw [fp_st hM]) | (refine And.intro hM.1 ?_; rw [fg_st hM]) | refine And.intro (by first | exact hM.1 | assumption | rfl | exact Nat.le_of_ble_eq_true rfl | exact Nat.zero_le _ | decide) ?_)
      have l20 := rd_len n60 hrd
      refine And.intro (fun _ => ?_) (fun z => absurd (nI_pos' (show es.length < 2 ^ 31 by omega)) z)
      repeat (first | (refine And.intro hM.1 (And.intro hM.2.1 ?_); rw [g_st hM]) | (refine And.intro hM.1 ?_; rw [fp_st hM]) | (refine And.intro hM.1 ?_; rw [fg_st hM]) | refine And.intro (by first | exact hM.1 | assumption | rfl | exact Nat.le_of_ble_eq_true rfl | exact Nat.zero_le _ | decide) ?_)
      refine c_fails0 hst hM ?_
      refine And.intro (fun _ => ?_) (fun z => absurd rfl z)
      repeat (first | (refine And.intro hM.1 (And.intro hM.2.1 ?_); rw [g_st hM]) | (refine And.intro hM.1 ?_; rw [fp_st hM]) | (refine And.intro hM.1 ?_; rw [fg_st hM]) | refine And.intro (by first | exact hM.1 | assumption | rfl | exact Nat.le_of_ble_eq_true rfl | exact Nat.zero_le _ | decide) ?_)
      refine c_chg (N := N) hst hM0 hL9 (f1.trans f2) (fun j hj => by rw [e3]; exact eb' j hj) ?_ r8 (fun h9 f9 => ?_)
      · rw [pk_un (by decide), pk_un (by decide), PF_o (by decide) (by decide), pk_un (by decide), PF_o (by decide) (by decide)]
        exact hr
      repeat (first | (refine And.intro hM.1 (And.intro hM.2.1 ?_); rw [g_st hM]) | (refine And.intro hM.1 ?_; rw [fp_st hM]) | (refine And.intro hM.1 ?_; rw [fg_st hM]) | refine And.intro (by first | exact hM.1 | assumption | rfl | exact Nat.le_of_ble_eq_true rfl | exact Nat.zero_le _ | decide) ?_)
      refine q es M h9 _ hrd hrun f9 (fun k h1 h2 => ?_)
      refine u_at (fun _ => ?_)
      refine u_at (fun h0 => ?_)
      refine u_at (fun _ => ?_)
      rw [PF_o h1 h2, pk_un h0, PF_o h1 h2]
    · have hM := hM1.mf f2
      have hL9 := hL1.mf f2
      have l20 := rd_len n60 hrd
      have il := run_len es N hrun
      have neg : ¬ (0 : Int32) ≤ -1 - nI i := fun z => by
        have e := m1m i (by omega)
        have t : (-1 - nI i).toInt = -1 - i := by
          have t1 : (-1 : Int32).toInt = -1 := by decide
          have t2 : (nI i).toInt = (i : Int) := nI_toInt (by omega)
          have t3 := isub_i (a := -1) (b := nI i) (by rw [t1, t2]; omega) (by rw [t1, t2]; omega)
          rw [t1, t2] at t3
          exact t3
        have := Int32.le_iff_toInt_le.mp z
        have e0 : (0 : Int32).toInt = 0 := rfl
        omega
      refine And.intro hM.1 ?_
      rw [fp_st hM]
      refine And.intro (fun z => absurd z neg) (fun _ => ?_)
      refine And.intro rfl (And.intro (Nat.le_of_ble_eq_true rfl) (And.intro hM.1 (And.intro (Nat.le_of_ble_eq_true rfl) (And.intro (Nat.le_of_ble_eq_true rfl) ?_))))
      refine c_fails1 hst hM ?_
      refine And.intro (fun z => absurd z (by decide)) (fun _ => ?_)
      refine And.intro hM.1 ?_
      rw [fp_st hM, m1m i (by omega)]
      refine And.intro hM.1 ?_
      refine And.intro (g3n hL9) ?_; rw [g3 hL9]
      repeat (first | (refine And.intro hM.1 (And.intro hM.2.1 ?_); rw [g_st hM]) | (refine And.intro hM.1 ?_; rw [fp_st hM]) | (refine And.intro hM.1 ?_; rw [fg_st hM]) | refine And.intro (by first | exact hM.1 | assumption | rfl | exact Nat.le_of_ble_eq_true rfl | exact Nat.zero_le _ | decide) ?_)
      refine c_cpI hst hM hL9 (Or.inl rfl) ?_
      repeat (refine And.intro (by first | assumption | rfl | exact Nat.le_of_ble_eq_true rfl | exact Nat.zero_le _ | decide) ?_)
      refine x2 es i Mi ei h2 _ _ hrd hrun (f1.trans f2) (fun j hj => by rw [cpr_lt hj, e3]; exact eb' j hj) (fun k h1 h2 h3 h4 => ?_)
      refine u_at (fun _ => ?_)
      refine u_at (fun h0 => ?_)
      refine u_at (fun _ => ?_)
      rw [ef k h3 h4]
      refine enF_c ?_
      rw [PF_o h1 h2]
      exact u_at (fun _ => PF_o h1 h2)
end S4

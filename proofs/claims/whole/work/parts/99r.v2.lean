section V2
set_option maxHeartbeats 4000000 in
theorem wd9 {args : Array Value} {s : State} (hts : ∀ w ∈ lw_tbl, w.before args s = true) (hgv : (Jvm.Cond.and given_1 narrow_1).before args s = true) (h0 : 0 < s.heap.size) : ∃ (D : va_G) (dA : Nat → ClassId), Wd D dA (fun q => s.heap.size ≤ q) s := by
  have hw : ∀ w ∈ SW9, w.before args s = true := fun w hw => hts w (of_decide_eq_true (List.all_eq_true.mp SW9_in w hw))
  have hg : ∀ w ∈ SG9, w.before args s = true := fun w hw => flat_of_before _ hgv w (of_decide_eq_true (List.all_eq_true.mp SG9_in w hw))
  have htb : ∀ w ∈ TB, w.before args s = true := fun w hw => hts w (List.mem_filter.mp hw).1
  unfold SW9 at hw
  obtain ⟨a1, hw⟩ := List.forall_mem_append.mp hw
  obtain ⟨a2, hw⟩ := List.forall_mem_append.mp hw
  obtain ⟨a3, hw⟩ := List.forall_mem_append.mp hw
  obtain ⟨a4, hw⟩ := List.forall_mem_append.mp hw
  obtain ⟨a5, hw⟩ := List.forall_mem_append.mp hw
  obtain ⟨a6, hw⟩ := List.forall_mem_append.mp hw
  obtain ⟨a7, a8⟩ := List.forall_mem_append.mp hw
  have b1 : ∀ q ∈ NCS, (Cond.not (.castable q.1 q.2)).before args s = true := fun q h => hg _ (List.mem_append.mpr (Or.inl (List.mem_map.mpr ⟨q, h, rfl⟩)))
  have b2 : (Cond.isRef (.static Bundle.tN "UNASSIGNED_STACK" Bundle.steD)).before args s = true := hg _ (List.mem_append.mpr (Or.inr (List.mem_cons.mpr (Or.inl rfl))))
  have b3 : (Cond.isRef (.static Bundle.tN "SUPPRESSED_SENTINEL" Bundle.listD)).before args s = true := hg _ (List.mem_append.mpr (Or.inr (List.mem_cons.mpr (Or.inr (List.mem_cons.mpr (Or.inl rfl))))))
  clear hw hg
  have hc : ∀ k : Nat, ∃ c : ClassId, ∃ i : Nat → Nat, ∀ q : vw_C, cls[k]? = some q → u_Kn s q.1 q.2.1 q.2.2 c i := by
    intro k
    have mk : ∀ {C : String} {T : u_T} {N : Nat}, (∀ w ∈ u_ws C T N, w ∈ TB) → (Cond.instantiable C N).before args s = true → cls[k]? = some (C, T, N) → ∃ c : ClassId, ∃ i : Nat → Nat, ∀ q : vw_C, cls[k]? = some q → u_Kn s q.1 q.2.1 q.2.2 c i := by
      intro C T N h1 h2 h3
      obtain ⟨c, i, h4⟩ := u_known htb h1 h2
      exact ⟨c, i, fun q hq => by rw [h3] at hq; cases hq; exact h4⟩
    match k with
    | 0 => exact mk inX0 (a8 _ (by simp)) rfl
    | 1 => exact mk inX1 (a8 _ (by simp)) rfl
    | 2 => exact mk inX2 (a8 _ (by simp)) rfl
    | 3 => exact mk inX3 (a8 _ (by simp)) rfl
    | 4 => exact mk inX4 (a8 _ (by simp)) rfl
    | 5 => exact mk inX5 (a8 _ (by simp)) rfl
    | 6 => exact mk inX6 (a8 _ (by simp)) rfl
    | 7 => exact mk inX7 (a8 _ (by simp)) rfl
    | 8 => exact mk inX8 (a8 _ (by simp)) rfl
    | 9 => exact mk inX9 (a8 _ (by simp)) rfl
    | k + 10 => exact ⟨0, fun _ => 0, fun q hq => by simp [cls] at hq⟩
  obtain ⟨dC, hc⟩ := Classical.axiomOfChoice hc
  obtain ⟨dI, hc⟩ := Classical.axiomOfChoice hc
  have hp : ∀ {ty : FieldType}, (∀ C, ty ≠ .object C) → (Cond.arrayClass ty).before args s = true → ∃ cA : ClassId, ArrOfT s cA ty ∧ va_RA s cA ty := by
    intro ty hty h
    obtain ⟨c, k, comp, h1, h2, h3⟩ := Cond.arrayClass_spec h
    refine ⟨c, fun n z => ⟨fun k h => (by cases h), k, h2, comp, h3⟩, ?_⟩
    cases ty <;> first | exact h1 | exact absurd rfl (hty _)
  have ho : ∀ {C : String}, (Cond.arrayOver (.object C)).before args s = true → ∃ cA : ClassId, ArrOfT s cA (.object C) ∧ va_RA s cA (.object C) := by
    intro C h
    obtain ⟨comp, c, k, h1, h2, h3, h4, h5⟩ := Cond.arrayOver_spec h
    exact ⟨c, fun n z => ⟨fun k h => (by cases h), k, h3, comp, h4⟩, k, comp, h3, h4, h1, h5⟩
  have ha : ∀ k : Nat, ∃ cA : ClassId, k ∈ ATY.map (fun q => q.1) → ArrOfT s cA (fA9 k) ∧ va_RA s cA (fA9 k) := by
    intro k
    by_cases hk : k ∈ ATY.map (fun q => q.1)
    · have : ∃ cA : ClassId, ArrOfT s cA (fA9 k) ∧ va_RA s cA (fA9 k) := by
        simp only [ATY, List.map_cons, List.map_nil, List.mem_cons, List.not_mem_nil, or_false] at hk
        rcases hk with h | h | h | h | h | h | h | h | h | h | h | h <;> subst h
        · exact hp (ty := .int) (fun _ z => by cases z) (a6 (.arrayClass .int) (by simp))
        · exact hp (ty := .boolean) (fun _ z => by cases z) (a6 (.arrayClass .boolean) (by simp))
        · exact hp (ty := .char) (fun _ z => by cases z) (a6 (.arrayClass .char) (by simp))
        · exact hp (ty := .long) (fun _ z => by cases z) (a6 (.arrayClass .long) (by simp))
        · exact hp (ty := .double) (fun _ z => by cases z) (a6 (.arrayClass .double) (by simp))
        · obtain ⟨comp, c, k, h1, h3, h4, h5⟩ := aOB (a6 (.arrayOver (.array .int)) (List.mem_cons.mpr (Or.inl rfl)))
          exact ⟨c, fun n z => ⟨fun k h => (by cases h), k, h3, comp, h4⟩, h5⟩
        · exact ho (a4 _ (List.mem_map.mpr ⟨RX0, by decide, rfl⟩))
        · exact ho (a4 _ (List.mem_map.mpr ⟨RX2, by decide, rfl⟩))
        · exact ho (a4 _ (List.mem_map.mpr ⟨RX3, by decide, rfl⟩))
        · exact ho (a4 _ (List.mem_map.mpr ⟨RX4, by decide, rfl⟩))
        · exact ho (a4 _ (List.mem_map.mpr ⟨RX6, by decide, rfl⟩))
        · exact ho (a4 _ (List.mem_map.mpr ⟨RX7, by decide, rfl⟩))
      obtain ⟨cA, h⟩ := this
      exact ⟨cA, fun _ => h⟩
    · exact ⟨0, fun h => absurd h hk⟩
  obtain ⟨dA, ha⟩ := Classical.axiomOfChoice ha
  have hN : ∀ a : Nat, a < s.heap.size → ¬ (fun q : Nat => s.heap.size ≤ q) a := fun a h => Nat.not_le.mpr h
  have in7 : (Cond.initialized Bundle.tN).before args s = true := a7 _ (List.mem_cons.mpr (Or.inr (List.mem_cons.mpr (Or.inr (List.mem_cons.mpr (Or.inl rfl))))))
  refine ⟨(dC, dI), dA, ⟨fun c q hq => hc c q hq, fun k q hq => ?_⟩, ⟨⟨fun X hX => va_Cs.of (a1 _ (List.mem_map.mpr ⟨X, hX, rfl⟩)), fun x hx => va_Nw.of rfl (a2 _ (List.mem_map.mpr ⟨x, hx, rfl⟩))⟩, fun q hq => va_Nw.of rfl (a3 _ (List.mem_map.mpr ⟨q, hq, rfl⟩)), fun C hC => va_AO.of (a4 _ (List.mem_map.mpr ⟨C, hC, rfl⟩)), fun q hq => ?_, fun q hq => va_Nc.of (b1 q hq), a6 _ (List.mem_cons.mpr (Or.inl rfl))⟩, vx_Zqof (a7 _ (List.mem_cons.mpr (Or.inl rfl))) in7 b2 hN, vx_Zqof (a7 _ (List.mem_cons.mpr (Or.inr (List.mem_cons.mpr (Or.inl rfl))))) in7 b3 hN, Nat.not_le.mpr h0⟩
  · have h1 : q ∈ tysOf dA := List.mem_of_getElem? hq
    obtain ⟨z, hz, rfl⟩ := List.mem_map.mp h1
    rw [aty_f z hz]
    exact ha z.1 (List.mem_map.mpr ⟨z, hz, rfl⟩)
  · have h1 := a5 _ (List.mem_map.mpr ⟨q, hq, rfl⟩)
    have hcur : ∃ cur, s.vm.findClass q.1 = some cur := by
      have h2 : (Cond.stringRef q.1 q.2.1 q.2.2).holds args s none s [] = true := h1
      cases hc : s.vm.findClass q.1 with
      | none =>
        exfalso
        simp only [Cond.holds, Cond.value] at h2
        simp [hc] at h2
      | some cur => exact ⟨cur, rfl⟩
    obtain ⟨cur, hcur⟩ := hcur
    have h4 : (Cond.stringRef q.1 q.2.1 q.2.2).before #[] s = true := h1
    obtain ⟨-, -, -, a, -, -, -, -, -, h3⟩ := Cond.stringRef_spec (args := #[]) (first := s) (o := none) (idx := []) hcur h4
    exact ⟨a, h4, h3⟩
end V2

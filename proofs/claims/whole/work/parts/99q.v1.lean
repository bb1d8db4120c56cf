section V1
/-! what the statement gives of the start -/
theorem aOB {args : Array Value} {first s : State} {o : Option Outcome} {idx : List Nat} {t : FieldType} (h : (Cond.arrayOver (.array t)).holds args first o s idx = true) :
    ∃ comp c k, s.vm.findClass (FieldType.array t).toString = some comp ∧ s.vm.classes[c]? = some k ∧ k.kind = .array comp (.array t) ∧ s.vm.findClass ("[" ++ (FieldType.array t).toString) = some c := by
  simp only [Cond.holds, Cond.value, beq_iff_eq] at h
  cases hc : s.vm.findClass (FieldType.array t).toString with
  | none => simp [hc] at h
  | some comp =>
    simp only [hc, Option.bind_some, Option.bind_eq_some_iff, Option.map_eq_some_iff] at h
    obtain ⟨c, hi, k, hk, hb⟩ := h
    obtain ⟨hlt, hp, -⟩ := Array.findIdx?_eq_some_iff_getElem.mp hi
    have hkk : s.vm.classes[c] = k := (Array.getElem?_eq_some_iff.mp hk).2
    rw [hkk] at hp
    cases hkind : k.kind with
    | array component ty =>
      rw [hkind] at hb hp
      simp at hb hp
      exact ⟨comp, c, k, rfl, hk, by rw [hkind, hp, hb.1], hb.2⟩
    | _ => rw [hkind] at hb; simp at hb
def fA9 : Nat → FieldType := fun k => match k with
  | 20 => .int
  | 21 => .boolean
  | 22 => .char
  | 23 => .long
  | 24 => .double
  | 25 => .array .int
  | 30 => .object RX0
  | 32 => .object RX2
  | 33 => .object RX3
  | 34 => .object RX4
  | 36 => .object RX6
  | _ => .object RX7
theorem aty_f : ∀ q ∈ ATY, q.2 = fA9 q.1 := by
  intro q hq
  simp only [ATY, List.mem_cons, List.not_mem_nil, or_false] at hq
  rcases hq with h | h | h | h | h | h | h | h | h | h | h | h <;> subst h <;> rfl
/-- the words that the start needs beyond TB -/
def SW9 : List Cond := CSS.map (fun X => Cond.castable X X) ++ (DECS.map Cond.declares ++ (NESTS.map (fun q => Cond.methodLinkNest q.1 q.2.1 q.2.2 "SparePlanner") ++ (AOS.map (fun C => Cond.arrayOver (.object C)) ++ (STRS.map (fun q => Cond.stringRef q.1 q.2.1 q.2.2) ++ ([Cond.arrayOver (.array .int), Cond.arrayClass .int, Cond.arrayClass .boolean, Cond.arrayClass .char, Cond.arrayClass .long, Cond.arrayClass .double] ++ ([Cond.laysStatic Bundle.tN "UNASSIGNED_STACK" Bundle.steD, Cond.laysStatic Bundle.tN "SUPPRESSED_SENTINEL" Bundle.listD, Cond.initialized Bundle.tN] ++ [Cond.instantiable RX0 3, Cond.instantiable RX1 2, Cond.instantiable RX2 3, Cond.instantiable RX3 13, Cond.instantiable RX4 5, Cond.instantiable RX5 6, Cond.instantiable RX6 5, Cond.instantiable RX7 10, Cond.instantiable RX8 14, Cond.instantiable RX9 21]))))))
theorem SW9_in : SW9.all (fun w => decide (w ∈ lw_tbl)) = true := by decide +kernel
def SG9 : List Cond := NCS.map (fun q => Cond.not (.castable q.1 q.2)) ++ [Cond.isRef (.static Bundle.tN "UNASSIGNED_STACK" Bundle.steD), Cond.isRef (.static Bundle.tN "SUPPRESSED_SENTINEL" Bundle.listD)]
theorem SG9_in : SG9.all (fun w => decide (w ∈ flatC (Jvm.Cond.and given_1 narrow_1))) = true := by decide +kernel
end V1

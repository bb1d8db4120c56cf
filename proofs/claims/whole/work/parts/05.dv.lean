section WORDS
theorem vat0_a : (vx_atS "SparePlanner" 128 "java/lang/IndexOutOfBoundsException" ["java/lang/RuntimeException", "java/lang/Exception"]).all (fun w => (decide (w ∈ lw_tbl) && goodWord w) || (decide (w = Cond.castable "java/lang/IndexOutOfBoundsException" "java/lang/IndexOutOfBoundsException") || decide (w ∈ DECS.map Cond.declares))) = true := by decide +kernel
theorem vat0 : (∀ w ∈ vx_atS "SparePlanner" 128 "java/lang/IndexOutOfBoundsException" ["java/lang/RuntimeException", "java/lang/Exception"], w ∈ TB ∨ w = Cond.castable "java/lang/IndexOutOfBoundsException" "java/lang/IndexOutOfBoundsException" ∨ ∃ x ∈ DECS, w = Cond.declares x) ∧ (∀ w ∈ Cond.classLink "SparePlanner" 124 "java/lang/IndexOutOfBoundsException" :: Cond.initialized "java/lang/IndexOutOfBoundsException" :: vx_atS "SparePlanner" 128 "java/lang/IndexOutOfBoundsException" ["java/lang/RuntimeException", "java/lang/Exception"], vx_ot w = true) := by
  refine ⟨fun w hw => ?_, List.all_eq_true.mp (by decide +kernel)⟩
  have h1 := List.all_eq_true.mp vat0_a w hw
  simp only [Bool.or_eq_true, Bool.and_eq_true, decide_eq_true_eq] at h1
  exact h1.elim (fun z => Or.inl (List.mem_filter.mpr z)) (fun z => Or.inr (z.elim Or.inl (fun y => Or.inr (by obtain ⟨x, h2, h3⟩ := List.mem_map.mp y; exact ⟨x, h2, h3.symm⟩))))
theorem vat1_a : (vx_atS "SparePlanner" 100 "java/lang/IllegalArgumentException" ["java/lang/RuntimeException", "java/lang/Exception"]).all (fun w => (decide (w ∈ lw_tbl) && goodWord w) || (decide (w = Cond.castable "java/lang/IllegalArgumentException" "java/lang/IllegalArgumentException") || decide (w ∈ DECS.map Cond.declares))) = true := by decide +kernel
theorem vat1 : (∀ w ∈ vx_atS "SparePlanner" 100 "java/lang/IllegalArgumentException" ["java/lang/RuntimeException", "java/lang/Exception"], w ∈ TB ∨ w = Cond.castable "java/lang/IllegalArgumentException" "java/lang/IllegalArgumentException" ∨ ∃ x ∈ DECS, w = Cond.declares x) ∧ (∀ w ∈ Cond.classLink "SparePlanner" 96 "java/lang/IllegalArgumentException" :: Cond.initialized "java/lang/IllegalArgumentException" :: vx_atS "SparePlanner" 100 "java/lang/IllegalArgumentException" ["java/lang/RuntimeException", "java/lang/Exception"], vx_ot w = true) := by
  refine ⟨fun w hw => ?_, List.all_eq_true.mp (by decide +kernel)⟩
  have h1 := List.all_eq_true.mp vat1_a w hw
  simp only [Bool.or_eq_true, Bool.and_eq_true, decide_eq_true_eq] at h1
  exact h1.elim (fun z => Or.inl (List.mem_filter.mpr z)) (fun z => Or.inr (z.elim Or.inl (fun y => Or.inr (by obtain ⟨x, h2, h3⟩ := List.mem_map.mp y; exact ⟨x, h2, h3.symm⟩))))
theorem vat2_a : (vx_atS "SparePlanner" 67 "java/lang/IllegalStateException" ["java/lang/RuntimeException", "java/lang/Exception"]).all (fun w => (decide (w ∈ lw_tbl) && goodWord w) || (decide (w = Cond.castable "java/lang/IllegalStateException" "java/lang/IllegalStateException") || decide (w ∈ DECS.map Cond.declares))) = true := by decide +kernel
theorem vat2 : (∀ w ∈ vx_atS "SparePlanner" 67 "java/lang/IllegalStateException" ["java/lang/RuntimeException", "java/lang/Exception"], w ∈ TB ∨ w = Cond.castable "java/lang/IllegalStateException" "java/lang/IllegalStateException" ∨ ∃ x ∈ DECS, w = Cond.declares x) ∧ (∀ w ∈ Cond.classLink "SparePlanner" 63 "java/lang/IllegalStateException" :: Cond.initialized "java/lang/IllegalStateException" :: vx_atS "SparePlanner" 67 "java/lang/IllegalStateException" ["java/lang/RuntimeException", "java/lang/Exception"], vx_ot w = true) := by
  refine ⟨fun w hw => ?_, List.all_eq_true.mp (by decide +kernel)⟩
  have h1 := List.all_eq_true.mp vat2_a w hw
  simp only [Bool.or_eq_true, Bool.and_eq_true, decide_eq_true_eq] at h1
  exact h1.elim (fun z => Or.inl (List.mem_filter.mpr z)) (fun z => Or.inr (z.elim Or.inl (fun y => Or.inr (by obtain ⟨x, h2, h3⟩ := List.mem_map.mp y; exact ⟨x, h2, h3.symm⟩))))
theorem vat4_a : (vx_atS "SparePlanner" 270 "java/lang/UnsupportedOperationException" ["java/lang/RuntimeException", "java/lang/Exception"]).all (fun w => (decide (w ∈ lw_tbl) && goodWord w) || (decide (w = Cond.castable "java/lang/UnsupportedOperationException" "java/lang/UnsupportedOperationException") || decide (w ∈ DECS.map Cond.declares))) = true := by decide +kernel
theorem vat4 : (∀ w ∈ vx_atS "SparePlanner" 270 "java/lang/UnsupportedOperationException" ["java/lang/RuntimeException", "java/lang/Exception"], w ∈ TB ∨ w = Cond.castable "java/lang/UnsupportedOperationException" "java/lang/UnsupportedOperationException" ∨ ∃ x ∈ DECS, w = Cond.declares x) ∧ (∀ w ∈ Cond.classLink "SparePlanner" 266 "java/lang/UnsupportedOperationException" :: Cond.initialized "java/lang/UnsupportedOperationException" :: vx_atS "SparePlanner" 270 "java/lang/UnsupportedOperationException" ["java/lang/RuntimeException", "java/lang/Exception"], vx_ot w = true) := by
  refine ⟨fun w hw => ?_, List.all_eq_true.mp (by decide +kernel)⟩
  have h1 := List.all_eq_true.mp vat4_a w hw
  simp only [Bool.or_eq_true, Bool.and_eq_true, decide_eq_true_eq] at h1
  exact h1.elim (fun z => Or.inl (List.mem_filter.mpr z)) (fun z => Or.inr (z.elim Or.inl (fun y => Or.inr (by obtain ⟨x, h2, h3⟩ := List.mem_map.mp y; exact ⟨x, h2, h3.symm⟩))))
theorem vat5_a : (vx_atS "SparePlanner" 318 "java/lang/ArithmeticException" ["java/lang/RuntimeException", "java/lang/Exception"]).all (fun w => (decide (w ∈ lw_tbl) && goodWord w) || (decide (w = Cond.castable "java/lang/ArithmeticException" "java/lang/ArithmeticException") || decide (w ∈ DECS.map Cond.declares))) = true := by decide +kernel
theorem vat5 : (∀ w ∈ vx_atS "SparePlanner" 318 "java/lang/ArithmeticException" ["java/lang/RuntimeException", "java/lang/Exception"], w ∈ TB ∨ w = Cond.castable "java/lang/ArithmeticException" "java/lang/ArithmeticException" ∨ ∃ x ∈ DECS, w = Cond.declares x) ∧ (∀ w ∈ Cond.classLink "SparePlanner" 314 "java/lang/ArithmeticException" :: Cond.initialized "java/lang/ArithmeticException" :: vx_atS "SparePlanner" 318 "java/lang/ArithmeticException" ["java/lang/RuntimeException", "java/lang/Exception"], vx_ot w = true) := by
  refine ⟨fun w hw => ?_, List.all_eq_true.mp (by decide +kernel)⟩
  have h1 := List.all_eq_true.mp vat5_a w hw
  simp only [Bool.or_eq_true, Bool.and_eq_true, decide_eq_true_eq] at h1
  exact h1.elim (fun z => Or.inl (List.mem_filter.mpr z)) (fun z => Or.inr (z.elim Or.inl (fun y => Or.inr (by obtain ⟨x, h2, h3⟩ := List.mem_map.mp y; exact ⟨x, h2, h3.symm⟩))))
theorem dvX0 : ∀ (h : Hp) (a j : Nat), j < 3 → (∀ j, hI h a j = 0) → (∀ j, hR h a j = 0) → defaultValue (tyX0 j) = fv h 0 a j := by
  intro h a j hj h1 h2
  unfold fv
  rw [h1, h2]
  rcases (show j = 0 ∨ j = 1 ∨ j = 2 by omega) with rfl | rfl | rfl <;> rfl
theorem dvX1 : ∀ (h : Hp) (a j : Nat), j < 2 → (∀ j, hI h a j = 0) → (∀ j, hR h a j = 0) → defaultValue (tyX1 j) = fv h 1 a j := by
  intro h a j hj h1 h2
  unfold fv
  rw [h1, h2]
  rcases (show j = 0 ∨ j = 1 by omega) with rfl | rfl <;> rfl
theorem dvX2 : ∀ (h : Hp) (a j : Nat), j < 3 → (∀ j, hI h a j = 0) → (∀ j, hR h a j = 0) → defaultValue (tyX2 j) = fv h 2 a j := by
  intro h a j hj h1 h2
  unfold fv
  rw [h1, h2]
  rcases (show j = 0 ∨ j = 1 ∨ j = 2 by omega) with rfl | rfl | rfl <;> rfl
theorem dvX3 : ∀ (h : Hp) (a j : Nat), j < 13 → (∀ j, hI h a j = 0) → (∀ j, hR h a j = 0) → defaultValue (tyX3 j) = fv h 3 a j := by
  intro h a j hj h1 h2
  unfold fv
  rw [h1, h2]
  rcases (show j = 0 ∨ j = 1 ∨ j = 2 ∨ j = 3 ∨ j = 4 ∨ j = 5 ∨ j = 6 ∨ j = 7 ∨ j = 8 ∨ j = 9 ∨ j = 10 ∨ j = 11 ∨ j = 12 by omega) with rfl | rfl | rfl | rfl | rfl | rfl | rfl | rfl | rfl | rfl | rfl | rfl | rfl <;> rfl
theorem dvX4 : ∀ (h : Hp) (a j : Nat), j < 5 → (∀ j, hI h a j = 0) → (∀ j, hR h a j = 0) → defaultValue (tyX4 j) = fv h 4 a j := by
  intro h a j hj h1 h2
  unfold fv
  rw [h1, h2]
  rcases (show j = 0 ∨ j = 1 ∨ j = 2 ∨ j = 3 ∨ j = 4 by omega) with rfl | rfl | rfl | rfl | rfl <;> rfl
theorem dvX5 : ∀ (h : Hp) (a j : Nat), j < 6 → (∀ j, hI h a j = 0) → (∀ j, hR h a j = 0) → defaultValue (tyX5 j) = fv h 5 a j := by
  intro h a j hj h1 h2
  unfold fv
  rw [h1, h2]
  rcases (show j = 0 ∨ j = 1 ∨ j = 2 ∨ j = 3 ∨ j = 4 ∨ j = 5 by omega) with rfl | rfl | rfl | rfl | rfl | rfl <;> rfl
theorem dvX6 : ∀ (h : Hp) (a j : Nat), j < 5 → (∀ j, hI h a j = 0) → (∀ j, hR h a j = 0) → defaultValue (tyX6 j) = fv h 6 a j := by
  intro h a j hj h1 h2
  unfold fv
  rw [h1, h2]
  rcases (show j = 0 ∨ j = 1 ∨ j = 2 ∨ j = 3 ∨ j = 4 by omega) with rfl | rfl | rfl | rfl | rfl <;> rfl
theorem dvX7 : ∀ (h : Hp) (a j : Nat), j < 10 → (∀ j, hI h a j = 0) → (∀ j, hR h a j = 0) → defaultValue (tyX7 j) = fv h 7 a j := by
  intro h a j hj h1 h2
  unfold fv
  rw [h1, h2]
  rcases (show j = 0 ∨ j = 1 ∨ j = 2 ∨ j = 3 ∨ j = 4 ∨ j = 5 ∨ j = 6 ∨ j = 7 ∨ j = 8 ∨ j = 9 by omega) with rfl | rfl | rfl | rfl | rfl | rfl | rfl | rfl | rfl | rfl <;> rfl
theorem dvX8 : ∀ (h : Hp) (a j : Nat), j < 14 → (∀ j, hI h a j = 0) → (∀ j, hR h a j = 0) → defaultValue (tyX8 j) = fv h 8 a j := by
  intro h a j hj h1 h2
  unfold fv
  rw [h1, h2]
  rcases (show j = 0 ∨ j = 1 ∨ j = 2 ∨ j = 3 ∨ j = 4 ∨ j = 5 ∨ j = 6 ∨ j = 7 ∨ j = 8 ∨ j = 9 ∨ j = 10 ∨ j = 11 ∨ j = 12 ∨ j = 13 by omega) with rfl | rfl | rfl | rfl | rfl | rfl | rfl | rfl | rfl | rfl | rfl | rfl | rfl | rfl <;> rfl
theorem dvX9 : ∀ (h : Hp) (a j : Nat), j < 21 → (∀ j, hI h a j = 0) → (∀ j, hR h a j = 0) → defaultValue (tyX9 j) = fv h 9 a j := by
  intro h a j hj h1 h2
  unfold fv
  rw [h1, h2]
  rcases (show j = 0 ∨ j = 1 ∨ j = 2 ∨ j = 3 ∨ j = 4 ∨ j = 5 ∨ j = 6 ∨ j = 7 ∨ j = 8 ∨ j = 9 ∨ j = 10 ∨ j = 11 ∨ j = 12 ∨ j = 13 ∨ j = 14 ∨ j = 15 ∨ j = 16 ∨ j = 17 ∨ j = 18 ∨ j = 19 ∨ j = 20 by omega) with rfl | rfl | rfl | rfl | rfl | rfl | rfl | rfl | rfl | rfl | rfl | rfl | rfl | rfl | rfl | rfl | rfl | rfl | rfl | rfl | rfl <;> rfl
theorem dvA20 : ∀ (h : Hp) (a j : Nat), (∀ j, hI h a j = 0) → (∀ j, hL h a j = 0) → (∀ j, hD h a j = 0) → defaultValue (newarray.typeOf .int) = av h 20 a j := by
  intro h a j h1 h2 h3
  unfold av
  rw [h1, h2, h3]
  rfl
theorem dvA21 : ∀ (h : Hp) (a j : Nat), (∀ j, hI h a j = 0) → (∀ j, hL h a j = 0) → (∀ j, hD h a j = 0) → defaultValue (newarray.typeOf .boolean) = av h 21 a j := by
  intro h a j h1 h2 h3
  unfold av
  rw [h1, h2, h3]
  rfl
theorem dvA22 : ∀ (h : Hp) (a j : Nat), (∀ j, hI h a j = 0) → (∀ j, hL h a j = 0) → (∀ j, hD h a j = 0) → defaultValue (newarray.typeOf .char) = av h 22 a j := by
  intro h a j h1 h2 h3
  unfold av
  rw [h1, h2, h3]
  rfl
theorem dvA23 : ∀ (h : Hp) (a j : Nat), (∀ j, hI h a j = 0) → (∀ j, hL h a j = 0) → (∀ j, hD h a j = 0) → defaultValue (newarray.typeOf .long) = av h 23 a j := by
  intro h a j h1 h2 h3
  unfold av
  rw [h1, h2, h3]
  rfl
theorem dvA24 : ∀ (h : Hp) (a j : Nat), (∀ j, hI h a j = 0) → (∀ j, hL h a j = 0) → (∀ j, hD h a j = 0) → defaultValue (newarray.typeOf .double) = av h 24 a j := by
  intro h a j h1 h2 h3
  unfold av
  rw [h1, h2, h3]
  rfl
def RL : String := "SparePlannerLaw"
abbrev cL_law : ByteArray := code
end WORDS

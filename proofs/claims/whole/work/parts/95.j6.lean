section J6
/-- only the rows before and scratch differ -/
def Mf (m : Nat) (h h' : Hp) : Prop := hn h' = hn h ∧ hs h' = hs h ∧ hR h' = hR h ∧ h'.2.2.2.2 = h.2.2.2.2 ∧ ∀ a, a ≠ m + 3 → a ≠ m + 13 → hI h' a = hI h a
theorem Mf.rf {m : Nat} {h : Hp} : Mf m h h := ⟨rfl, rfl, rfl, rfl, fun _ _ _ => rfl⟩
theorem Mf.trans {m : Nat} {a b c : Hp} (h1 : Mf m a b) (h2 : Mf m b c) : Mf m a c := ⟨h2.1.trans h1.1, h2.2.1.trans h1.2.1, h2.2.2.1.trans h1.2.2.1, h2.2.2.2.1.trans h1.2.2.2.1, fun x y z => (h2.2.2.2.2 x y z).trans (h1.2.2.2.2 x y z)⟩
theorem Mf.row {m b : Nat} {h : Hp} {f : Nat → Int32} (hb : b = m + 3 ∨ b = m + 13) : Mf m h (sRow h b f) := ⟨rfl, rfl, rfl, rfl, fun a h1 h2 => hI_sRow_ne (by omega)⟩
theorem MdS.mf {h h' : Hp} {m : Nat} (hM : MdS h m) (f : Mf m h h') : MdS h' m := hM.of f.2.1 f.2.2.1
theorem MdL.mf {h h' : Hp} {m : Nat} (hM : MdL h m) (f : Mf m h h') : MdL h' m := hM.of f.2.1 f.2.2.1
theorem cpr_cpr {f x y : Nat → Int32} : cpr (cpr f x) y = cpr f y := funext fun j => by
  unfold cpr
  by_cases z : j < 359
  · rw [if_pos z, if_pos z, if_pos z]
  · rw [if_neg z, if_neg z]
theorem cpr_eq {f f' y : Nat → Int32} (e : ∀ j, j < 359 → f' j = f j) : cpr f' y = cpr f y := funext fun j => by
  unfold cpr
  by_cases z : j < 359
  · rw [if_pos z, if_pos z, e j z]
  · rw [if_neg z, if_neg z]
theorem hshift_mf {h h' : Hp} {m : Nat} (f : Mf m h h') : ∀ n, n ≤ 7 → Mf m (hshift h m n) (hshift h' m n)
  | 0, _ => f
  | n + 1, hn9 => by
    have ih := hshift_mf f n (by omega)
    obtain ⟨e1, e2, e3, e4, e5⟩ := ih
    have d : ∀ h : Hp, hshift h m (n + 1) = sRow (hshift h m n) (m + 5 + n) (cpr (hI (hshift h m n) (m + 5 + (n + 1))) (hI (hshift h m n) (m + 5 + n))) := fun h => rfl
    rw [d, d]
    refine ⟨e1, e2, e3, e4, fun a h1 h2 => ?_⟩
    by_cases z : a = m + 5 + n
    · subst z
      rw [hI_sRow, hI_sRow, e5 _ (by omega) (by omega), e5 _ (by omega) (by omega)]
    · rw [hI_sRow_ne z, hI_sRow_ne z, e5 a h1 h2]
theorem hpush_mf {h h' : Hp} {m r : Nat} {R R' : Nat → Int32} (f : Mf m h h') (e : ∀ j, j < 359 → R' j = R j) (r8 : r ≤ 8) : Mf m (hpush h m r R) (hpush h' m r R') := by
  unfold hpush
  by_cases z : r < 8
  · rw [if_pos z, if_pos z]
    obtain ⟨e1, e2, e3, e4, e5⟩ := f
    refine ⟨e1, e2, e3, e4, fun a h1 h2 => ?_⟩
    by_cases y : a = m + 5 + r
    · subst y
      rw [hI_sRow, hI_sRow, e5 _ (by omega) (by omega), cpr_eq e]
    · rw [hI_sRow_ne y, hI_sRow_ne y, e5 a h1 h2]
  · rw [if_neg z, if_neg z]
    obtain ⟨e1, e2, e3, e4, e5⟩ := hshift_mf f 7 (by decide)
    refine ⟨e1, e2, e3, e4, fun a h1 h2 => ?_⟩
    by_cases y : a = m + 12
    · subst y
      rw [hI_sRow, hI_sRow, e5 _ (by omega) (by omega), cpr_eq e]
    · rw [hI_sRow_ne y, hI_sRow_ne y, e5 a h1 h2]
theorem cpr_lt {f g : Nat → Int32} {j : Nat} (hj : j < 359) : cpr f g j = f j := if_pos hj
end J6

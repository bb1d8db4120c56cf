section T4
theorem v1R {a : Int32} {p : Nat} (e : a = nI p) (h1 : 1 ≤ p) (h2 : p ≤ 30) (_ : True) : 1 ≤ a ∧ a ≤ 30 := by
  subst e
  exact ⟨nI_le (a := 1) h1 (by omega), nI_le (b := 30) h2 (by decide)⟩
theorem m1n {i : Nat} (h : i ≤ 1000) : ¬ ((-1 : Int32) = nI i) := fun z => by
  have := nI_pos' (n := i) (by omega)
  rw [← z] at this
  exact absurd this (by decide)
theorem rs_no {F : Nat → Int32} {O : Int32} {k : Nat} (e1 : O = nI k) (_ : k < 3) (e3 : F 7 ≠ 0) (e4 : k = 0 ∨ F 7 = 3) : ¬ (F 7 = 0 ∨ (O ≠ 0 ∧ F 7 ≠ 3)) := fun h => by
  rcases h with h | ⟨h1, h2⟩
  · exact e3 h
  · rcases e4 with z | z
    · subst z; exact h1 (e1.trans rfl)
    · exact h2 z
theorem fneg {x : Int32} (f : x = -1 ∨ 0 ≤ x) (z : x < 0) : x = -1 := f.resolve_right (fun y => absurd z (Int32.not_lt.mpr y))
theorem fpos {x : Int32} (y : 0 ≤ x) : ¬ x = -1 := fun z => by rw [z] at y; exact absurd y (by decide)
theorem addp_di {N : Nat → Int32} {c0 c1 c2 c3 c4 : Nat} {D : Int} {s ol rl y : Int32} (hN : WFc N c0 c1 c2 c3 c4) (d : DI N c0 D) (e1 : (0 ≤ s ∧ s ≤ 999) ∧ (1 ≤ ol ∧ ol ≤ 9) ∧ (1 ≤ rl ∧ rl ≤ 9) ∧ 0 ≤ y ∧ y ≤ 100) (e2 : c0 < 8) : DIr (r_addp N c0 s ol rl y) D := by
  refine DIr.of (c0 := c0 + 1) (by unfold r_addp; rw [if_pos rfl]) (by omega) ⟨by rw [addp_o (by decide) (by omega)]; exact d.1, fun p hp => ?_, d.2.2⟩
  by_cases z : p = c0
  · subst z
    rw [addp_k 5 (by decide), if_neg (by decide), if_neg (by decide), if_pos rfl]
    exact ⟨Int32.le_iff_toInt_le.mp e1.2.2.1.1, Int32.le_iff_toInt_le.mp e1.2.2.1.2⟩
  · rw [addp_o (by omega) (by omega)]
    exact d.2.1 p (by omega)
theorem fw_di {N : Nat → Int32} {D : Int} {i c : Nat} (d : DIr N D) : DIr (r_fw N i c) D := d.z (by unfold r_fw; rw [if_neg (by omega), if_neg (by decide)]) (fun j hj => by unfold dyz at hj; unfold r_fw; rw [if_neg (by omega), if_neg (by omega)])
theorem rems_di {N : Nat → Int32} {D : Int} {p i c : Nat} (c4 : c ≤ 4) (d : DIr N D) : DIr (r_rems N p i c) D := d.z (rems_o (by omega) (by omega)) (fun j hj => by unfold dyz at hj; exact rems_o (by omega) (by omega))
theorem kit_di2 {N : Nat → Int32} {D : Int} {k c : Nat} {P v : Int32} (d : DIr N D) : DIr (r_addi N k c P v) D := d.z (addi_o (by omega) (by omega) (by omega)) (fun j hj => by unfold dyz at hj; exact addi_o (by omega) (by omega) (by omega))
theorem kit_di1 {N : Nat → Int32} {D : Int} {k : Nat} {P v : Int32} (d : DIr N D) : DIr (r_addi (r_newk N k) k 0 P v) D := kit_di2 (d.z (newk_o (by omega) (by decide)) (fun j hj => by unfold dyz at hj; exact newk_o (by omega) (by omega)))
theorem days_di {N : Nat → Int32} {c0 c1 c2 c3 c4 : Nat} {B D : Int} (g : GI N c0 c1 c2 c3 c4 B) (d : DI N c0 D) {k : Nat} (hk : k ≤ 30) (hD : D + 180 ≤ 1000000) : DIr (r_days k N).1 (D + 180) := by
  obtain ⟨x2, x3, x4, w⟩ := r_days_wf g.wf k
  exact DIr.of w.1.1 w.1.2 ((DI.days g.1 d k (by omega)).le (by omega) hD)
theorem kit_x1 {G : Prop} {N : Nat → Int32} {K P : Int32} {c1 : Nat} (h : (K = nI c1 ∧ c1 = 4) ∨ ∃ k c, K = nI k ∧ k < c1 ∧ N (191 + k * 9) = nI c ∧ c ≤ 4 ∧ (c = 4 ∨ s_has N k P c = true)) (e3 : K = nI c1) (e4 : c1 < 4) : G := by
  rcases h with ⟨-, h⟩ | ⟨k, c, h1, h2, -⟩
  · omega
  · have := nJ h1 e3 (by omega) (by omega)
    omega
theorem kit_x2 {G : Prop} {N : Nat → Int32} {K P : Int32} {c1 k c : Nat} (k4 : c1 ≤ 4) (h : (K = nI c1 ∧ c1 = 4) ∨ ∃ k c, K = nI k ∧ k < c1 ∧ N (191 + k * 9) = nI c ∧ c ≤ 4 ∧ (c = 4 ∨ s_has N k P c = true)) (e3 : K = nI k) (e4 : k < c1) (e6 : N (191 + k * 9) = nI c) (e7 : c < 4) (e8 : s_has N k P c = false) : G := by
  rcases h with ⟨h1, -⟩ | ⟨k', c', h1, h2, h3, h4, h5⟩
  · have := nJ h1 e3 (by omega) (by omega)
    omega
  · obtain rfl := nJ h1 e3 (by omega) (by omega)
    obtain rfl := nJ h3 e6 (by omega) (by omega)
    rcases h5 with h5 | h5
    · omega
    · rw [e8] at h5; cases h5
theorem req_di {N : Nat → Int32} {c0 c1 c2 c3 c4 p : Nat} {v : Int32} {D : Int} (hN : WFc N c0 c1 c2 c3 c4) (d : DI N c0 D) (hp : p < c0) (hf : c2 < 12 ∨ (r_serve N p v).1 ≤ 0) : DIr (r_req N p v c2) D := by
  obtain ⟨c2', w⟩ := hN.req hp hf
  exact DIr.of w.1.1 w.1.2 (d.z hN.1.2 (fun j hj => req_z hN hp hj))
theorem bkG_di {N : Nat → Int32} {c0 c1 c2 c3 c4 p : Nat} {v : Int32} {B D : Int} (g : GI N c0 c1 c2 c3 c4 B) (d : DI N c0 D) (hp : p < c0) (hv : 1 ≤ v ∧ v ≤ 999) (hB : B + 999 ≤ 16000000) : DIr (r_swA (r_bkG N p v)).1 D := by
  have h1 := Int32.le_iff_toInt_le.mp hv.1
  have h2 := Int32.le_iff_toInt_le.mp hv.2
  obtain ⟨n2, cc, e1, g2⟩ := g.bkG hp (v := v) ⟨Int.le_trans (by decide) h1, h2⟩ hB
  exact DIr.of g2.wf.1.1 g2.wf.1.2 (d.z g.wf.1.2 (fun j hj => bkG_z n2 hj))
end T4

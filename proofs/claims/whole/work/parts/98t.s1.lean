section S1
theorem serve_z {N : Nat → Int32} {c0 c1 c2 c3 c4 p : Nat} {v : Int32} (hN : WFc N c0 c1 c2 c3 c4) (hp : p < c0) {j : Nat} (hj : dyz j) : (r_serve N p v).2 j = N j := r_serve_x hN hp (fun q hq => by unfold dyz at hj; omega)
theorem take_z {c0 c1 c2 c3 c4 k c : Nat} {B : Int} (hk : k < c1) (c4' : c ≤ 4) {j : Nat} (hj : dyz j) : ∀ (n i : Nat) (N : Nat → Int32) (o : Int32), i + n = c → N (191 + k * 9) = nI c → GI N c0 c1 c2 c3 c4 B → (g_take k n i N o).1 j = N j
  | 0, i, N, o, _, _, _ => rfl
  | n + 1, i, N, o, hi, hc, g => by
    have hic : i < c := by omega
    have k8 := g.wf.1.2
    obtain ⟨c', c4'', hc', hit⟩ := g.wf.2.2.2.2.2.2.1 k hk
    have : c' = c := (nI_eq (by omega) (by omega)).mp (hc'.symm.trans hc)
    subst this
    obtain ⟨s, s1, s2⟩ := hit i hic
    have qk := g.kq k c' i hk hc c4' hic
    rw [g_take_s k n i N o s2 (by omega)]
    by_cases ha : s_av N s (N (7 + s * 23 + 8)).toNatClampNeg < N (191 + k * 9 + 1 + 2 * i + 1)
    · rw [if_pos ha]
    · rw [if_neg ha, take_z hk c4' hj n (i + 1) _ _ (by omega) (by rw [r_serve_o g.wf s1 (by omega)]; exact hc) (g.serve s1 (by omega)), serve_z g.wf s1 hj]
theorem kt_z {N : Nat → Int32} {c0 c1 c2 c3 c4 k : Nat} {B : Int} (hk : k < c1) (g : GI N c0 c1 c2 c3 c4 B) {j : Nat} (hj : dyz j) : (kt N k).1 j = N j := by
  obtain ⟨c, c4', hc, hit⟩ := g.wf.2.2.2.2.2.2.1 k hk
  rw [kt_eq hc c4']
  exact take_z hk c4' hj c 0 N 0 (by omega) hc g
theorem DI.z {N N' : Nat → Int32} {c0 : Nat} {D : Int} (d : DI N c0 D) (c8 : c0 ≤ 8) (e : ∀ j, dyz j → N' j = N j) : DI N' c0 D := d.of (e 5 (Or.inl rfl)) (fun p hp => e _ (by unfold dyz; omega))
theorem send_z {N : Nat → Int32} {p c : Nat} {v : Int32} {j : Nat} (hj : dyz j) : r_send N p v c j = N j := by
  have h9 : ∀ t, (t = 3 ∨ t = 7 + p * 23 + 1 ∨ t = 7 + p * 23 + 17 ∨ 287 ≤ t) → j ≠ t := fun t ht => by unfold dyz at hj; omega
  unfold r_send r_start r_st3
  rw [pk_un (h9 _ (by omega)), pk_un (h9 _ (by omega)), pk_un (h9 _ (by omega)), pk_un (h9 _ (by omega)), pk_un (h9 _ (by omega)), pk_un (h9 _ (by omega))]
theorem bkB_z {N : Nat → Int32} {p : Nat} {v : Int32} {j : Nat} (hj : dyz j) : r_bkB N p v j = N j := bkB_o ⟨fun z => by unfold dyz at hj; omega, fun z => by unfold dyz at hj; omega⟩
theorem bkG_z {N : Nat → Int32} {c0 c1 c2 c3 c4 p : Nat} {v : Int32} {B : Int} (n : NI (r_bkG N p v) c0 c1 c2 c3 c4 B) {j : Nat} (hj : dyz j) : (r_swA (r_bkG N p v)).1 j = N j := (swA_x n hj.sw).trans (bkG_o ⟨fun z => by unfold dyz at hj; omega, fun z => by unfold dyz at hj; omega⟩)
theorem req_z {N : Nat → Int32} {c0 c1 c2 c3 c4 p : Nat} {v : Int32} (hN : WFc N c0 c1 c2 c3 c4) (hp : p < c0) {j : Nat} (hj : dyz j) : r_req N p v c2 j = N j := by
  have h9 : ∀ t, (t = 2 ∨ t = 6 ∨ t = 7 + p * 23 + 21 ∨ t = 7 + p * 23 + 22 ∨ 227 ≤ t) → j ≠ t := fun t ht => by unfold dyz at hj; omega
  have e1 : r_req1 N p v j = N j := by
    unfold r_req1
    rw [pk_un (h9 _ (by omega)), pk_un (h9 _ (by omega))]
    exact serve_z hN hp hj
  unfold r_req
  rw [pk_un (h9 _ (by omega))]
  split
  · exact e1
  · unfold r_wait
    rw [pk_un (h9 _ (by omega)), pk_un (h9 _ (by omega)), pk_un (h9 _ (by omega)), pk_un (h9 _ (by omega)), pk_un (h9 _ (by omega)), pk_un (h9 _ (by omega))]
    exact e1
end S1

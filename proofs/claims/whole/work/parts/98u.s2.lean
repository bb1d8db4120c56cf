section S2
theorem WFc.req {N : Nat → Int32} {c0 c1 c2 c3 c4 p : Nat} {v : Int32} (hN : WFc N c0 c1 c2 c3 c4) (hp : p < c0) (hfull : c2 < 12 ∨ (r_serve N p v).1 ≤ 0) : ∃ c2', WFc (r_req N p v c2) c0 c1 c2' c3 c4 := by
  have k0 := hN.1.2
  have k1 := hN.2.1.2
  have k3 := hN.2.2.2.1.2
  have wf1 : WFc (r_req1 N p v) c0 c1 c2 c3 c4 := hN.agree (fun j hj => r_req1_s (by omega) (hN.sub hp) hj)
  generalize hN3 : r_req1 N p v = N3 at wf1
  have six : ∀ (M : Nat → Int32) (c : Nat) (x : Int32), WFc M c0 c1 c c3 c4 → WFc (upd M 6 x) c0 c1 c c3 c4 := fun M c x w => w.agree (fun j hj => pk_un (by unfold stru at hj; omega))
  unfold r_req
  rw [hN3]
  dsimp only
  by_cases hz : (r_serve N p v).1 ≤ 0
  · rw [if_pos hz]
    exact ⟨c2, six _ _ _ wf1⟩
  · rw [if_neg hz]
    have h12 : c2 < 12 := hfull.resolve_right hz
    have wf9 : WFc (upd (r_wait N3 c2 (nI p) v (r_serve N p v).1) 2 (nI c2 + 1)) c0 c1 (c2 + 1) c3 c4 := by
      have w0 := wf1
      have lo : ∀ j, j ≠ 2 → (j < 227 + c2 * 5 ∨ 227 + c2 * 5 + 5 ≤ j) → upd (r_wait N3 c2 (nI p) v (r_serve N p v).1) 2 (nI c2 + 1) j = N3 j := fun j h1 h2 => by
        rw [pk_un h1, r_wait_o h2]
      obtain ⟨⟨b0, _⟩, ⟨b1, _⟩, ⟨b2, _⟩, ⟨b3, _⟩, ⟨b4, x4⟩, hp', hk', hw', hr', ho'⟩ := w0
      refine ⟨⟨by rw [lo 0 (by decide) (by omega)]; exact b0, k0⟩, ⟨by rw [lo 1 (by decide) (by omega)]; exact b1, k1⟩, ⟨by rw [pk_us]; exact nI_1 c2, h12⟩, ⟨by rw [lo 3 (by decide) (by omega)]; exact b3, k3⟩, ⟨by rw [lo 4 (by decide) (by omega)]; exact b4, x4⟩, fun r hr => ?_, fun r hr => ?_, fun i hi => ?_, fun i hi => ?_, fun i hi => ?_⟩
      · obtain ⟨c, y1, y2, y3⟩ := hp' r hr
        refine ⟨c, y1, by rw [lo _ (by omega) (by omega)]; exact y2, fun k hk => ?_⟩
        obtain ⟨s, z1, z2⟩ := y3 k hk
        exact ⟨s, z1, by rw [lo _ (by omega) (by omega)]; exact z2⟩
      · obtain ⟨c, y1, y2, y3⟩ := hk' r hr
        refine ⟨c, y1, by rw [lo _ (by omega) (by omega)]; exact y2, fun k hk => ?_⟩
        obtain ⟨s, z1, z2⟩ := y3 k hk
        exact ⟨s, z1, by rw [lo _ (by omega) (by omega)]; exact z2⟩
      · by_cases z : i = c2
        · subst z
          refine ⟨p, hp, ?_⟩
          rw [pk_un (by omega)]
          unfold r_wait
          rw [pk_un (by omega), pk_un (by omega), pk_un (by omega), pk_us]
        · obtain ⟨s, z1, z2⟩ := hw' i (by omega)
          exact ⟨s, z1, by rw [lo _ (by omega) (by omega)]; exact z2⟩
      · obtain ⟨s, z1, z2⟩ := hr' i hi
        exact ⟨s, z1, by rw [lo _ (by omega) (by omega)]; exact z2⟩
      · obtain ⟨s, z1, z2⟩ := ho' i hi
        exact ⟨s, z1, by rw [lo _ (by omega) (by omega)]; exact z2⟩
    exact ⟨c2 + 1, six _ _ _ wf9⟩
/-- what an entry makes of the world is in its ranges -/
theorem en_ok {M M' : Nat → Int32} {c0 c1 c2 c3 c4 : Nat} {B D : Int} {e : Ent} (g : GI M c0 c1 c2 c3 c4 B) (d : DI M c0 D) (he : EnOk e) (h : en M e = some M') (hB : B + 999 ≤ 16000000) (hD : D + 9 ≤ 1000000) : (∃ c2' c3' c4', GI M' c0 c1 c2' c3' c4' (B + 999)) ∧ DI M' c0 (D + 9) := by
  obtain ⟨k, a, b⟩ := e
  obtain ⟨hk, ha9, hb9, ha7⟩ := he
  have ha9' : a ≤ 9 := ha9
  have hb9' : b ≤ 999 := hb9
  have hN := g.wf
  have k8 := hN.1.2
  have k4 := hN.2.1.2
  have bi : (nI b).toInt = b := nI_toInt (by omega)
  have m2 : (M 2).toNatClampNeg = c2 := by rw [hN.2.2.1.1]; exact nI_clamp (by have := hN.2.2.1.2; omega)
  have m3 : (M 3).toNatClampNeg = c3 := by rw [hN.2.2.2.1.1]; exact nI_clamp (by have := hN.2.2.2.1.2; omega)
  have hm0 : nI a < M 0 ↔ a < c0 := by rw [hN.1.1]; exact nI_ltI (by omega) (by omega)
  have hm1 : nI a < M 1 ↔ a < c1 := by rw [hN.2.1.1]; exact nI_ltI (by omega) (by omega)
  unfold en at h
  dsimp only [Ent.k, Ent.a, Ent.b] at h
  by_cases z1 : k = 100
  · rw [if_pos z1] at h
    cases h
    obtain ⟨x, y, w, hw⟩ := r_days_wf hN a
    exact ⟨⟨x, y, w, (g.days a hw).le (by omega) hB⟩, (DI.days g.ni d a (by omega)).le (by omega) hD⟩
  rw [if_neg z1] at h
  by_cases z2 : k = 107
  · rw [if_pos z2] at h
    by_cases hv : nI a < M 1
    · rw [if_pos hv] at h
      have hv' := hm1.mp hv
      by_cases hb : (kt M a).2.1 = true
      · rw [if_pos hb] at h
        cases h
        exact ⟨⟨c2, c3, c4, ((kt_ok hv' g).1 hb).le (by omega) hB⟩, (d.z k8 (fun j hj => kt_z hv' g hj)).le (by omega) hD⟩
      · rw [if_neg hb] at h; cases h
    · rw [if_neg hv] at h; cases h
  rw [if_neg z2] at h
  have hl : isL k ∧ 1 ≤ b := by
    rcases hk with hk | hk | hk
    · exact absurd hk z2
    · exact absurd hk z1
    · exact hk
  have b1 := hl.2
  by_cases hv : nI a < M 0
  rotate_left
  · rw [if_neg hv] at h; cases h
  rw [if_pos hv] at h
  have hv' := hm0.mp hv
  by_cases z3 : k = 114
  · rw [if_pos z3] at h
    by_cases hb : rqB M a (nI b)
    · rw [if_pos hb] at h; cases h
    · rw [if_neg hb, m2] at h
      cases h
      have hfull := av_full g hv' (v := nI b) (by omega) (show ¬ s_reqBad M a (nI b) from hb)
      obtain ⟨x, hw⟩ := hN.req hv' hfull
      exact ⟨⟨x, c3, c4, g.req hv' (by omega) hfull hB hw⟩, (d.z k8 (fun j hj => req_z hN hv' hj)).le (by omega) hD⟩
  rw [if_neg z3] at h
  by_cases z4 : k = 115
  · rw [if_pos z4] at h
    by_cases hb : M (7 + a * 23 + 1) < nI b
    · rw [if_pos hb] at h; cases h
    · rw [if_neg hb] at h
      by_cases h3 : M 3 < 12
      · rw [if_pos h3, m3] at h
        cases h
        have h3' : c3 < 12 := by rw [hN.2.2.2.1.1] at h3; exact (nI_ltI (a := c3) (b := 12) (by have := hN.2.2.2.1.2; omega) (by decide)).mp h3
        exact ⟨⟨c2, c3 + 1, c4, g.send hv' h3' (by omega) hB⟩, (d.z k8 (fun j hj => send_z hj)).le (by omega) hD⟩
      · rw [if_neg h3] at h; cases h
  rw [if_neg z4] at h
  by_cases z5 : k = 103
  · rw [if_pos z5] at h
    cases h
    obtain ⟨n2, cc, e1, g2⟩ := g.bkG hv' (v := nI b) (by omega) hB
    exact ⟨⟨cc, c3, c4, g2⟩, (d.z k8 (fun j hj => bkG_z n2 hj)).le (by omega) hD⟩
  · rw [if_neg z5] at h
    cases h
    exact ⟨⟨c2, c3, c4, (g.bkB hv').le (by omega) hB⟩, (d.z k8 (fun j hj => bkB_z hj)).le (by omega) hD⟩
end S2

section F3
theorem WFc.uniq {N : Nat → Int32} {c0 c1 c2 c3 c4 d0 d1 d2 d3 d4 : Nat} (h : WFc N c0 c1 c2 c3 c4) (h' : WFc N d0 d1 d2 d3 d4) : d0 = c0 ∧ d1 = c1 ∧ d2 = c2 ∧ d3 = c3 ∧ d4 = c4 := by
  have a0 := h.1; have a1 := h.2.1; have a2 := h.2.2.1; have a3 := h.2.2.2.1; have a4 := h.2.2.2.2.1
  have b0 := h'.1; have b1 := h'.2.1; have b2 := h'.2.2.1; have b3 := h'.2.2.2.1; have b4 := h'.2.2.2.2.1
  exact ⟨(nI_eq (by omega) (by omega)).mp (b0.1.symm.trans a0.1), (nI_eq (by omega) (by omega)).mp (b1.1.symm.trans a1.1), (nI_eq (by omega) (by omega)).mp (b2.1.symm.trans a2.1), (nI_eq (by omega) (by omega)).mp (b3.1.symm.trans a3.1), (nI_eq (by omega) (by omega)).mp (b4.1.symm.trans a4.1)⟩
/-- the quantities that NI speaks of -/
def nux (j : Nat) : Prop := (7 ≤ j ∧ j < 191 ∧ ((j - 7) % 23 = 0 ∨ (j - 7) % 23 = 2 ∨ (j - 7) % 23 = 3 ∨ (j - 7) % 23 = 6 ∨ (j - 7) % 23 = 7)) ∨ (227 ≤ j ∧ j < 287 ∧ (j - 227) % 5 = 3) ∨ (287 ≤ j ∧ (j - 287) % 3 ≤ 1)
theorem sI_agree {N N' : Nat → Int32} {b p c : Nat} (e : ∀ i k, i < c → k < 2 → N' (b + i * 3 + k) = N (b + i * 3 + k)) : ∀ n, n ≤ c → sI N' b p n = sI N b p n
  | 0, _ => rfl
  | n + 1, hn => by
    show sI N' b p n + _ = sI N b p n + _
    rw [sI_agree e n (by omega), e n 0 (by omega) (by decide), e n 1 (by omega) (by decide)]
theorem NI.mk' {N N' : Nat → Int32} {c0 c1 c2 c3 c4 c1' : Nat} {B : Int} (h : NI N c0 c1 c2 c3 c4 B) (wf : WFc N' c0 c1' c2 c3 c4) (e : ∀ j, j < 359 → nux j → N' j = N j) : NI N' c0 c1' c2 c3 c4 B := by
  have k0 := h.wf.1.2
  have k2 := h.wf.2.2.1.2
  have k3 := h.wf.2.2.2.1.2
  have k4 := h.wf.2.2.2.2.1.2
  have ep : ∀ p k, p < c0 → k < 23 → (k = 0 ∨ k = 2 ∨ k = 3 ∨ k = 6 ∨ k = 7) → N' (7 + p * 23 + k) = N (7 + p * 23 + k) := fun p k hp hk hh => e _ (by omega) (Or.inl ⟨by omega, by omega, by
    rw [show (7 + p * 23 + k - 7) % 23 = k by omega]; exact hh⟩)
  have e3 : ∀ i k, i < c3 → k < 2 → N' (287 + i * 3 + k) = N (287 + i * 3 + k) := fun i k hi hk => e _ (by omega) (Or.inr (Or.inr (by omega)))
  have e4 : ∀ i k, i < c4 → k < 2 → N' (323 + i * 3 + k) = N (323 + i * 3 + k) := fun i k hi hk => e _ (by omega) (Or.inr (Or.inr (by omega)))
  refine ⟨wf, fun p hp => ?_, fun i hi => ?_, fun p hp => ?_, fun p hp => ?_, fun i hi => ?_, fun i hi => ?_, fun p hp => ?_, h.bb⟩
  · rw [ep p 0 hp (by decide) (by decide)]; exact h.sk p hp
  · rw [e _ (by omega) (Or.inr (Or.inl (by omega)))]; exact h.mq i hi
  · have := h.pt p hp
    unfold Pt at *
    rw [ep p 6 hp (by decide) (by decide), ep p 2 hp (by decide) (by decide), ep p 3 hp (by decide) (by decide)]
    exact this
  · rw [ep p 7 hp (by decide) (by decide)]; exact h.hu p hp
  · rw [e3 i 1 hi (by decide)]; exact h.rq i hi
  · rw [e4 i 1 hi (by decide)]; exact h.oq i hi
  · rw [ep p 0 hp (by decide) (by decide), sI_agree e3 c3 (Nat.le_refl _), sI_agree e4 c4 (Nat.le_refl _)]
    exact h.zz p hp
theorem GI.pset {N N' : Nat → Int32} {c0 c1 c2 c3 c4 p : Nat} {B : Int} (h : GI N c0 c1 c2 c3 c4 B) (hp : p < c0) (e : ∀ j, j ≠ 7 + p * 23 + 2 → j ≠ 7 + p * 23 + 3 → j ≠ 7 + p * 23 + 6 → N' j = N j) (hpt : Pt N' p) : GI N' c0 c1 c2 c3 c4 B := by
  have k0 := h.wf.1.2
  have n := h.ni
  have eh : ∀ j, 191 ≤ j → N' j = N j := fun j hj => e j (by omega) (by omega) (by omega)
  have eq : ∀ q k, q < c0 → k < 23 → (q ≠ p ∨ (k ≠ 2 ∧ k ≠ 3 ∧ k ≠ 6)) → N' (7 + q * 23 + k) = N (7 + q * 23 + k) := fun q k hq hk h1 => e _ (by omega) (by omega) (by omega)
  refine ⟨⟨n.wf.agree (fun j hj => e j (by unfold stru at hj; omega) (by unfold stru at hj; omega) (by unfold stru at hj; omega)), fun q hq => ?_, fun i hi => ?_, fun q hq => ?_, fun q hq => ?_, fun i hi => ?_, fun i hi => ?_, fun q hq => ?_, n.bb⟩, fun q c hq hc c4' => ?_, fun k c i hk hc c4' hi => ?_, fun q hq => ?_, h.b16⟩
  · rw [eq q 0 hq (by decide) (by omega)]; exact n.sk q hq
  · rw [eh _ (by omega)]; exact n.mq i hi
  · by_cases z : q = p
    · subst z; exact hpt
    · have := n.pt q hq
      unfold Pt at *
      rw [eq q 6 hq (by decide) (by omega), eq q 2 hq (by decide) (by omega), eq q 3 hq (by decide) (by omega)]
      exact this
  · rw [eq q 7 hq (by decide) (by omega)]; exact n.hu q hq
  · rw [eh _ (by omega)]; exact n.rq i hi
  · rw [eh _ (by omega)]; exact n.oq i hi
  · rw [eq q 0 hq (by decide) (by omega), sI_eq c3 (fun j h1 h2 => eh j (by omega)), sI_eq c4 (fun j h1 h2 => eh j (by omega))]
    exact n.zz q hq
  · rw [eq q 8 hq (by decide) (by omega)] at hc
    obtain ⟨d1, d2⟩ := h.dst q c hq hc c4'
    refine ⟨fun i hi => ?_, fun i j hij hj => ?_⟩
    · rw [eq q (9 + i) hq (by omega) (by omega)]; exact d1 i hi
    · rw [eq q (9 + i) hq (by omega) (by omega), eq q (9 + j) hq (by omega) (by omega)]; exact d2 i j hij hj
  · rw [eh _ (by omega)] at hc
    rw [eh _ (by omega)]
    exact h.kq k c i hk hc c4' hi
  · rw [eq q 22 hq (by decide) (by omega), eq q 21 hq (by decide) (by omega)]
    exact h.rs q hq
/-- what is not a substitute stays -/
theorem GI.sub' {N N' : Nat → Int32} {c0 c1 c2 c3 c4 p : Nat} {B : Int} (h : GI N c0 c1 c2 c3 c4 B) (hp : p < c0) (wf : WFc N' c0 c1 c2 c3 c4) (e : ∀ j, (j < 7 + p * 23 + 8 ∨ 7 + p * 23 + 13 ≤ j) → N' j = N j) (hd : ∀ c, N' (7 + p * 23 + 8) = nI c → c ≤ 4 → (∀ i, i < c → N' (7 + p * 23 + (9 + i)) ≠ nI p) ∧ ∀ i j, i < j → j < c → N' (7 + p * 23 + (9 + i)) ≠ N' (7 + p * 23 + (9 + j))) : GI N' c0 c1 c2 c3 c4 B := by
  have k0 := h.wf.1.2
  refine ⟨h.ni.mk' wf (fun j hj hn => e j (by unfold nux at hn; omega)), fun q c hq hc c4' => ?_, fun k c i hk hc c4' hi => ?_, fun q hq => ?_, h.b16⟩
  · by_cases z : q = p
    · subst z; exact hd c hc c4'
    · rw [e _ (by omega)] at hc
      obtain ⟨d1, d2⟩ := h.dst q c hq hc c4'
      refine ⟨fun i hi => ?_, fun i j hij hj => ?_⟩
      · rw [e _ (by omega)]; exact d1 i hi
      · rw [e (7 + q * 23 + (9 + i)) (by omega), e (7 + q * 23 + (9 + j)) (by omega)]; exact d2 i j hij hj
  · rw [e _ (by omega)] at hc
    rw [e _ (by omega)]
    exact h.kq k c i hk hc c4' hi
  · rw [e _ (by omega), e _ (by omega)]
    exact h.rs q hq
theorem GI.adds {N : Nat → Int32} {c0 c1 c2 c3 c4 p c s : Nat} {B : Int} (h : GI N c0 c1 c2 c3 c4 B) (hp : p < c0) (hc : N (7 + p * 23 + 8) = nI c) (c4' : c < 4) (hs : s < c0) (ne : s ≠ p) (hno : ∀ i, i < c → N (7 + p * 23 + (9 + i)) ≠ nI s) : GI (r_adds N p c (nI s)) c0 c1 c2 c3 c4 B := by
  have k0 := h.wf.1.2
  obtain ⟨d1, d2⟩ := h.dst p c hp hc (by omega)
  have lo : ∀ i, i < c → r_adds N p c (nI s) (7 + p * 23 + (9 + i)) = N (7 + p * 23 + (9 + i)) := fun i hi => by
    unfold r_adds
    rw [pk_un (by omega), pk_un (by omega)]
  have la : r_adds N p c (nI s) (7 + p * 23 + (9 + c)) = nI s := by
    unfold r_adds
    rw [pk_un (by omega), pk_us]
  refine h.sub' hp (h.wf.adds hp hc c4' hs) (fun j hj => by unfold r_adds; rw [pk_un (by omega), pk_un (by omega)]) (fun c' hc' c4'' => ?_)
  have ec : c' = c + 1 := (nI_eq (by omega) (by omega)).mp (hc'.symm.trans (by unfold r_adds; rw [pk_us]; exact nI_1 c))
  subst ec
  refine ⟨fun i hi => ?_, fun i j hij hj => ?_⟩
  · by_cases z : i = c
    · subst z; rw [la]; exact fun y => ne ((nI_eq (by omega) (by omega)).mp y)
    · rw [lo i (by omega)]; exact d1 i (by omega)
  · rw [lo i (by omega)]
    by_cases z : j = c
    · subst z; rw [la]; exact hno i (by omega)
    · rw [lo j (by omega)]; exact d2 i j hij (by omega)
theorem GI.rems {N : Nat → Int32} {c0 c1 c2 c3 c4 p c i : Nat} {B : Int} (h : GI N c0 c1 c2 c3 c4 B) (hp : p < c0) (hc : N (7 + p * 23 + 8) = nI (c + 1)) (c4' : c + 1 ≤ 4) (hi : i < c + 1) : GI (r_rems N p i c) c0 c1 c2 c3 c4 B := by
  have k0 := h.wf.1.2
  obtain ⟨d1, d2⟩ := h.dst p (c + 1) hp hc c4'
  have at' : ∀ k, k < c → ∃ z, z < c + 1 ∧ r_rems N p i c (7 + p * 23 + (9 + k)) = N (7 + p * 23 + (9 + z)) ∧ ((k < i ∧ z = k) ∨ (i ≤ k ∧ z = k + 1)) := fun k hk => by
    by_cases y : k < i
    · exact ⟨k, by omega, rems_o (by omega) (by omega), Or.inl ⟨y, rfl⟩⟩
    · refine ⟨k + 1, by omega, ?_, Or.inr ⟨by omega, rfl⟩⟩
      unfold r_rems
      rw [if_pos (by omega), show 7 + p * 23 + (9 + k) + 1 = 7 + p * 23 + (9 + (k + 1)) by omega]
  refine h.sub' hp (h.wf.rems hp hc c4' hi) (fun j hj => rems_o (by omega) (by omega)) (fun c' hc' c4'' => ?_)
  have ec : c' = c := (nI_eq (by omega) (by omega)).mp (hc'.symm.trans (by unfold r_rems; rw [if_neg (by omega), if_pos rfl]))
  subst ec
  refine ⟨fun k hk => ?_, fun k j hkj hj => ?_⟩
  · obtain ⟨z, z1, z2, -⟩ := at' k hk
    rw [z2]; exact d1 z z1
  · obtain ⟨z, z1, z2, z3⟩ := at' k (by omega)
    obtain ⟨y, y1, y2, y3⟩ := at' j hj
    rw [z2, y2]; exact d2 z y (by omega) y1
theorem GI.kit' {N N' : Nat → Int32} {c0 c1 c1' c2 c3 c4 : Nat} {B : Int} (h : GI N c0 c1 c2 c3 c4 B) (wf : WFc N' c0 c1' c2 c3 c4) (e : ∀ j, j ≠ 1 → (j < 191 ∨ 227 ≤ j) → N' j = N j) (hk : ∀ k c i, k < c1' → N' (191 + k * 9) = nI c → c ≤ 4 → i < c → 1 ≤ (N' (191 + k * 9 + 1 + 2 * i + 1)).toInt ∧ (N' (191 + k * 9 + 1 + 2 * i + 1)).toInt ≤ 9) : GI N' c0 c1' c2 c3 c4 B := by
  have k0 := h.wf.1.2
  refine ⟨h.ni.mk' wf (fun j hj hn => e j (by unfold nux at hn; omega) (by unfold nux at hn; omega)), fun q c hq hc c4' => ?_, hk, fun q hq => ?_, h.b16⟩
  · rw [e _ (by omega) (by omega)] at hc
    obtain ⟨d1, d2⟩ := h.dst q c hq hc c4'
    refine ⟨fun i hi => ?_, fun i j hij hj => ?_⟩
    · rw [e _ (by omega) (by omega)]; exact d1 i hi
    · rw [e (7 + q * 23 + (9 + i)) (by omega) (by omega), e (7 + q * 23 + (9 + j)) (by omega) (by omega)]; exact d2 i j hij hj
  · rw [e _ (by omega) (by omega), e _ (by omega) (by omega)]
    exact h.rs q hq
theorem GI.addi {N : Nat → Int32} {c0 c1 c2 c3 c4 k c s : Nat} {v : Int32} {B : Int} (h : GI N c0 c1 c2 c3 c4 B) (hk : k < c1) (hc : N (191 + k * 9) = nI c) (c4' : c < 4) (hs : s < c0) (hv : 1 ≤ v.toInt ∧ v.toInt ≤ 9) : GI (r_addi N k c (nI s) v) c0 c1 c2 c3 c4 B := by
  have k1 := h.wf.2.1.2
  refine h.kit' (h.wf.addi hk hc c4' hs) (fun j h1 h2 => addi_o (by omega) (by omega) (by omega)) (fun q c' i hq hc' c4'' hi => ?_)
  by_cases z : q = k
  · subst z
    have ec : c' = c + 1 := (nI_eq (by omega) (by omega)).mp (hc'.symm.trans addi_at)
    subst ec
    by_cases y : i = c
    · subst y
      have : r_addi N q i (nI s) v (191 + q * 9 + 1 + 2 * i + 1) = v := by
        unfold r_addi
        rw [pk_un (by omega), pk_us]
      rw [this]; exact hv
    · rw [addi_o (by omega) (by omega) (by omega)]
      exact h.kq q c i hq hc (by omega) (by omega)
  · rw [addi_o (by omega) (by omega) (by omega)] at hc'
    rw [addi_o (by omega) (by omega) (by omega)]
    exact h.kq q c' i hq hc' c4'' hi
theorem GI.newk {N : Nat → Int32} {c0 c1 c2 c3 c4 : Nat} {B : Int} (h : GI N c0 c1 c2 c3 c4 B) (hc : c1 < 4) : GI (r_newk N c1) c0 (c1 + 1) c2 c3 c4 B := by
  refine h.kit' (h.wf.newk hc) (fun j h1 h2 => newk_o (by omega) (by omega)) (fun q c' i hq hc' c4'' hi => ?_)
  by_cases z : q = c1
  · subst z
    have ec : c' = 0 := (nI_eq (by omega) (by decide)).mp (hc'.symm.trans (by unfold r_newk; rw [pk_un (by omega), pk_us]; rfl))
    omega
  · rw [newk_o (by omega) (by omega)] at hc'
    rw [newk_o (by omega) (by omega)]
    exact h.kq q c' i (by omega) hc' c4'' hi
theorem GI.addp {N : Nat → Int32} {c0 c1 c2 c3 c4 : Nat} {s ol rl y : Int32} {B : Int} (h : GI N c0 c1 c2 c3 c4 B) (hc : c0 < 8) (hs : 0 ≤ s.toInt ∧ s.toInt ≤ 999) (hy : 0 ≤ y.toInt ∧ y.toInt ≤ 100) : GI (r_addp N c0 s ol rl y) (c0 + 1) c1 c2 c3 c4 B := by
  have n := h.ni
  have bb := n.bb
  have wf := n.wf.addp hc s ol rl y
  have k2 := wf.2.2.1.2
  have k3 := wf.2.2.2.1.2
  have k4 := wf.2.2.2.2.1.2
  have eo : ∀ j, j ≠ 0 → (j < 7 + c0 * 23 ∨ 7 + c0 * 23 + 23 ≤ j) → r_addp N c0 s ol rl y j = N j := fun j h1 h2 => addp_o h1 h2
  have ek : ∀ k, k < 23 → r_addp N c0 s ol rl y (7 + c0 * 23 + k) = if k = 0 ∨ k = 13 then s else if k = 4 then ol else if k = 5 then rl else if k = 6 then y else 0 := fun k hk => addp_k k hk
  have none3 : ∀ n, n ≤ c3 → sI N 287 c0 n = 0 := by
    intro m
    induction m with
    | zero => intro _; rfl
    | succ m ih =>
      intro hm
      obtain ⟨t, t1, t2⟩ := n.wf.2.2.2.2.2.2.2.2.1 m (by omega)
      show sI N 287 c0 m + (if _ = _ then _ else _) = 0
      rw [ih (by omega), if_neg (by rw [t2]; exact fun z => by have := (nI_eq (by omega) (by omega)).mp z; omega)]
      rfl
  have none4 : ∀ n, n ≤ c4 → sI N 323 c0 n = 0 := by
    intro m
    induction m with
    | zero => intro _; rfl
    | succ m ih =>
      intro hm
      obtain ⟨t, t1, t2⟩ := n.wf.2.2.2.2.2.2.2.2.2 m (by omega)
      show sI N 323 c0 m + (if _ = _ then _ else _) = 0
      rw [ih (by omega), if_neg (by rw [t2]; exact fun z => by have := (nI_eq (by omega) (by omega)).mp z; omega)]
      rfl
  refine ⟨⟨wf, fun p hp => ?_, fun i hi => ?_, fun p hp => ?_, fun p hp => ?_, fun i hi => ?_, fun i hi => ?_, fun p hp => ?_, bb⟩, fun p c hp hc9 c4' => ?_, fun k c i hk hc9 c4' hi => ?_, fun p hp => ?_, h.b16⟩
  · by_cases z : p = c0
    · subst z; rw [ek 0 (by decide), if_pos (by decide)]; exact hs.1
    · rw [eo _ (by omega) (by omega)]; exact n.sk p (by omega)
  · rw [eo _ (by omega) (by omega)]; exact n.mq i hi
  · by_cases z : p = c0
    · subst z
      unfold Pt
      rw [ek 6 (by decide), ek 2 (by decide), ek 3 (by decide), if_neg (by decide), if_neg (by decide), if_neg (by decide), if_pos rfl, if_neg (by decide), if_neg (by decide), if_neg (by decide), if_neg (by decide), if_neg (by decide), if_neg (by decide), if_neg (by decide), if_neg (by decide)]
      exact ⟨hy, by decide⟩
    · have := n.pt p (by omega)
      unfold Pt at *
      rw [eo _ (by omega) (by omega), eo _ (by omega) (by omega), eo _ (by omega) (by omega)]
      exact this
  · by_cases z : p = c0
    · subst z
      rw [ek 7 (by decide), if_neg (by decide), if_neg (by decide), if_neg (by decide), if_neg (by decide)]
      exact ⟨by decide, by decide⟩
    · rw [eo _ (by omega) (by omega)]; exact n.hu p (by omega)
  · rw [eo _ (by omega) (by omega)]; exact n.rq i hi
  · rw [eo _ (by omega) (by omega)]; exact n.oq i hi
  · rw [sI_eq c3 (fun j h1 h2 => eo j (by omega) (by omega)), sI_eq c4 (fun j h1 h2 => eo j (by omega) (by omega))]
    by_cases z : p = c0
    · subst z
      rw [ek 0 (by decide), if_pos (by decide), none3 c3 (Nat.le_refl _), none4 c4 (Nat.le_refl _)]
      omega
    · rw [eo _ (by omega) (by omega)]; exact n.zz p (by omega)
  · by_cases z : p = c0
    · subst z
      rw [ek 8 (by decide), if_neg (by decide), if_neg (by decide), if_neg (by decide), if_neg (by decide)] at hc9
      have : c = 0 := ((nI_eq (by decide) (by omega)).mp (show nI 0 = nI c from hc9)).symm
      subst this
      exact ⟨fun i hi => absurd hi (Nat.not_lt_zero i), fun i j _ hj => absurd hj (Nat.not_lt_zero j)⟩
    · rw [eo _ (by omega) (by omega)] at hc9
      obtain ⟨d1, d2⟩ := h.dst p c (by omega) hc9 c4'
      refine ⟨fun i hi => ?_, fun i j hij hj => ?_⟩
      · rw [eo _ (by omega) (by omega)]; exact d1 i hi
      · rw [eo (7 + p * 23 + (9 + i)) (by omega) (by omega), eo (7 + p * 23 + (9 + j)) (by omega) (by omega)]; exact d2 i j hij hj
  · rw [eo _ (by omega) (by omega)] at hc9
    rw [eo _ (by omega) (by omega)]
    exact h.kq k c i hk hc9 c4' hi
  · by_cases z : p = c0
    · subst z
      rw [ek 22 (by decide), ek 21 (by decide), if_neg (by decide), if_neg (by decide), if_neg (by decide), if_neg (by decide), if_neg (by decide), if_neg (by decide), if_neg (by decide), if_neg (by decide)]
      refine ⟨by decide, by decide, ?_⟩
      show (0 : Int) ≤ B
      omega
    · rw [eo _ (by omega) (by omega), eo _ (by omega) (by omega)]; exact h.rs p (by omega)
end F3

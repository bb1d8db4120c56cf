section T3
theorem thr_l {mc ms j : Nat} {k : Int32} {Q : Option Value → Hp → Prop} {L : LV} {h : Hp} {u : Nat × Nat} {q9 : Nat} (u1 : u.1 ≤ mc) (u2 : u.2 ≤ ms) (q : Q (some (.int k)) h) : o_astore j (o_push (.int k) (o_iret mc ms Q)) L [.ref q9] h u := ⟨u1, u2, q⟩
theorem ret_l {mc ms o : Nat} {v : Int32} {Q : Option Value → Hp → Prop} {L : LV} {h : Hp} {u : Nat × Nat} (ho : hs h o = (23, 1)) (u1 : u.1 ≤ mc) (u2 : u.2 ≤ ms) (q : Q (some (.int 0)) (wL h o 0 v.toInt64)) : o_i2l (o_lastore (o_push (.int 0) (o_iret mc ms Q))) L [.int v, .int 0, .ref o] h u :=
  ⟨congrArg Prod.fst ho, by rw [ho]; exact nI_in (c := 0) (by decide) (by decide), u1, u2, q⟩
theorem hL_wL {h : Hp} {a k : Nat} {v : Int64} : hL (wL h a k v) a k = v := by
  show (if a = a then (if k = k then v else _) else _) = v
  rw [if_pos rfl, if_pos rfl]
theorem hD_wD {h : Hp} {a k : Nat} {v : UInt64} : hD (wD h a k v) a k = v := by
  show (if a = a then (if k = k then v else _) else _) = v
  rw [if_pos rfl, if_pos rfl]
/-- a part's or another thing's index is one that there is -/
theorem vP {a : Int32} {p c : Nat} (e : a = nI p) (h : p < c) (hc : c ≤ 1000) : 0 ≤ a ∧ a < nI c := by
  subst e
  exact ⟨nI_pos' (by omega), nI_lt h (by omega)⟩
theorem vR {a : Int32} {p c : Nat} (e : a = nI p) (h : p ≤ c) (hc : c ≤ 1000) : 0 ≤ a ∧ a ≤ nI c := by
  subst e
  exact ⟨nI_pos' (by omega), nI_le h (by omega)⟩
theorem nJ {a : Int32} {p s : Nat} (e1 : a = nI p) (e2 : a = nI s) (hp : p ≤ 1000) (hs : s ≤ 1000) : p = s := nIj (e1.symm.trans e2) (by omega) (by omega)
theorem RJ.rr {h : Hp} {x m o : Nat} {B D : Int} (R : RJ h x m o B D) : ∃ r, hI h m 5 = nI r ∧ r ≤ 8 := by
  obtain ⟨o9, r, o8, r8, a1, a2, a3, a4, a5⟩ := R.2.2.2.2.2.1.2.2.2.1
  exact ⟨r, a3, r8⟩
theorem RJ.hnL {h H' : Hp} {x m o : Nat} {B D : Int} (R : RJ h x m o B D) (f : XF x h H') : hs H' o = (23, 1) ∧ hs H' m = (10, 21) := by rw [f.1]; exact ⟨R.2.2.1.1, R.2.2.2.1.1⟩
theorem CR.wL {H : Hp} {x a k : Nat} {v : Int64} {N F : Nat → Int32} {hi : Nat → Nat → Int32} {sv : Nat → Int32} {sm : Nat → Nat → Int32} {hd tx : Nat → Int32} {B : Int} (C : CR H x N F hi sv sm hd tx B) : CR (wL H a k v) x N F hi sv sm hd tx B := C.same (fun _ _ _ => ⟨rfl, rfl, rfl⟩)
theorem CR.wD {H : Hp} {x a k : Nat} {v : UInt64} {N F : Nat → Int32} {hi : Nat → Nat → Int32} {sv : Nat → Int32} {sm : Nat → Nat → Int32} {hd tx : Nat → Int32} {B : Int} (C : CR H x N F hi sv sm hd tx B) : CR (wD H a k v) x N F hi sv sm hd tx B := C.same (fun _ _ _ => ⟨rfl, rfl, rfl⟩)
/-- a call that throws -/
theorem Jn.thr {h h1 h' : Hp} {x m o : Nat} {B D : Int} (R : RJ h x m o B D) (hB : B + 19980 ≤ 16000000) (hD : D + 180 ≤ 1000000) (c : C1 m h h1) {F' : Nat → Int32} (C' : CR h1 x (hI h (m + 1)) F' (fun k => hI h (m + 5 + k)) (hI h (m + 2)) (fun i => hI h (m + 15 + i)) (hI h (m + 21)) (hI h (m + 22)) B) (f : Mf m h1 h') {F2 N2 : Nat → Int32} (eF : ∀ k, k = 5 ∨ k = 6 ∨ k = 7 ∨ k = 8 ∨ k = 9 ∨ k = 16 ∨ k = 18 ∨ k = 19 → F2 k = F' k) (eN : ∀ j, j < 359 → N2 j = hI h (m + 1) j) (e56 : F' 5 = hI h m 5 ∧ F' 6 = hI h m 6) {k : Int32} (hk : F2 0 = k) (k0 : k ≠ 0) {v : Int64} : Jn x m o (B + 19980) (D + 180) k v (st h' m F2 N2) :=
  ⟨(R.same c C' f eF eN e56).le (by omega) hB (by omega) hD, by rw [st_F]; exact hk, fun z => absurd z k0⟩
/-- a call that only answers -/
theorem Jn.ret {h h1 h' : Hp} {x m o : Nat} {B D : Int} (R : RJ h x m o B D) (hB : B + 19980 ≤ 16000000) (hD : D + 180 ≤ 1000000) (c : C1 m h h1) {F' : Nat → Int32} (C' : CR h1 x (hI h (m + 1)) F' (fun k => hI h (m + 5 + k)) (hI h (m + 2)) (fun i => hI h (m + 15 + i)) (hI h (m + 21)) (hI h (m + 22)) B) (f : Mf m h1 h') {F2 N2 : Nat → Int32} (eF : ∀ k, k = 5 ∨ k = 6 ∨ k = 7 ∨ k = 8 ∨ k = 9 ∨ k = 16 ∨ k = 18 ∨ k = 19 → F2 k = F' k) (eN : ∀ j, j < 359 → N2 j = hI h (m + 1) j) (e56 : F' 5 = hI h m 5 ∧ F' 6 = hI h m 6) {v : Int64} (hk : F2 0 = 0) (hv : hL h1 o 0 = v) : Jn x m o (B + 19980) (D + 180) 0 v (st h' m F2 N2) :=
  ⟨(R.same c C' f eF eN e56).le (by omega) hB (by omega) hD, by rw [st_F]; exact hk, fun _ => by rw [← hv]; show h'.2.2.2.2.1 o 0 = h1.2.2.2.2.1 o 0; rw [f.2.2.2.1]⟩
/-- a change -/
theorem Jn.push {h h1 h' : Hp} {x m o : Nat} {B D : Int} (R : RJ h x m o B D) (hB : B + 19980 ≤ 16000000) (hD : D + 180 ≤ 1000000) (c : C1 m h h1) {r : Nat} (er : hI h m 5 = nI r) (r8 : r ≤ 8) {N' F' : Nat → Int32} {B' : Int} (C' : CR h1 x N' (upd F' 5 (nI (pr r))) (ph (fun k => hI h (m + 5 + k)) r (hI h (m + 1))) (hI h (m + 2)) (fun i => hI h (m + 15 + i)) (hI h (m + 21)) (hI h (m + 22)) B') (hB' : B' ≤ B + 19980) (f : Mf m (hpush h1 m r (hI h (m + 1))) h') {F2 N2 : Nat → Int32} (eF : ∀ k, k = 5 ∨ k = 6 ∨ k = 7 ∨ k = 8 ∨ k = 9 ∨ k = 16 ∨ k = 18 ∨ k = 19 → F2 k = upd F' 5 (nI (pr r)) k) (eN : ∀ j, j < 359 → N2 j = N' j) (e6 : F' 6 = hI h m 6) (dN : DIr N' (D + 180)) {v : Int64} (hk : F2 0 = 0) (hv : hL h1 o 0 = v) : Jn x m o (B + 19980) (D + 180) 0 v (st h' m F2 N2) :=
  ⟨R.push c er r8 (C'.le hB' hB) f eF eN e6 dN (by omega) hD, by rw [st_F]; exact hk, fun _ => by rw [← hv]; show h'.2.2.2.2.1 o 0 = h1.2.2.2.2.1 o 0; rw [f.2.2.2.1, (Mg.push r8).2.2.1]⟩
/-- fields that a call leaves -/
theorem eF0 {F : Nat → Int32} {v : Int32} : ∀ k, k = 5 ∨ k = 6 ∨ k = 7 ∨ k = 8 ∨ k = 9 ∨ k = 16 ∨ k = 18 ∨ k = 19 → upd F 0 v k = F k := fun k hk => pk_un (by omega)
theorem eFp {F : Nat → Int32} {v w : Int32} : ∀ k, k = 5 ∨ k = 6 ∨ k = 7 ∨ k = 8 ∨ k = 9 ∨ k = 16 ∨ k = 18 ∨ k = 19 → upd (upd F 0 v) 5 w k = upd F 5 w k := fun k hk => by
  by_cases z : k = 5
  · subst z; rw [pk_us, pk_us]
  · rw [pk_un z, pk_un z, pk_un (by omega)]
theorem kt_0 {N : Nat → Int32} {c0 c1 c2 c3 c4 k : Nat} {B : Int} (hk : k < c1) (g : GI N c0 c1 c2 c3 c4 B) : (kt N k).1 0 = N 0 := by
  obtain ⟨c, c4', hc, hit⟩ := g.wf.2.2.2.2.2.2.1 k hk
  rw [kt_eq hc c4']
  have go : ∀ (n i : Nat) (N : Nat → Int32) (o : Int32), i + n = c → N (191 + k * 9) = nI c → GI N c0 c1 c2 c3 c4 B → (g_take k n i N o).1 0 = N 0 := by
    intro n
    induction n with
    | zero => intro i N o _ _ _; rfl
    | succ n ih =>
      intro i N o hi hc g
      have hic : i < c := by omega
      have k8 := g.wf.1.2
      obtain ⟨c', c4'', hc', hit9⟩ := g.wf.2.2.2.2.2.2.1 k hk
      have : c' = c := (nI_eq (by omega) (by omega)).mp (hc'.symm.trans hc)
      subst this
      obtain ⟨s, s1, s2⟩ := hit9 i hic
      have qk := g.kq k c' i hk hc c4' hic
      rw [g_take_s k n i N o s2 (by omega)]
      by_cases ha : s_av N s (N (7 + s * 23 + 8)).toNatClampNeg < N (191 + k * 9 + 1 + 2 * i + 1)
      · rw [if_pos ha]
      · rw [if_neg ha, ih (i + 1) _ _ (by omega) (by rw [r_serve_o g.wf s1 (by omega)]; exact hc) (g.serve s1 (by omega)), r_serve_x g.wf s1 (fun q _ => by omega)]
  exact go c 0 N 0 (by omega) hc g
theorem send_0 {N : Nat → Int32} {p c : Nat} {v : Int32} : r_send N p v c 0 = N 0 := by
  unfold r_send r_start r_st3
  rw [pk_un (by omega), pk_un (by omega), pk_un (by omega), pk_un (by omega), pk_un (by omega), pk_un (by omega)]
/-- the day and the leads behind the entries of a text -/
theorem run_di {c0 c1 : Nat} : ∀ (es : List Ent) {M M' : Nat → Int32} {c2 c3 c4 : Nat} {B D : Int}, GI M c0 c1 c2 c3 c4 B → DI M c0 D → (∀ e ∈ es, EnOk e) → run es M = .inl M' → B + 999 * es.length ≤ 16000000 → D + 9 * es.length ≤ 1000000 → (∃ c2' c3' c4', GI M' c0 c1 c2' c3' c4' (B + 999 * es.length)) ∧ DI M' c0 (D + 9 * es.length)
  | [], M, M', c2, c3, c4, B, D, g, d, _, h, hB, hD => by
    have e : M = M' := Sum.inl.inj h
    subst e
    refine ⟨⟨c2, c3, c4, ?_⟩, ?_⟩
    · rw [show B + 999 * ((([] : List Ent).length : Nat) : Int) = B from Int.add_zero B]; exact g
    · rw [show D + 9 * ((([] : List Ent).length : Nat) : Int) = D from Int.add_zero D]; exact d
  | e :: es, M, M', c2, c3, c4, B, D, g, d, ok, h, hB, hD => by
    rw [run_cons] at h
    have hl : ((e :: es).length : Int) = (es.length : Int) + 1 := by rw [List.length_cons]; omega
    rw [hl] at hB hD ⊢
    cases he : en M e with
    | none => rw [he] at h; cases h
    | some M1 =>
      rw [he] at h
      dsimp only at h
      obtain ⟨⟨x2, x3, x4, g1⟩, d1⟩ := en_ok g d (ok e List.mem_cons_self) he (by omega) (by omega)
      cases hr : run es M1 with
      | inr z => obtain ⟨i, Mi, ei⟩ := z; rw [hr] at h; cases h
      | inl M2 =>
        rw [hr] at h
        have e2 : M2 = M' := Sum.inl.inj h
        subst e2
        have := run_di es g1 d1 (fun e he => ok e (List.mem_cons_of_mem _ he)) hr (by omega) (by omega)
        rw [show B + 999 + 999 * (es.length : Int) = B + 999 * ((es.length : Int) + 1) by omega, show D + 9 + 9 * (es.length : Int) = D + 9 * ((es.length : Int) + 1) by omega] at this
        exact this
end T3

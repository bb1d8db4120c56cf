section F1
/-- the planner's object at x: where its parts lie -/
def XS (h : Hp) (x : Nat) : Prop := 0 < x ∧ hs h x = (9, 14) ∧ hR h x 0 = x + 1 ∧ hR h x 1 = x + 81 ∧ hR h x 2 = x + 161 ∧ (hR h x 4 = x + 241 ∧ hs h (x + 241) = (37, 8) ∧ ∀ k, k < 8 → hR h (x + 241) k = x + 248 + 80 * k) ∧ (hR h x 7 = x + 242 ∧ hs h (x + 242) = (6, 6)) ∧ (hR h (x + 242) 0 = x + 243 ∧ hs h (x + 243) = (22, 60)) ∧ (hR h (x + 242) 2 = x + 244 ∧ hs h (x + 244) = (20, 20)) ∧ (hR h (x + 242) 3 = x + 245 ∧ hs h (x + 245) = (20, 20)) ∧ (hR h (x + 242) 4 = x + 246 ∧ hs h (x + 246) = (20, 20)) ∧ (hR h x 13 = x + 247 ∧ hs h (x + 247) = (34, 6)) ∧ (∀ i, i < 6 → hR h (x + 247) i = x + 888 + i ∧ hs h (x + 888 + i) = (5, 5))
def XW (h : Hp) (x : Nat) (N : Nat → Int32) (B : Int) : Prop := Kp h (x + 1) N B ∧ Sp h (x + 81)
def XV (h : Hp) (x : Nat) (F : Nat → Int32) (sv : Nat → Int32) (B : Int) : Prop := Sp h (x + 161) ∧ hI h x 3 = F 6 ∧ (F 6 = 0 ∨ F 6 = 1) ∧ (F 6 = 1 → Kp h (x + 161) sv B)
def XH (h : Hp) (x : Nat) (F : Nat → Int32) (hi : Nat → Nat → Int32) (B : Int) : Prop := ∃ o r, o < 8 ∧ r ≤ 8 ∧ hI h x 5 = nI o ∧ hI h x 6 = nI r ∧ F 5 = nI r ∧ (∀ k, k < 8 → Sp h (x + 248 + 80 * k)) ∧ ∀ k, k < r → Kp h (x + 248 + 80 * ((o + k) % 8)) (hi k) B
def XI (h : Hp) (x : Nat) (F : Nat → Int32) : Prop := hI h x 8 = F 18 ∧ hI h x 9 = F 19 ∧ hI h x 10 = F 7 ∧ hI h x 11 = F 8 ∧ hI h x 12 = F 9 ∧ (F 18 = -1 ∨ 0 ≤ F 18) ∧ (F 19 = -1 ∨ 0 ≤ F 19)
def XT (h : Hp) (x : Nat) (F : Nat → Int32) (tx : Nat → Int32) : Prop := ∃ n, n ≤ 60 ∧ F 16 = nI n ∧ hI h (x + 242) 1 = nI n ∧ ∀ k, k < n → hI h (x + 243) k = tx k ∧ 32 ≤ tx k ∧ tx k ≤ 126
def XM (h : Hp) (x : Nat) (sm : Nat → Nat → Int32) (hd : Nat → Int32) : Prop := ∀ i, i < 6 → (hd i = 0 ∨ hd i = 1) ∧ hI h (x + 888 + i) 0 = hd i ∧ (hd i = 1 → hI h (x + 888 + i) 1 = sm i 0 ∧ hI h (x + 888 + i) 2 = sm i 1 ∧ hI h (x + 888 + i) 3 = sm i 2 ∧ hI h (x + 888 + i) 4 = sm i 3)
/-- the planner at x keeps: the row N; in F the numbers beside it; the history hi; what was saved sv; the samples sm, hd; the text tx -/
def CR (h : Hp) (x : Nat) (N F : Nat → Int32) (hi : Nat → Nat → Int32) (sv : Nat → Int32) (sm : Nat → Nat → Int32) (hd tx : Nat → Int32) (B : Int) : Prop := XS h x ∧ XW h x N B ∧ XV h x F sv B ∧ XH h x F hi B ∧ XI h x F ∧ XT h x F tx ∧ XM h x sm hd
theorem XS.same {h h' : Hp} {x : Nat} (S : XS h x) (e : ∀ b, (b = x ∨ (x + 241 ≤ b ∧ b < x + 248) ∨ (x + 888 ≤ b ∧ b < x + 894)) → hs h' b = hs h b ∧ hR h' b = hR h b) : XS h' x := by
  obtain ⟨a0, a1, a2, a3, a4, ⟨a5, a6, a7⟩, ⟨a8, a9⟩, ⟨b1, b2⟩, ⟨b3, b4⟩, ⟨b5, b6⟩, ⟨b7, b8⟩, ⟨b9, c1⟩, c2⟩ := S
  have e0 := e x (Or.inl rfl)
  have e1 := e (x + 241) (Or.inr (Or.inl (by omega)))
  have e2 := e (x + 242) (Or.inr (Or.inl (by omega)))
  have e3 := e (x + 243) (Or.inr (Or.inl (by omega)))
  have e4 := e (x + 244) (Or.inr (Or.inl (by omega)))
  have e5 := e (x + 245) (Or.inr (Or.inl (by omega)))
  have e6 := e (x + 246) (Or.inr (Or.inl (by omega)))
  have e7 := e (x + 247) (Or.inr (Or.inl (by omega)))
  unfold XS
  rw [e0.1, e0.2, e1.1, e1.2, e2.1, e2.2, e3.1, e4.1, e5.1, e6.1, e7.1, e7.2]
  exact ⟨a0, a1, a2, a3, a4, ⟨a5, a6, a7⟩, ⟨a8, a9⟩, ⟨b1, b2⟩, ⟨b3, b4⟩, ⟨b5, b6⟩, ⟨b7, b8⟩, ⟨b9, c1⟩, fun i hi => ⟨(c2 i hi).1, by rw [(e (x + 888 + i) (Or.inr (Or.inr (by omega)))).1]; exact (c2 i hi).2⟩⟩
theorem XV.same {h h' : Hp} {x : Nat} {F sv : Nat → Int32} {B : Int} (S : XV h x F sv B) (e : hI h' x = hI h x) (e2 : Sm h h' (x + 161) 80) : XV h' x F sv B := ⟨S.1.same e2, by rw [e]; exact S.2.1, S.2.2.1, fun z => (S.2.2.2 z).same e2⟩
theorem XH.same {h h' : Hp} {x : Nat} {F : Nat → Int32} {hi : Nat → Nat → Int32} {B : Int} (S : XH h x F hi B) (e : hI h' x = hI h x) (e2 : Sm h h' (x + 248) 640) : XH h' x F hi B := by
  obtain ⟨o, r, o8, r8, a1, a2, a3, a4, a5⟩ := S
  exact ⟨o, r, o8, r8, by rw [e]; exact a1, by rw [e]; exact a2, a3, fun k hk => (a4 k hk).same (e2.sub (by omega) (by omega)), fun k hk => (a5 k hk).same (e2.sub (by omega) (by omega))⟩
theorem XI.same {h h' : Hp} {x : Nat} {F : Nat → Int32} (S : XI h x F) (e : hI h' x = hI h x) : XI h' x F := by
  unfold XI
  rw [e]; exact S
theorem XT.same {h h' : Hp} {x : Nat} {F tx : Nat → Int32} (S : XT h x F tx) (e : hI h' (x + 242) = hI h (x + 242)) (e2 : hI h' (x + 243) = hI h (x + 243)) : XT h' x F tx := by
  unfold XT
  rw [e, e2]; exact S
theorem XM.same {h h' : Hp} {x : Nat} {sm : Nat → Nat → Int32} {hd : Nat → Int32} (S : XM h x sm hd) (e : ∀ i, i < 6 → hI h' (x + 888 + i) = hI h (x + 888 + i)) : XM h' x sm hd := fun i hi => by
  rw [e i hi]; exact S i hi
theorem CR.same {h h' : Hp} {x : Nat} {N F : Nat → Int32} {hi : Nat → Nat → Int32} {sv : Nat → Int32} {sm : Nat → Nat → Int32} {hd tx : Nat → Int32} {B : Int} (C : CR h x N F hi sv sm hd tx B) (e : Sm h h' x 894) : CR h' x N F hi sv sm hd tx B := by
  obtain ⟨S, ⟨K, T⟩, V, Hh, I, Tx, M⟩ := C
  have e0 := e x (by omega) (by omega)
  exact ⟨S.same (fun b hb => ⟨(e b (by omega) (by omega)).1, (e b (by omega) (by omega)).2.1⟩), ⟨K.same (e.sub (by omega) (by omega)), T.same (e.sub (by omega) (by omega))⟩, V.same e0.2.2 (e.sub (by omega) (by omega)), Hh.same e0.2.2 (e.sub (by omega) (by omega)), I.same e0.2.2, Tx.same (e _ (by omega) (by omega)).2.2 (e _ (by omega) (by omega)).2.2, M.same (fun i hi => (e _ (by omega) (by omega)).2.2)⟩
theorem CR.hxn {h : Hp} {x n : Nat} {N F : Nat → Int32} {hi : Nat → Nat → Int32} {sv : Nat → Int32} {sm : Nat → Nat → Int32} {hd tx : Nat → Int32} {B : Int} (C : CR h x N F hi sv sm hd tx B) : CR (hxn h n) x N F hi sv sm hd tx B := C.same (fun _ _ _ => ⟨rfl, rfl, rfl⟩)
theorem CR.le {h : Hp} {x : Nat} {N F : Nat → Int32} {hi : Nat → Nat → Int32} {sv : Nat → Int32} {sm : Nat → Nat → Int32} {hd tx : Nat → Int32} {B B' : Int} (C : CR h x N F hi sv sm hd tx B) (hB : B ≤ B') (hB2 : B' ≤ 16000000) : CR h x N F hi sv sm hd tx B' := by
  obtain ⟨S, ⟨K, T⟩, V, ⟨o, r, o8, r8, a1, a2, a3, a4, a5⟩, I, Tx, M⟩ := C
  exact ⟨S, ⟨K.le hB hB2, T⟩, ⟨V.1, V.2.1, V.2.2.1, fun z => (V.2.2.2 z).le hB hB2⟩, ⟨o, r, o8, r8, a1, a2, a3, a4, fun k hk => (a5 k hk).le hB hB2⟩, I, Tx, M⟩
/-- the same in other words -/
theorem CR.congr {h : Hp} {x : Nat} {N F N' F' : Nat → Int32} {hi hi' : Nat → Nat → Int32} {sv sv' : Nat → Int32} {sm sm' : Nat → Nat → Int32} {hd tx hd' tx' : Nat → Int32} {B : Int} (C : CR h x N F hi sv sm hd tx B) (eN : ∀ j, j < 359 → N' j = N j) (eF : ∀ k, k = 5 ∨ k = 6 ∨ k = 7 ∨ k = 8 ∨ k = 9 ∨ k = 16 ∨ k = 18 ∨ k = 19 → F' k = F k) (eh : ∀ r k, F 5 = nI r → r ≤ 8 → k < r → ∀ j, j < 359 → hi' k j = hi k j) (es : ∀ j, j < 359 → sv' j = sv j) (em : ∀ i j, i < 6 → j < 4 → sm' i j = sm i j) (ed : ∀ i, i < 6 → hd' i = hd i) (et : ∀ k, k < 60 → tx' k = tx k) : CR h x N' F' hi' sv' sm' hd' tx' B := by
  obtain ⟨S, ⟨K, T⟩, V, ⟨o, r, o8, r8, a1, a2, a3, a4, a5⟩, I, ⟨n, n1, n2, n3, n4⟩, M⟩ := C
  refine ⟨S, ⟨K.congr eN, T⟩, ?_, ⟨o, r, o8, r8, a1, a2, by rw [eF 5 (by omega)]; exact a3, a4, fun k hk => (a5 k hk).congr (eh r k a3 r8 hk)⟩, ?_, ⟨n, n1, by rw [eF 16 (by omega)]; exact n2, n3, fun k hk => by rw [et k (by omega)]; exact n4 k hk⟩, fun i hi => ?_⟩
  · unfold XV
    rw [eF 6 (by omega)]
    exact ⟨V.1, V.2.1, V.2.2.1, fun z => (V.2.2.2 z).congr es⟩
  · unfold XI
    rw [eF 18 (by omega), eF 19 (by omega), eF 7 (by omega), eF 8 (by omega), eF 9 (by omega)]
    exact I
  · rw [ed i hi, em i 0 hi (by decide), em i 1 hi (by decide), em i 2 hi (by decide), em i 3 hi (by decide)]
    exact M i hi
/-- outside the planner all is as it was, but for the next address -/
def XF (x : Nat) (h h' : Hp) : Prop := hs h' = hs h ∧ h'.2.2.2.2 = h.2.2.2.2 ∧ ∀ a, (a < x ∨ x + 894 ≤ a) → hI h' a = hI h a ∧ hR h' a = hR h a
theorem XF.rf (x : Nat) (h : Hp) : XF x h h := ⟨rfl, rfl, fun _ _ => ⟨rfl, rfl⟩⟩
theorem XF.trans {x : Nat} {a b c : Hp} (h1 : XF x a b) (h2 : XF x b c) : XF x a c := ⟨h2.1.trans h1.1, h2.2.1.trans h1.2.1, fun z hz => ⟨(h2.2.2 z hz).1.trans (h1.2.2 z hz).1, (h2.2.2 z hz).2.trans (h1.2.2 z hz).2⟩⟩
theorem XF.fr {x w : Nat} {h h' : Hp} (F : Fr w h h') (h1 : x ≤ w) (h2 : w + 80 ≤ x + 894) : XF x h h' := ⟨F.2.1, F.2.2.1, fun a ha => F.2.2.2 a (by omega)⟩
theorem XF.wI {x a k : Nat} {v : Int32} {h : Hp} (h1 : x ≤ a) (h2 : a < x + 894) : XF x h (wI h a k v) := ⟨rfl, rfl, fun b hb => ⟨(ag_wI (show b ≠ a by omega)).2.1, rfl⟩⟩
theorem XF.hx {x n : Nat} {h : Hp} : XF x h (hxn h n) := ⟨rfl, rfl, fun _ _ => ⟨rfl, rfl⟩⟩
theorem hI_wI_o {h : Hp} {a b k : Nat} {v : Int32} (e : b ≠ a) : hI (wI h a k v) b = hI h b := (ag_wI e).2.1
theorem hI_wI_s {h : Hp} {a k : Nat} {v : Int32} : hI (wI h a k v) a k = v := by
  show (if a = a then (if k = k then v else _) else _) = v
  rw [if_pos rfl, if_pos rfl]
theorem hI_wI_k {h : Hp} {a k j : Nat} {v : Int32} (e : j ≠ k) : hI (wI h a k v) a j = hI h a j := by
  show (if a = a then (if j = k then v else _) else _) = _
  rw [if_pos rfl, if_neg e]; rfl
theorem Sm.wI {h : Hp} {a k b n : Nat} {v : Int32} (e : a < b ∨ b + n ≤ a) : Sm h (wI h a k v) b n := fun c h1 h2 => ⟨rfl, rfl, hI_wI_o (by omega)⟩
/-- the world changes -/
theorem CR.world {h h' : Hp} {x : Nat} {N F : Nat → Int32} {hi : Nat → Nat → Int32} {sv : Nat → Int32} {sm : Nat → Nat → Int32} {hd tx : Nat → Int32} {B : Int} (C : CR h x N F hi sv sm hd tx B) (Fw : Fr (x + 1) h h') {N' : Nat → Int32} {B' : Int} (K : Kp h' (x + 1) N' B') (hB : B ≤ B') (hB2 : B' ≤ 16000000) : CR h' x N' F hi sv sm hd tx B' := by
  obtain ⟨S, ⟨K0, T⟩, V, Hh, I, Tx, M⟩ := C.le hB hB2
  have e : ∀ a, (a < x + 1 ∨ x + 81 ≤ a) → hs h' a = hs h a ∧ hR h' a = hR h a ∧ hI h' a = hI h a := fun a ha => ⟨by rw [Fw.2.1], (Fw.2.2.2 a (by omega)).2, (Fw.2.2.2 a (by omega)).1⟩
  exact ⟨S.same (fun b hb => ⟨(e b (by omega)).1, (e b (by omega)).2.1⟩), ⟨K, T.same (Fw.sm (by omega))⟩, V.same (e x (by omega)).2.2 (Fw.sm (by omega)), Hh.same (e x (by omega)).2.2 (Fw.sm (by omega)), I.same (e x (by omega)).2.2, Tx.same (e _ (by omega)).2.2 (e _ (by omega)).2.2, M.same (fun i hi => (e _ (by omega)).2.2)⟩
/-- the world on which calls are tried changes -/
theorem CR.trial {h h' : Hp} {x : Nat} {N F : Nat → Int32} {hi : Nat → Nat → Int32} {sv : Nat → Int32} {sm : Nat → Nat → Int32} {hd tx : Nat → Int32} {B : Int} (C : CR h x N F hi sv sm hd tx B) (Fw : Fr (x + 81) h h') (K : Sp h' (x + 81)) : CR h' x N F hi sv sm hd tx B := by
  obtain ⟨S, ⟨K0, T⟩, V, Hh, I, Tx, M⟩ := C
  have e : ∀ a, (a < x + 81 ∨ x + 161 ≤ a) → hs h' a = hs h a ∧ hR h' a = hR h a ∧ hI h' a = hI h a := fun a ha => ⟨by rw [Fw.2.1], (Fw.2.2.2 a (by omega)).2, (Fw.2.2.2 a (by omega)).1⟩
  exact ⟨S.same (fun b hb => ⟨(e b (by omega)).1, (e b (by omega)).2.1⟩), ⟨K0.same (Fw.sm (by omega)), K⟩, V.same (e x (by omega)).2.2 (Fw.sm (by omega)), Hh.same (e x (by omega)).2.2 (Fw.sm (by omega)), I.same (e x (by omega)).2.2, Tx.same (e _ (by omega)).2.2 (e _ (by omega)).2.2, M.same (fun i hi => (e _ (by omega)).2.2)⟩
/-- a number of the object itself changes -/
theorem CR.fld {h : Hp} {x : Nat} {N F : Nat → Int32} {hi : Nat → Nat → Int32} {sv : Nat → Int32} {sm : Nat → Nat → Int32} {hd tx : Nat → Int32} {B : Int} (C : CR h x N F hi sv sm hd tx B) {k : Nat} {v : Int32} {F' : Nat → Int32} (eF : F' 5 = F 5 ∧ F' 6 = F 6 ∧ F' 16 = F 16) (hk : k ≠ 3 ∧ k ≠ 5 ∧ k ≠ 6) (I' : XI (wI h x k v) x F') : CR (wI h x k v) x N F' hi sv sm hd tx B := by
  obtain ⟨S, ⟨K0, T⟩, V, ⟨o, r, o8, r8, a1, a2, a3, a4, a5⟩, I, ⟨n, n1, n2, n3, n4⟩, M⟩ := C
  refine ⟨S.same (fun b hb => ⟨rfl, rfl⟩), ⟨K0.same (Sm.wI (by omega)), T.same (Sm.wI (by omega))⟩, ?_, ⟨o, r, o8, r8, by rw [hI_wI_k (by omega)]; exact a1, by rw [hI_wI_k (by omega)]; exact a2, by rw [eF.1]; exact a3, fun k hk => (a4 k hk).same (Sm.wI (by omega)), fun k hk => (a5 k hk).same (Sm.wI (by omega))⟩, I', ⟨n, n1, by rw [eF.2.2]; exact n2, by rw [hI_wI_o (by omega)]; exact n3, fun k hk => by rw [hI_wI_o (by omega)]; exact n4 k hk⟩, M.same (fun i hi => hI_wI_o (by omega))⟩
  unfold XV
  rw [eF.2.1, hI_wI_k (by omega)]
  exact ⟨V.1.same (Sm.wI (by omega)), V.2.1, V.2.2.1, fun z => (V.2.2.2 z).same (Sm.wI (by omega))⟩
/-- a row more in the history that holds r rows -/
def ph (hi : Nat → Nat → Int32) (r : Nat) (N : Nat → Int32) : Nat → Nat → Int32 := fun k => if r < 8 then (if k = r then N else hi k) else (if k = 7 then N else hi (k + 1))
def pr (r : Nat) : Nat := if r < 8 then r + 1 else 8
end F1

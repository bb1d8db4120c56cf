section M1
/-- ints of the row a are f -/
def sRow (h : Hp) (a : Nat) (f : Nat → Int32) : Hp := (h.1, h.2.1, (fun b => if b = a then f else h.2.2.1 b), h.2.2.2)
theorem wI_row (h : Hp) (a k : Nat) (x : Int32) : wI h a k x = sRow h a (upd (hI h a) k x) := by
  unfold wI sRow
  refine congrArg (fun z => (h.1, h.2.1, z, h.2.2.2)) (funext fun b => ?_)
  by_cases e : b = a
  · subst e
    funext j
    show (if b = b then (if j = k then x else h.2.2.1 b j) else _) = (if b = b then upd (hI h b) k x else _) j
    rw [if_pos rfl, if_pos rfl]
    rfl
  · funext j
    show (if b = a then _ else h.2.2.1 b j) = (if b = a then _ else h.2.2.1 b) j
    rw [if_neg e, if_neg e]
theorem hI_sRow (h : Hp) (a : Nat) (f : Nat → Int32) : hI (sRow h a f) a = f := if_pos rfl
theorem hI_sRow_ne {h : Hp} {a b : Nat} {f : Nat → Int32} (e : b ≠ a) : hI (sRow h a f) b = hI h b := if_neg e
theorem sRow_sRow (h : Hp) (a : Nat) (f g : Nat → Int32) : sRow (sRow h a f) a g = sRow h a g := by
  unfold sRow
  refine congrArg (fun z => (h.1, h.2.1, z, h.2.2.2)) (funext fun b => ?_)
  by_cases e : b = a
  · rw [if_pos e, if_pos e]
  · rw [if_neg e, if_neg e]; exact if_neg e
theorem sRow_self (h : Hp) (a : Nat) : sRow h a (hI h a) = h := by
  unfold sRow
  refine congrArg (fun z => (h.1, h.2.1, z, h.2.2.2)) (funext fun b => ?_)
  by_cases e : b = a
  · rw [if_pos e, e]; rfl
  · rw [if_neg e]
/-- the reference's object lies at m, its row of numbers behind it -/
def MdS (h : Hp) (m : Nat) : Prop := hs h m = (10, 21) ∧ hR h m 1 ≠ 0 ∧ hs h (m + 1) = (20, 359) ∧ hR h m 1 = m + 1
/-- the object's numbers are F, its row N -/
def st (h : Hp) (m : Nat) (F N : Nat → Int32) : Hp := sRow (sRow h (m + 1) N) m F
theorem st_F (h : Hp) (m : Nat) (F N : Nat → Int32) : hI (st h m F N) m = F := hI_sRow _ _ _
theorem st_N (h : Hp) (m : Nat) (F N : Nat → Int32) : hI (st h m F N) (m + 1) = N := (hI_sRow_ne (Nat.succ_ne_self m)).trans (hI_sRow _ _ _)
theorem st_o {h : Hp} {m b : Nat} {F N : Nat → Int32} (h1 : b ≠ m) (h2 : b ≠ m + 1) : hI (st h m F N) b = hI h b := (hI_sRow_ne h1).trans (hI_sRow_ne h2)
theorem sRow_comm (h : Hp) {a b : Nat} (ne : a ≠ b) (f g : Nat → Int32) : sRow (sRow h a f) b g = sRow (sRow h b g) a f := by
  unfold sRow
  refine congrArg (fun z => (h.1, h.2.1, z, h.2.2.2)) (funext fun c => ?_)
  dsimp only
  by_cases e : c = a
  · by_cases e2 : c = b
    · exact absurd (e.symm.trans e2) ne
    · rw [if_neg e2, if_pos e, if_pos e]
  · by_cases e2 : c = b
    · rw [if_pos e2, if_neg e, if_pos e2]
    · rw [if_neg e2, if_neg e, if_neg e, if_neg e2]
theorem st_self (h : Hp) (m : Nat) : st h m (hI h m) (hI h (m + 1)) = h := by unfold st; rw [sRow_self, sRow_self]
theorem st_sF (h : Hp) (m : Nat) (F F2 N : Nat → Int32) : sRow (st h m F N) m F2 = st h m F2 N := sRow_sRow _ _ _ _
theorem st_sN (h : Hp) (m : Nat) (F N N2 : Nat → Int32) : sRow (st h m F N) (m + 1) N2 = st h m F N2 := by
  unfold st
  rw [sRow_comm _ (Nat.ne_of_lt (Nat.lt_succ_self m)), sRow_sRow]
theorem st_sO {h : Hp} {m b : Nat} {F N f : Nat → Int32} (h1 : b ≠ m) (h2 : b ≠ m + 1) : sRow (st h m F N) b f = st (sRow h b f) m F N := by
  unfold st
  rw [sRow_comm _ (Ne.symm h1), sRow_comm h (Ne.symm h2)]
theorem g_st {h : Hp} {m : Nat} (hM : MdS h m) {F N : Nat → Int32} : hR (st h m F N) m 1 = m + 1 := hM.2.2.2
theorem fg_st {h : Hp} {m : Nat} (_ : MdS h m) {F N : Nat → Int32} {k : Nat} : hI (st h m F N) m k = F k := congrFun (st_F h m F N) k
theorem fp_st {h : Hp} {m : Nat} (_ : MdS h m) {F N : Nat → Int32} {k : Nat} {x : Int32} : wI (st h m F N) m k x = st h m (upd F k x) N := by rw [wI_row, st_F, st_sF]
theorem k20 {h : Hp} {m : Nat} (hM : MdS h m) {F N : Nat → Int32} : (hs (st h m F N) (m + 1)).1 = 20 := congrArg Prod.fst (show hs (st h m F N) (m + 1) = _ from hM.2.2.1)
theorem vin {h : Hp} {m : Nat} (hM : MdS h m) {F N : Nat → Int32} {x : Int32} {i : Nat} (e : x = nI i) (hi : i < 359) : vp_in x (hs (st h m F N) (m + 1)).2 := by
  rw [show hs (st h m F N) (m + 1) = (20, 359) from hM.2.2.1, e]
  exact vp_in_nI hi (by decide)
theorem ld_st {h : Hp} {m : Nat} (_ : MdS h m) {F N : Nat → Int32} {x : Int32} {i : Nat} (e : x = nI i) (hi : i < 359) : hI (st h m F N) (m + 1) x.toNatClampNeg = N i := by
  rw [e, nI_clamp (by omega), st_N]
theorem sd_st {h : Hp} {m : Nat} (_ : MdS h m) {F N : Nat → Int32} {x v : Int32} {i : Nat} (e : x = nI i) (hi : i < 359) : wI (st h m F N) (m + 1) x.toNatClampNeg v = st h m F (upd N i v) := by
  rw [e, nI_clamp (by omega), wI_row, st_N, st_sN]
def lss (a b : Int32) : Int32 := if a < b then a else b
theorem ix3 (a b i w : Nat) : nI a + nI i * nI b + nI w = nI (a + i * b + w) := by rw [pk_mul, nI_add, nI_add]
theorem ix2 (a b i : Nat) : nI a + nI i * nI b = nI (a + i * b) := by rw [pk_mul, nI_add]
theorem ix_p (i w : Nat) : (7 : Int32) + nI i * 23 + nI w = nI (7 + i * 23 + w) := ix3 7 23 i w
theorem ix_w (i w : Nat) : (227 : Int32) + nI i * 5 + nI w = nI (227 + i * 5 + w) := ix3 227 5 i w
theorem ix_u (b i w : Nat) : nI b + nI i * 3 + nI w = nI (b + i * 3 + w) := ix3 b 3 i w
theorem ix_k (i : Nat) : (191 : Int32) + nI i * 9 = nI (191 + i * 9) := ix2 191 9 i
theorem c_isBetween {l : Launch} (hst : l.stackTraces = false) {Q : Option Value → Hp → Prop} {X : String → Hp → Prop} {h : Hp} {v a b : Int32} (q : Q (some (.int (if a ≤ v ∧ v ≤ b then 1 else 0))) h) : CX9_isBetween l [.int v, .int a, .int b] h Q X := by
  refine eX9_isBetween hst (Nat.le_of_ble_eq_true rfl) (fun K => ?_)
  refine And.intro (fun hc => ?_) (fun hc => ?_)
  · refine And.intro (by first | assumption | rfl | exact Nat.le_of_ble_eq_true rfl | exact Nat.zero_le _ | decide) ?_; refine And.intro (by first | assumption | rfl | exact Nat.le_of_ble_eq_true rfl | exact Nat.zero_le _ | decide) ?_; refine And.intro (by first | assumption | rfl | exact Nat.le_of_ble_eq_true rfl | exact Nat.zero_le _ | decide) ?_
    rw [if_neg (fun z => absurd hc (Int32.not_lt.mpr z.1))] at q
    exact q
  · refine And.intro (fun hd => ?_) (fun hd => ?_)
    · refine And.intro (by first | assumption | rfl | exact Nat.le_of_ble_eq_true rfl | exact Nat.zero_le _ | decide) ?_; refine And.intro (by first | assumption | rfl | exact Nat.le_of_ble_eq_true rfl | exact Nat.zero_le _ | decide) ?_; refine And.intro (by first | assumption | rfl | exact Nat.le_of_ble_eq_true rfl | exact Nat.zero_le _ | decide) ?_
      rw [if_neg (fun z => absurd hd (Int32.not_lt.mpr z.2))] at q
      exact q
    · refine And.intro (by first | assumption | rfl | exact Nat.le_of_ble_eq_true rfl | exact Nat.zero_le _ | decide) ?_; refine And.intro (by first | assumption | rfl | exact Nat.le_of_ble_eq_true rfl | exact Nat.zero_le _ | decide) ?_
      refine And.intro (Or.inr rfl) ?_
      rw [if_pos ⟨Int32.not_lt.mp hc, Int32.not_lt.mp hd⟩] at q
      exact q
theorem c_lesser {l : Launch} (hst : l.stackTraces = false) {Q : Option Value → Hp → Prop} {X : String → Hp → Prop} {h : Hp} {a b : Int32} (q : Q (some (.int (lss a b))) h) : CX9_lesser l [.int a, .int b] h Q X := by
  refine eX9_lesser hst (Nat.le_of_ble_eq_true rfl) (fun K => ?_)
  unfold lss at q
  refine And.intro (fun hc => ?_) (fun hc => ?_)
  · refine And.intro (by first | assumption | rfl | exact Nat.le_of_ble_eq_true rfl | exact Nat.zero_le _ | decide) ?_; refine And.intro (by first | assumption | rfl | exact Nat.le_of_ble_eq_true rfl | exact Nat.zero_le _ | decide) ?_
    rw [if_neg (fun z => absurd hc (Int32.not_le.mpr z))] at q
    exact q
  · refine And.intro (by first | assumption | rfl | exact Nat.le_of_ble_eq_true rfl | exact Nat.zero_le _ | decide) ?_; refine And.intro (by first | assumption | rfl | exact Nat.le_of_ble_eq_true rfl | exact Nat.zero_le _ | decide) ?_
    rw [if_pos (Int32.not_le.mp hc)] at q
    exact q
theorem c_of {l : Launch} (hst : l.stackTraces = false) {Q : Option Value → Hp → Prop} {X : String → Hp → Prop} {h : Hp} {m : Nat} {F N : Nat → Int32} (hM : MdS h m) {P W : Int32} (p w : Nat) (hp : P = nI p) (hw : W = nI w) (hb : 7 + p * 23 + w < 359) (q : Q (some (.int (N (7 + p * 23 + w)))) (st h m F N)) : CX9_of l [.ref m, .int P, .int W] (st h m F N) Q X := by
  subst hp; subst hw
  refine eX9_of hst (Nat.le_of_ble_eq_true rfl) (fun K => ?_)
  repeat (first | (refine And.intro hM.1 (And.intro hM.2.1 ?_); rw [g_st hM]) | (refine And.intro hM.1 ?_; rw [fp_st hM]) | (refine And.intro hM.1 ?_; rw [fg_st hM]) | refine And.intro (by first | exact hM.1 | assumption | rfl | exact Nat.le_of_ble_eq_true rfl | exact Nat.zero_le _ | decide) ?_)
  refine And.intro (k20 hM) (And.intro (vin hM (i := 7 + p * 23 + w) (ix_p p w) hb) ?_); rw [ld_st hM (i := 7 + p * 23 + w) (ix_p p w) hb]
  repeat (first | (refine And.intro hM.1 (And.intro hM.2.1 ?_); rw [g_st hM]) | (refine And.intro hM.1 ?_; rw [fp_st hM]) | (refine And.intro hM.1 ?_; rw [fg_st hM]) | refine And.intro (by first | exact hM.1 | assumption | rfl | exact Nat.le_of_ble_eq_true rfl | exact Nat.zero_le _ | decide) ?_)
  exact q
theorem c_set {l : Launch} (hst : l.stackTraces = false) {Q : Option Value → Hp → Prop} {X : String → Hp → Prop} {h : Hp} {m : Nat} {F N : Nat → Int32} (hM : MdS h m) {P W v : Int32} (p w : Nat) (hp : P = nI p) (hw : W = nI w) (hb : 7 + p * 23 + w < 359) (q : Q none (st h m F (upd N (7 + p * 23 + w) v))) : CX9_set l [.ref m, .int P, .int W, .int v] (st h m F N) Q X := by
  subst hp; subst hw
  refine eX9_set hst (Nat.le_of_ble_eq_true rfl) (fun K => ?_)
  repeat (first | (refine And.intro hM.1 (And.intro hM.2.1 ?_); rw [g_st hM]) | (refine And.intro hM.1 ?_; rw [fp_st hM]) | (refine And.intro hM.1 ?_; rw [fg_st hM]) | refine And.intro (by first | exact hM.1 | assumption | rfl | exact Nat.le_of_ble_eq_true rfl | exact Nat.zero_le _ | decide) ?_)
  refine And.intro (k20 hM) (And.intro (vin hM (i := 7 + p * 23 + w) (ix_p p w) hb) ?_); rw [sd_st hM (i := 7 + p * 23 + w) (ix_p p w) hb]
  repeat (first | (refine And.intro hM.1 (And.intro hM.2.1 ?_); rw [g_st hM]) | (refine And.intro hM.1 ?_; rw [fp_st hM]) | (refine And.intro hM.1 ?_; rw [fg_st hM]) | refine And.intro (by first | exact hM.1 | assumption | rfl | exact Nat.le_of_ble_eq_true rfl | exact Nat.zero_le _ | decide) ?_)
  exact q
theorem c_increase {l : Launch} (hst : l.stackTraces = false) {Q : Option Value → Hp → Prop} {X : String → Hp → Prop} {h : Hp} {m : Nat} {F N : Nat → Int32} (hM : MdS h m) {P W v : Int32} (p w : Nat) (hp : P = nI p) (hw : W = nI w) (hb : 7 + p * 23 + w < 359) (q : Q none (st h m F (upd N (7 + p * 23 + w) (N (7 + p * 23 + w) + v)))) : CX9_increase l [.ref m, .int P, .int W, .int v] (st h m F N) Q X := by
  subst hp; subst hw
  refine eX9_increase hst (Nat.le_of_ble_eq_true rfl) (fun K => ?_)
  repeat (first | (refine And.intro hM.1 (And.intro hM.2.1 ?_); rw [g_st hM]) | (refine And.intro hM.1 ?_; rw [fp_st hM]) | (refine And.intro hM.1 ?_; rw [fg_st hM]) | refine And.intro (by first | exact hM.1 | assumption | rfl | exact Nat.le_of_ble_eq_true rfl | exact Nat.zero_le _ | decide) ?_)
  refine And.intro (k20 hM) (And.intro (vin hM (i := 7 + p * 23 + w) (ix_p p w) hb) ?_); rw [ld_st hM (i := 7 + p * 23 + w) (ix_p p w) hb]
  refine And.intro (k20 hM) (And.intro (vin hM (i := 7 + p * 23 + w) (ix_p p w) hb) ?_); rw [sd_st hM (i := 7 + p * 23 + w) (ix_p p w) hb]
  repeat (first | (refine And.intro hM.1 (And.intro hM.2.1 ?_); rw [g_st hM]) | (refine And.intro hM.1 ?_; rw [fp_st hM]) | (refine And.intro hM.1 ?_; rw [fg_st hM]) | refine And.intro (by first | exact hM.1 | assumption | rfl | exact Nat.le_of_ble_eq_true rfl | exact Nat.zero_le _ | decide) ?_)
  exact q
def r_issue (N : Nat → Int32) (p : Nat) (w : Int32) : Nat → Int32 :=
  let x := lss (N (7 + p * 23 + 0)) w
  let N1 := upd N (7 + p * 23 + 0) (N (7 + p * 23 + 0) + -x)
  upd N1 (7 + p * 23 + 20) (N1 (7 + p * 23 + 20) + x)
theorem c_issue {l : Launch} (hst : l.stackTraces = false) {Q : Option Value → Hp → Prop} {X : String → Hp → Prop} {h : Hp} {m : Nat} {F N : Nat → Int32} (hM : MdS h m) {P w : Int32} (p : Nat) (hp : P = nI p) (hb : p < 8) (q : Q (some (.int (lss (N (7 + p * 23 + 0)) w))) (st h m F (r_issue N p w))) : CX9_issue l [.ref m, .int P, .int w] (st h m F N) Q X := by
  refine eX9_issue hst (Nat.le_of_ble_eq_true rfl) (fun K => ?_)
  repeat (first | (refine And.intro hM.1 (And.intro hM.2.1 ?_); rw [g_st hM]) | (refine And.intro hM.1 ?_; rw [fp_st hM]) | (refine And.intro hM.1 ?_; rw [fg_st hM]) | refine And.intro (by first | exact hM.1 | assumption | rfl | exact Nat.le_of_ble_eq_true rfl | exact Nat.zero_le _ | decide) ?_)
  refine c_of hst hM p 0 hp rfl (by omega) ?_
  repeat (first | (refine And.intro hM.1 (And.intro hM.2.1 ?_); rw [g_st hM]) | (refine And.intro hM.1 ?_; rw [fp_st hM]) | (refine And.intro hM.1 ?_; rw [fg_st hM]) | refine And.intro (by first | exact hM.1 | assumption | rfl | exact Nat.le_of_ble_eq_true rfl | exact Nat.zero_le _ | decide) ?_)
  refine c_lesser hst ?_
  repeat (first | (refine And.intro hM.1 (And.intro hM.2.1 ?_); rw [g_st hM]) | (refine And.intro hM.1 ?_; rw [fp_st hM]) | (refine And.intro hM.1 ?_; rw [fg_st hM]) | refine And.intro (by first | exact hM.1 | assumption | rfl | exact Nat.le_of_ble_eq_true rfl | exact Nat.zero_le _ | decide) ?_)
  refine c_increase hst hM p 0 hp rfl (by omega) ?_
  repeat (first | (refine And.intro hM.1 (And.intro hM.2.1 ?_); rw [g_st hM]) | (refine And.intro hM.1 ?_; rw [fp_st hM]) | (refine And.intro hM.1 ?_; rw [fg_st hM]) | refine And.intro (by first | exact hM.1 | assumption | rfl | exact Nat.le_of_ble_eq_true rfl | exact Nat.zero_le _ | decide) ?_)
  refine c_increase hst hM p 20 hp rfl (by omega) ?_
  repeat (first | (refine And.intro hM.1 (And.intro hM.2.1 ?_); rw [g_st hM]) | (refine And.intro hM.1 ?_; rw [fp_st hM]) | (refine And.intro hM.1 ?_; rw [fg_st hM]) | refine And.intro (by first | exact hM.1 | assumption | rfl | exact Nat.le_of_ble_eq_true rfl | exact Nat.zero_le _ | decide) ?_)
  exact q
/-- what n substitutes serve of w, and the row then -/
def r_subs (p : Nat) : Nat → (Nat → Int32) → Int32 → Int32 × (Nat → Int32)
  | 0, N, w => (w, N)
  | n + 1, N, w => let r := r_subs p n N w; (r.1 - lss (r.2 (7 + (r.2 (7 + p * 23 + (9 + n))).toNatClampNeg * 23 + 0)) r.1, r_issue r.2 (r.2 (7 + p * 23 + (9 + n))).toNatClampNeg r.1)
/-- a quantity served: what is missing, and the row then -/
def r_serve (N : Nat → Int32) (p : Nat) (w : Int32) : Int32 × (Nat → Int32) := r_subs p (N (7 + p * 23 + 8)).toNatClampNeg (r_issue N p w) (w - lss (N (7 + p * 23 + 0)) w)
/-- issuing changes two numbers of a part alone -/
theorem r_issue_o {N : Nat → Int32} {p : Nat} {w : Int32} {j : Nat} (h1 : j ≠ 7 + p * 23 + 0) (h2 : j ≠ 7 + p * 23 + 20) : r_issue N p w j = N j := by
  unfold r_issue
  show upd _ _ _ j = N j
  rw [pk_un h2, pk_un h1]
/-- substitutes are parts that there are -/
def subOk (N : Nat → Int32) (p : Nat) : Prop := ∃ c : Nat, c ≤ 4 ∧ N (7 + p * 23 + 8) = nI c ∧ ∀ k, k < c → ∃ s : Nat, s < 8 ∧ N (7 + p * 23 + (9 + k)) = nI s
theorem r_subs_o {p : Nat} : ∀ (n : Nat) {N : Nat → Int32} {w : Int32} {j : Nat}, (∀ q, j ≠ 7 + q * 23 + 0) → (∀ q, j ≠ 7 + q * 23 + 20) → (r_subs p n N w).2 j = N j
  | 0, _, _, _, _, _ => rfl
  | n + 1, N, w, j, h1, h2 => by
    show r_issue _ _ _ j = N j
    rw [r_issue_o (h1 _) (h2 _), r_subs_o n h1 h2]
theorem c_serve {l : Launch} (hst : l.stackTraces = false) {Q : Option Value → Hp → Prop} {X : String → Hp → Prop} {h : Hp} {m : Nat} {F N : Nat → Int32} (hM : MdS h m) {P w : Int32} (p : Nat) (hp : P = nI p) (hb : p < 8) (hs : subOk N p) (q : Q (some (.int (r_serve N p w).1)) (st h m F (r_serve N p w).2)) : CX9_serve l [.ref m, .int P, .int w] (st h m F N) Q X := by
  subst hp
  obtain ⟨c, hc4, hc, hsub⟩ := hs
  refine eX9_serve hst (Nat.le_of_ble_eq_true rfl) (fun K hK => ?_)
  repeat (first | (refine And.intro hM.1 (And.intro hM.2.1 ?_); rw [g_st hM]) | (refine And.intro hM.1 ?_; rw [fp_st hM]) | (refine And.intro hM.1 ?_; rw [fg_st hM]) | refine And.intro (by first | exact hM.1 | assumption | rfl | exact Nat.le_of_ble_eq_true rfl | exact Nat.zero_le _ | decide) ?_)
  refine c_issue hst hM p rfl hb ?_
  repeat (first | (refine And.intro hM.1 (And.intro hM.2.1 ?_); rw [g_st hM]) | (refine And.intro hM.1 ?_; rw [fp_st hM]) | (refine And.intro hM.1 ?_; rw [fg_st hM]) | refine And.intro (by first | exact hM.1 | assumption | rfl | exact Nat.le_of_ble_eq_true rfl | exact Nat.zero_le _ | decide) ?_)
  have hk : ∀ (n i : Nat) (r : Int32 × (Nat → Int32)), i + n = c → r = r_subs p i (r_issue N p w) (w - lss (N (7 + p * 23 + 0)) w) → K 12 [(4, .int (nI i)), (3, .int r.1), (0, .ref m), (1, .int (nI p)), (2, .int w)] [] (st h m F r.2) (0, 0) := by
    intro n
    induction n with
    | zero =>
      intro i r hi hr
      have e8 : r.2 (7 + p * 23 + 8) = nI c := by
        rw [hr, r_subs_o i (by omega) (by omega), r_issue_o (by omega) (by omega), hc]
      refine hK _ _ _ _ ?_
      repeat (first | (refine And.intro hM.1 (And.intro hM.2.1 ?_); rw [g_st hM]) | (refine And.intro hM.1 ?_; rw [fp_st hM]) | (refine And.intro hM.1 ?_; rw [fg_st hM]) | refine And.intro (by first | exact hM.1 | assumption | rfl | exact Nat.le_of_ble_eq_true rfl | exact Nat.zero_le _ | decide) ?_)
      refine c_of hst hM p 8 rfl rfl (by omega) ?_
      rw [e8]
      refine And.intro (fun hcc => ?_) (fun hcc => ?_)
      · repeat (first | (refine And.intro hM.1 (And.intro hM.2.1 ?_); rw [g_st hM]) | (refine And.intro hM.1 ?_; rw [fp_st hM]) | (refine And.intro hM.1 ?_; rw [fg_st hM]) | refine And.intro (by first | exact hM.1 | assumption | rfl | exact Nat.le_of_ble_eq_true rfl | exact Nat.zero_le _ | decide) ?_)
        unfold r_serve at q
        rw [hc, nI_clamp (by omega), show c = i by omega, ← hr] at q
        exact q
      · exact absurd (nI_le (by omega) (by omega)) hcc
    | succ n ih =>
      intro i r hi hr
      have e8 : r.2 (7 + p * 23 + 8) = nI c := by
        rw [hr, r_subs_o i (by omega) (by omega), r_issue_o (by omega) (by omega), hc]
      obtain ⟨s, hs8, hse⟩ := hsub i (by omega)
      have es : r.2 (7 + p * 23 + (9 + i)) = nI s := by
        rw [hr, r_subs_o i (by omega) (by omega), r_issue_o (by omega) (by omega), hse]
      refine hK _ _ _ _ ?_
      repeat (first | (refine And.intro hM.1 (And.intro hM.2.1 ?_); rw [g_st hM]) | (refine And.intro hM.1 ?_; rw [fp_st hM]) | (refine And.intro hM.1 ?_; rw [fg_st hM]) | refine And.intro (by first | exact hM.1 | assumption | rfl | exact Nat.le_of_ble_eq_true rfl | exact Nat.zero_le _ | decide) ?_)
      refine c_of hst hM p 8 rfl rfl (by omega) ?_
      rw [e8]
      refine And.intro (fun hcc => ?_) (fun hcc => ?_)
      · exact absurd hcc (nI_ge (by omega) (by omega))
      · repeat (first | (refine And.intro hM.1 (And.intro hM.2.1 ?_); rw [g_st hM]) | (refine And.intro hM.1 ?_; rw [fp_st hM]) | (refine And.intro hM.1 ?_; rw [fg_st hM]) | refine And.intro (by first | exact hM.1 | assumption | rfl | exact Nat.le_of_ble_eq_true rfl | exact Nat.zero_le _ | decide) ?_)
        refine c_of hst hM p (9 + i) rfl (nI_add 9 i) (by omega) ?_
        rw [es]
        repeat (first | (refine And.intro hM.1 (And.intro hM.2.1 ?_); rw [g_st hM]) | (refine And.intro hM.1 ?_; rw [fp_st hM]) | (refine And.intro hM.1 ?_; rw [fg_st hM]) | refine And.intro (by first | exact hM.1 | assumption | rfl | exact Nat.le_of_ble_eq_true rfl | exact Nat.zero_le _ | decide) ?_)
        refine c_issue hst hM s rfl hs8 ?_
        repeat (first | (refine And.intro hM.1 (And.intro hM.2.1 ?_); rw [g_st hM]) | (refine And.intro hM.1 ?_; rw [fp_st hM]) | (refine And.intro hM.1 ?_; rw [fg_st hM]) | refine And.intro (by first | exact hM.1 | assumption | rfl | exact Nat.le_of_ble_eq_true rfl | exact Nat.zero_le _ | decide) ?_)
        have := ih (i + 1) (r.1 - lss (r.2 (7 + s * 23 + 0)) r.1, r_issue r.2 s r.1) (by omega) (by
          show _ = (_, _)
          rw [← hr, es, nI_clamp (by omega)])
        rw [← nI_1 i] at this
        exact this
  exact hk c 0 (_, _) (by omega) rfl
end M1

section H5
abbrev rqB (N : Nat → Int32) (p : Nat) (q : Int32) : Prop := s_av N p (N (7 + p * 23 + 8)).toNatClampNeg < q ∧ N 2 = 12
/-- what an entry makes of the world -/
def en (M : Nat → Int32) (e : Ent) : Option (Nat → Int32) :=
  if e.k = 100 then some (r_days e.a M).1
  else if e.k = 107 then (if nI e.a < M 1 then (if (kt M e.a).2.1 = true then some (kt M e.a).1 else none) else none)
  else if nI e.a < M 0 then
    (if e.k = 114 then (if rqB M e.a (nI e.b) then none else some (r_req M e.a (nI e.b) (M 2).toNatClampNeg))
    else if e.k = 115 then (if M (7 + e.a * 23 + 1) < nI e.b then none else if M 3 < 12 then some (r_send M e.a (nI e.b) (M 3).toNatClampNeg) else none)
    else if e.k = 103 then some (r_swA (r_bkG M e.a (nI e.b))).1 else some (r_bkB M e.a (nI e.b)))
  else none
/-- the reason that a refused entry leaves -/
def enF (M : Nat → Int32) (e : Ent) (F : Nat → Int32) : Nat → Int32 :=
  if e.k = 107 then (if nI e.a < M 1 then upd (upd (upd F 7 3) 8 (kt M e.a).2.2.2.1) 9 (kt M e.a).2.2.2.2 else F)
  else if nI e.a < M 0 then (if e.k = 114 then upd F 7 1 else if M (7 + e.a * 23 + 1) < nI e.b then upd F 7 2 else upd F 7 1)
  else F
def EnOk (e : Ent) : Prop := (e.k = 107 ∨ e.k = 100 ∨ (isL e.k ∧ 1 ≤ e.b)) ∧ e.a ≤ 9 ∧ e.b ≤ 999 ∧ (isL e.k → e.a ≤ 7)
theorem pend_en {tx : Nat → Int32} {n p : Nat} {e e' : Ent} {p' : Nat} (h : pend tx n p e = .inl (e', p')) : e' = e := by
  unfold pend at h
  split at h
  · cases h; rfl
  · cases h
theorem pe_en {tx : Nat → Int32} {n p p' : Nat} {e : Ent} (h : pe tx n p = .inl (e, p')) : EnOk e := by
  unfold pe at h
  split at h
  · split at h
    · rename_i z
      rw [pend_en h]
      have d := dg_le z (by decide) (by decide)
      exact ⟨Or.inl rfl, d.2, Nat.zero_le _, fun y => absurd y (show ¬ isL (107 : Int32) by decide)⟩
    · cases h
  · split at h
    · split at h
      · rename_i z
        rw [pend_en h]
        have d := dg_le z (by decide) (by decide)
        exact ⟨Or.inr (Or.inl rfl), d.2, Nat.zero_le _, fun y => absurd y (show ¬ isL (100 : Int32) by decide)⟩
      · cases h
    · split at h
      · rename_i hl
        split at h
        · rename_i z
          have d7 := dg_le7 z
          split at h
          · unfold pqty at h
            split at h
            · rename_i z1
              have d1 := dg_pos z1
              have b1 := (dg_le z1 (by decide) (by decide)).2
              split at h
              · rename_i z2
                have b2 := (dg_le z2 (by decide) (by decide)).2
                split at h
                · rename_i z3
                  have b3 := (dg_le z3 (by decide) (by decide)).2
                  rw [pend_en h]
                  exact ⟨Or.inr (Or.inr ⟨hl, by show 1 ≤ 10 * (10 * _ + _) + _; omega⟩), Nat.le_trans d7 (by decide), by show 10 * (10 * _ + _) + _ ≤ 999; omega, fun _ => d7⟩
                · rw [pend_en h]
                  exact ⟨Or.inr (Or.inr ⟨hl, by show 1 ≤ 10 * _ + _; omega⟩), Nat.le_trans d7 (by decide), by show 10 * _ + _ ≤ 999; omega, fun _ => d7⟩
              · rw [pend_en h]
                exact ⟨Or.inr (Or.inr ⟨hl, d1⟩), Nat.le_trans d7 (by decide), Nat.le_trans b1 (by decide), fun _ => d7⟩
            · cases h
          · cases h
        · cases h
      · cases h
theorem pg_en {tx : Nat → Int32} {n : Nat} : ∀ (f p : Nat) (es : List Ent), pg tx n f p = .inl es → ∀ e ∈ es, EnOk e
  | 0, p, es, h => nomatch h
  | f + 1, p, es, h => by
    have eq : pg tx n (f + 1) p = match pe tx n p with | .inr j => .inr j | .inl (e, p') => if p' < n then (match pg tx n f p' with | .inl es => .inl (e :: es) | .inr j => .inr j) else .inl [e] := rfl
    rw [eq] at h
    cases hp : pe tx n p with
    | inr j => rw [hp] at h; cases h
    | inl r =>
      obtain ⟨e, p'⟩ := r
      rw [hp] at h
      dsimp only at h
      have he := pe_en hp
      split at h
      · cases hr : pg tx n f p' with
        | inr j => rw [hr] at h; cases h
        | inl es' =>
          rw [hr] at h
          cases h
          intro e9 h9
          rcases List.mem_cons.mp h9 with rfl | h9
          · exact he
          · exact pg_en f p' es' hr e9 h9
      · cases h
        intro e9 h9
        rcases List.mem_cons.mp h9 with rfl | h9
        · exact he
        · cases h9
/-- all that a text says, or where it is wrong -/
def rd (tx : Nat → Int32) (n : Nat) : Sum (List Ent) Nat := pg tx n 61 0
/-- the entries tried one after another -/
def run : List Ent → (Nat → Int32) → Sum (Nat → Int32) (Nat × (Nat → Int32) × Ent)
  | [], M => .inl M
  | e :: es, M => match en M e with
    | none => .inr (0, M, e)
    | some M' => match run es M' with
      | .inl M'' => .inl M''
      | .inr (i, Mi, ei) => .inr (i + 1, Mi, ei)
def erI : Option Nat → Int32
  | none => -1
  | some j => nI j
theorem d_parse {l : Launch} (hst : l.stackTraces = false) {Q : Option Value → Hp → Prop} {X : String → Hp → Prop} {H : Hp} {x : Nat} {N F : Nat → Int32} {hi : Nat → Nat → Int32} {sv : Nat → Int32} {sm : Nat → Nat → Int32} {hd tx : Nat → Int32} {B : Int} (C : CR H x N F hi sv sm hd tx B) {n : Nat} (hn : F 16 = nI n) (n60 : n ≤ 60) (q : ∀ H' E0, E0.n = 0 → NtR H' x (au tx n n 0 0 E0).2 → Fp x H H' → Q (some (.int (erI (au tx n n 0 0 E0).1))) H') : CX5_parseToError l [.ref (x + 242)] H Q X := by
  obtain ⟨n', n1, n2, n3, n4⟩ := id C.2.2.2.2.2.1
  have : n' = n := (nI_eq (by omega) (by omega)).mp (n2.symm.trans hn)
  subst this
  obtain ⟨x0, -, -, -, -, -, ⟨-, r0⟩, ⟨r7, r8⟩, ⟨r1, r2⟩, ⟨r3, r4⟩, ⟨r5, r6⟩, -, -⟩ := id C.1
  refine eX5_parseToError hst (Nat.le_of_ble_eq_true rfl) (fun K hK => ?_)
  refine pI_of r0 ?_
  have R1 : NtR (wI H (x + 242) 5 0) x ⟨0, hI H (x + 244), hI H (x + 245), hI H (x + 246)⟩ := ⟨r0, ⟨r1, r2⟩, ⟨r3, r4⟩, ⟨r5, r6⟩, x0, Nat.zero_le _, hI_wI_s, fun i => by rw [hI_wI_o (by omega)], fun i => by rw [hI_wI_o (by omega)], fun i => by rw [hI_wI_o (by omega)]⟩
  generalize hE0 : (⟨0, hI H (x + 244), hI H (x + 245), hI H (x + 246)⟩ : Note) = E0 at R1
  have hE00 : Note.n E0 = 0 := by rw [← hE0]
  have q' := fun H' => q H' E0 hE00
  have loop : ∀ (f s p : Nat) (E : Note) (H2 : Hp), p + f = n' → s ≤ 8 → NtR H2 x E → Fp x H H2 → au tx n' f s p E = au tx n' n' 0 0 E0 → K 9 [(2, .int (nI p)), (1, .int (nI s)), (0, .ref (x + 242))] [] H2 (0, 0) ∧ ∀ z, K 9 [(2, .int (nI p)), (1, .int (nI s)), (3, .int z), (0, .ref (x + 242))] [] H2 (0, 0) := by
    intro f
    induction f with
    | zero =>
      intro s p E H2 hp hs8 R F2 ea
      have : p = n' := by omega
      subst this
      have len : hI H2 (x + 242) 1 = nI p := by rw [F2.2.2.2.2 _ _ (by omega) (by omega)]; exact n3
      have e0 : au tx p 0 s p E = (if 0 < p ∧ s = 0 then none else some p, E) := rfl
      rw [e0] at ea
      have q2 := q' H2
      rw [← ea] at q2
      have q3 := q2 R F2
      constructor
      rotate_left
      intro z
      all_goals
        refine hK _ _ _ _ ?_
        refine gI_of R.1 len ?_
        refine And.intro (fun hc => ?_) (fun hc => ?_)
        · refine gI_of R.1 len ?_
          refine And.intro (fun hz => ?_) (fun hz => ?_)
          · have p0 : p = 0 := (nI_leI (by omega) (by decide)).mp (show nI p ≤ nI 0 from hz) |> Nat.le_zero.mp
            refine gI_of R.1 len ?_
            repeat (refine And.intro (by first | assumption | rfl | exact Nat.le_of_ble_eq_true rfl | exact Nat.zero_le _ | decide) ?_)
            rw [if_neg (by omega)] at q3
            exact q3
          · have p0 : 0 < p := by
              have : p ≠ 0 := fun y => hz (by rw [y]; exact Int32.le_refl _)
              omega
            refine And.intro (fun hs => ?_) (fun hs => ?_)
            · refine gI_of R.1 len ?_
              repeat (refine And.intro (by first | assumption | rfl | exact Nat.le_of_ble_eq_true rfl | exact Nat.zero_le _ | decide) ?_)
              rw [if_neg (fun y => hs (by rw [y.2]; rfl))] at q3
              exact q3
            · repeat (refine And.intro (by first | assumption | rfl | exact Nat.le_of_ble_eq_true rfl | exact Nat.zero_le _ | decide) ?_)
              have s0 : s = 0 := (nI_eq (by omega) (by decide)).mp (show nI s = nI 0 from hs)
              rw [if_pos ⟨p0, s0⟩] at q3
              exact q3
        · exact absurd (show nI p ≤ nI p from Int32.le_refl _) hc
    | succ f ih =>
      intro s p E H2 hp hs8 R F2 ea
      have hl : p < n' := by omega
      have len : hI H2 (x + 242) 1 = nI n' := by rw [F2.2.2.2.2 _ _ (by omega) (by omega)]; exact n3
      have ch : hI H2 (x + 243) p = tx p := by rw [F2.2.2.2.2 _ _ (by omega) (by omega)]; exact (n4 p hl).1
      have rr : hR H2 = hR H := F2.2.2.2.1
      have ss : hs H2 = hs H := F2.1
      have e0 : au tx n' (f + 1) s p E = match nx s (tx p) with | none => (some p, E) | some s' => au tx n' f s' (p + 1) (nt s (tx p) E) := rfl
      rw [e0] at ea
      constructor
      rotate_left
      intro z
      all_goals
        refine hK _ _ _ _ ?_
        refine gI_of R.1 len ?_
        refine And.intro (fun hc => ?_) (fun hc => ?_)
        · exact absurd (show nI n' ≤ nI p from hc) (nI_ge hl (by omega))
        · refine gR_of R.1 (show hR H2 (x + 242) 0 = x + 243 by rw [rr]; exact r7) (by omega) ?_
          refine ca_of (by rw [ss]; exact r8) rfl (show p < 60 by omega) (by decide) ch ?_
          repeat (refine And.intro (by first | assumption | rfl | exact Nat.le_of_ble_eq_true rfl | exact Nat.zero_le _ | decide) ?_)
          refine d_nextAfter hst hs8 ?_
          cases hx : nx s (tx p) with
          | none =>
            rw [hx] at ea
            refine And.intro (fun y => absurd rfl y) (fun _ => ?_)
            repeat (refine And.intro (by first | assumption | rfl | exact Nat.le_of_ble_eq_true rfl | exact Nat.zero_le _ | decide) ?_)
            have q2 := q' H2
            rw [← ea] at q2
            exact q2 R F2
          | some s' =>
            rw [hx] at ea
            have s8 := nx_le hx
            refine And.intro (fun _ => ?_) (fun y => absurd y ((show ∀ s : Fin 9, ¬ nI s.val = -1 by decide) ⟨s', by omega⟩))
            refine gR_of R.1 (show hR H2 (x + 242) 0 = x + 243 by rw [rr]; exact r7) (by omega) ?_
            refine ca_of (by rw [ss]; exact r8) rfl (show p < 60 by omega) (by decide) ch ?_
            (repeat (refine And.intro (by first | assumption | rfl | exact Nat.le_of_ble_eq_true rfl | exact Nat.zero_le _ | decide) ?_)); refine And.intro (R.1) ?_; (repeat (refine And.intro (by first | assumption | rfl | exact Nat.le_of_ble_eq_true rfl | exact Nat.zero_le _ | decide) ?_))
            refine d_note hst R hs8 (fun H3 R3 F3 => ?_)
            have := (ih s' (p + 1) _ H3 (by omega) s8 R3 (F2.trans F3) ea).2 (nI s')
            rw [← nI_1 p] at this
            exact this
  exact (loop n' 0 0 E0 _ (by omega) (by decide) R1 Fp.n5 rfl).1
theorem CR.ler {H : Hp} {x : Nat} {N F : Nat → Int32} {hi : Nat → Nat → Int32} {sv : Nat → Int32} {sm : Nat → Nat → Int32} {hd tx : Nat → Int32} {B : Int} (C : CR H x N F hi sv sm hd tx B) (v : Int32) (hv : v = -1 ∨ 0 ≤ v) : CR (wI H x 8 v) x N (upd F 18 v) hi sv sm hd tx B := by
  obtain ⟨i1, i2, i3, i4, i5, i6, i7⟩ := C.2.2.2.2.1
  refine C.fld ⟨pk_un (by decide), pk_un (by decide), pk_un (by decide)⟩ (by decide) ?_
  unfold XI
  rw [hI_wI_s, hI_wI_k (by decide), hI_wI_k (by decide), hI_wI_k (by decide), hI_wI_k (by decide), pk_us, pk_un (by decide), pk_un (by decide), pk_un (by decide), pk_un (by decide)]
  exact ⟨rfl, i2, i3, i4, i5, hv, i7⟩
theorem CR.lrf {H : Hp} {x : Nat} {N F : Nat → Int32} {hi : Nat → Nat → Int32} {sv : Nat → Int32} {sm : Nat → Nat → Int32} {hd tx : Nat → Int32} {B : Int} (C : CR H x N F hi sv sm hd tx B) (v : Int32) (hv : v = -1 ∨ 0 ≤ v) : CR (wI H x 9 v) x N (upd F 19 v) hi sv sm hd tx B := by
  obtain ⟨i1, i2, i3, i4, i5, i6, i7⟩ := C.2.2.2.2.1
  refine C.fld ⟨pk_un (by decide), pk_un (by decide), pk_un (by decide)⟩ (by decide) ?_
  unfold XI
  rw [hI_wI_s, hI_wI_k (by decide), hI_wI_k (by decide), hI_wI_k (by decide), hI_wI_k (by decide), pk_us, pk_un (by decide), pk_un (by decide), pk_un (by decide), pk_un (by decide)]
  exact ⟨i1, rfl, i3, i4, i5, i6, hv⟩
theorem av_full {N : Nat → Int32} {c0 c1 c2 c3 c4 p : Nat} {v : Int32} {B : Int} (g : GI N c0 c1 c2 c3 c4 B) (p1 : p < c0) (hv : 0 ≤ v.toInt) (hb : ¬ s_reqBad N p v) : c2 < 12 ∨ (r_serve N p v).1 ≤ 0 := by
  obtain ⟨a1, a2⟩ := (g.ki).av g.wf p1 (v := v) hv
  by_cases z : s_av N p (N (7 + p * 23 + 8)).toNatClampNeg < v
  · refine Or.inl (Classical.byContradiction fun y => hb ⟨z, ?_⟩)
    have k2 := g.wf.2.2.1
    rw [k2.1, show c2 = 12 by omega]; rfl
  · refine Or.inr ?_
    rw [a2 z]; decide
theorem d_tryTaking {l : Launch} (hst : l.stackTraces = false) {Q : Option Value → Hp → Prop} {X : String → Hp → Prop} {H : Hp} {x : Nat} {N F : Nat → Int32} {hi : Nat → Nat → Int32} {sv : Nat → Int32} {sm : Nat → Nat → Int32} {hd tx : Nat → Int32} {B : Int} (C : CR H x N F hi sv sm hd tx B) {M : Nat → Int32} {σ : Nat → Nat} {c0 c1 c2 c3 c4 k : Nat} {B1 : Int} (W : Wv [] H H (x + 81) σ σ M c0 c1 c2 c3 c4) (g : GI M c0 c1 c2 c3 c4 B1) (hk : k < c1) (q1 : ∀ H', (kt M k).2.1 = true → CR H' x N F hi sv sm hd tx B → Kp H' (x + 81) (kt M k).1 B1 → Fr (x + 81) H H' → Q (some (.int 1)) H') (q0 : ∀ H', (kt M k).2.1 = false → CR H' x N (upd (upd (upd F 7 3) 8 (kt M k).2.2.2.1) 9 (kt M k).2.2.2.2) hi sv sm hd tx B → XF x H H' → Q (some (.int 0)) H') : CX8_tryTaking l [.ref x, .int (nI k)] H Q X := by
  have k8 := g.wf.1.2
  obtain ⟨ok1, ok2⟩ := kt_ok hk g
  refine eX8_tryTaking hst (Nat.le_of_ble_eq_true rfl) (fun K => ?_)
  refine xt C ?_
  (repeat (refine And.intro (by first | assumption | rfl | exact Nat.le_of_ble_eq_true rfl | exact Nat.zero_le _ | decide) ?_)); refine And.intro (W.k.s_w) ?_; (repeat (refine And.intro (by first | assumption | rfl | exact Nat.le_of_ble_eq_true rfl | exact Nat.zero_le _ | decide) ?_))
  refine d_serveK hst W rfl hk g (fun H2 M2 W2 hM => ?_)
  have C2 := C.trial W2.k.1 ⟨_, W2.k.2.1⟩
  have F2 : XF x H H2 := XF.fr W2.k.1 (by omega) (by omega)
  cases hb : (kt M k).2.1
  · obtain ⟨p, m, p1, e1, e2, m1, m9⟩ := ok2 hb
    rw [if_neg (show ¬ (false = true) by decide), e1, e2]
    have ne : ¬ (100 * nI p + nI m = -1) := fun z => by
      have : nI (100 * p + m) = -1 := by
        rw [← z, show (100 : Int32) = nI 100 from rfl, pk_mul, nI_add]
      exact absurd (show nI (100 * p + m) < 0 by rw [this]; decide) (nI_pos (by omega))
    refine And.intro (fun z => absurd z ne) (fun _ => ?_)
    (repeat (refine And.intro (by first | assumption | rfl | exact Nat.le_of_ble_eq_true rfl | exact Nat.zero_le _ | decide) ?_)); refine And.intro (C2.s0) ?_; (repeat (refine And.intro (by first | assumption | rfl | exact Nat.le_of_ble_eq_true rfl | exact Nat.zero_le _ | decide) ?_))
    refine d_keepLack hst C2 (show p < 8 by omega) m9 rfl (fun H3 C3 F3 _ _ _ _ => ?_)
    refine And.intro (fun _ => ?_) (fun z => absurd z ne)
    repeat (refine And.intro (by first | assumption | rfl | exact Nat.le_of_ble_eq_true rfl | exact Nat.zero_le _ | decide) ?_)
    exact q0 H3 hb (by rw [e1, e2]; exact C3) (F2.trans F3)
  · rw [if_pos (show true = true from rfl)]
    refine And.intro (fun _ => ?_) (fun z => absurd rfl z)
    refine And.intro (fun z => absurd rfl z) (fun _ => ?_)
    repeat (refine And.intro (by first | assumption | rfl | exact Nat.le_of_ble_eq_true rfl | exact Nat.zero_le _ | decide) ?_)
    exact q1 H2 hb C2 (by rw [← hM hb]; exact Kp.of W2 (fun _ _ => rfl) (by rw [hM hb]; exact ok1 hb)) W2.k.1
end H5

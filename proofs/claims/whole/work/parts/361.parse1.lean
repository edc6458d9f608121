/-! THE PARSERS: their states side by side; the reference's moves -/
def aut (n : Nat) (T : xS) : Option (Int32 × xS) := lX9_parsed_12 n T 0 0 1
/-- the class's frame: text q, from its L-th step on -/
def FX (q L : Nat) (S S' : xS) : Prop := S'.2 = S.2 ∧ (∀ c, c ≠ 23 → c ≠ 25 → c ≠ 26 + 6 * q → c ≠ 26 + 6 * q + 1 → c ≠ 26 + 6 * q + 2 → gI S' c = gI S c) ∧ gI S' 23 1 = gI S 23 1 ∧ (∀ k, (k ≠ 4 ∧ k ≠ 5) ∨ gI S' 25 4 = 0 → gI S' 25 k = gI S 25 k) ∧ (∀ k, k ≠ 2 → gI S' (26 + 6 * q) k = gI S (26 + 6 * q) k) ∧ ∀ i, i < L → gI S' (26 + 6 * q + 1) i = gI S (26 + 6 * q + 1) i ∧ gI S' (26 + 6 * q + 2) i = gI S (26 + 6 * q + 2) i
theorem FX.rfl' {q L : Nat} {S : xS} : FX q L S S := ⟨rfl, fun _ _ _ _ _ _ => rfl, rfl, fun _ _ => rfl, fun _ _ => rfl, fun _ _ => ⟨rfl, rfl⟩⟩
theorem FX.trans {q L L' : Nat} {S S1 S2 : xS} (h : FX q L S S1) (g : FX q L' S1 S2) (hL : L ≤ L') : FX q L S S2 := ⟨g.1.trans h.1, fun c a b d e f => (g.2.1 c a b d e f).trans (h.2.1 c a b d e f), g.2.2.1.trans h.2.2.1, fun k a => (g.2.2.2.1 k a).trans (h.2.2.2.1 k (a.imp id (fun e => (g.2.2.2.1 4 (Or.inr e)).symm.trans e))), fun k a => (g.2.2.2.2.1 k a).trans (h.2.2.2.2.1 k a), fun i hi => ⟨(g.2.2.2.2.2 i (by omega)).1.trans (h.2.2.2.2.2 i hi).1, (g.2.2.2.2.2 i (by omega)).2.trans (h.2.2.2.2.2 i hi).2⟩⟩
theorem FC.fx {q L : Nat} {S S' : xS} (h : FC S S') : FX q L S S' := ⟨h.1, fun c a _ _ _ _ => h.2.1 c a, h.2.2, fun k _ => by rw [h.2.1 25 (by decide)], fun k _ => by rw [h.2.1 _ (by omega)], fun i _ => by rw [h.2.1 _ (by omega), h.2.1 _ (by omega)]; exact ⟨rfl, rfl⟩⟩
theorem FX.fail {q L f : Nat} {S : xS} {v : Int32} (hf : f ≠ 0) (hf7 : f < 7) : FX q L S (pI (pI S 25 4 (nI f)) 25 5 v) := ⟨rfl, fun c _ a _ _ _ => by rw [gIf_ne _ _ _ _ a, gIf_ne _ _ _ _ a], by rw [gI_ne _ _ _ _ (by decide), gI_ne _ _ _ _ (by decide)], fun j a => by
  rcases a with a | a
  · rw [gI_nk _ _ _ _ a.2, gI_nk _ _ _ _ a.1]
  · rw [gI_nk _ _ _ _ (by decide), gI_eq] at a
    exact absurd a (nI_ne0 (Nat.pos_of_ne_zero hf) (by omega)), fun j _ => by rw [gI_ne _ _ _ _ (by omega), gI_ne _ _ _ _ (by omega)], fun i _ => ⟨by rw [gI_ne _ _ _ _ (by omega), gI_ne _ _ _ _ (by omega)], by rw [gI_ne _ _ _ _ (by omega), gI_ne _ _ _ _ (by omega)]⟩⟩
def SE (q : Nat) (ie : Bool) (S : xS) (L : Nat) : Prop := RCr S ∧ gR S 25 1 = some (26 + 6 * q) ∧ gI S 25 4 = 0 ∧ gI S 25 2 = bI ie ∧ gI S (26 + 6 * q) 2 = nI L
def TE (q : Nat) (ie : Bool) (T : xS) (o : Nat) (R : List Nat) (W : Nat) (wh : Int32) : Prop := RMr T ∧ gI T 0 20 = bI ie ∧ gI T 0 12 = nI (680 * q) ∧ gI T 0 14 = nI W ∧ PLr T R ∧ gI T 0 18 = nI o ∧ gI T 0 19 = wh
def EN (len : Nat) (b : Nat → Nat) (q : Nat) (ie : Bool) (S T : xS) (o : Nat) (R : List Nat) (L W κ st v bh : Nat) (wh : Int32) : Prop := SE q ie S L ∧ TE q ie T o R W wh ∧ TP S T len b ∧ TK S T len b κ st v bh ∧ q < 4 ∧ L ≤ st ∧ W + R.length ≤ st
/-- the next token, when class and reference stand where they stand -/
theorem nxj {S T : xS} {len : Nat} {b : Nat → Nat} {κ st v bh : Nat} {Sx Tx : xS} (hT : TP S T len b) (hk : TK S T len b κ st v bh) (hC : RCr Sx) (hM : RMr Tx) (s23 : gI Sx 23 = gI S 23) (s24 : gI Sx 24 = gI S 24) (t4 : gI Tx 0 4 = gI T 0 4) (t7 : gI Tx 0 7 = gI T 0 7) (tc4 : gI Tx 4 = gI T 4) : ∃ S' T' κ' st' v' bh', mX7_advance Sx 23 = some S' ∧ mX9_nextToken Tx 0 = some T' ∧ FC Sx S' ∧ FM Tx T' ∧ bh ≤ st' ∧ TK S' T' len b κ' st' v' bh' ∧ TP S' T' len b := by
  have hT2 : TP Sx Tx len b := ⟨hT.1, by rw [s23]; exact hT.2.1, t4.trans hT.2.2.1, fun k hk => by rw [s24, tc4]; exact hT.2.2.2 k hk⟩
  obtain ⟨S', T', κ', st', v', bh', h1, h2, h3, h4, h5, h6⟩ := next_ok hC hM hT2 (p := bh) (by rw [s23]; exact hk.1.2.2.1) (t7.trans hk.2.1.2) hk.2.2.1.2.1
  exact ⟨S', T', κ', st', v', bh', h1, h2, h3, h4, h5, h6, hT2.step h3 h4⟩
theorem FM.te {q : Nat} {ie : Bool} {T T' : xS} {o : Nat} {R : List Nat} {W : Nat} {wh : Int32} (h : FM T T') (g : TE q ie T o R W wh) : TE q ie T' o R W wh := by
  obtain ⟨g1, g2, g3, g4, ⟨g5, g5', g5''⟩, g6, g7⟩ := g
  exact ⟨g1.ofR h.1, (h.2.2.1 20 (by omega)).trans g2, (h.2.2.1 12 (by omega)).trans g3, (h.2.2.1 14 (by omega)).trans g4, ⟨(h.2.2.1 17 (by omega)).trans g5, g5', by rw [h.2.1 5 (by decide)]; exact g5''⟩, (h.2.2.1 18 (by omega)).trans g6, (h.2.2.1 19 (by omega)).trans g7⟩
def noM (R : List Nat) : Prop := ∀ x r, R = x :: r → rk x < 7
def rep2 (k : Nat) : List Nat := List.replicate k 2
theorem cnt2_rep (k : Nat) : cnt2 (rep2 k) = k := by
  induction k with
  | zero => rfl
  | succ k ih =>
    show (if 2 = 2 ∨ 2 = 20 then 1 else 0) + cnt2 (rep2 k) = k + 1
    rw [ih, if_pos (Or.inl rfl)]
    omega
theorem rep2_len (k : Nat) : (rep2 k).length = k := List.length_replicate
/-- settle, seen from the state -/
theorem TE.settle {q : Nat} {ie : Bool} {T : xS} {o : Nat} {pend R0 : List Nat} {W : Nat} {wh : Int32} (h : TE q ie T o (pend ++ R0) W wh) (hq : q < 4) {least : Nat} (hl : least ≤ 7) (hp : ∀ x, x ∈ pend → least ≤ rk x) (hR : ∀ x r, R0 = x :: r → rk x < least) (hW : W + pend.length ≤ 301) (ho : cnt2 pend ≤ o) (ho2 : o < 1000) : ∃ T', mX9_settle T 0 (nI least) = some T' ∧ TE q ie T' (o - cnt2 pend) R0 (W + pend.length) wh ∧ codL (gI T' 3) (680 * q + 75) (pend.map (fun x => (x, 0))) W ∧ SF q W T T' := by
  obtain ⟨g1, g2, g3, g4, g5, g6, g7⟩ := h
  obtain ⟨T', s1, s2, s3, s4, s5, s6⟩ := settle_m hq hl g1 g3 g4 g6 g5 hp hR hW ho ho2
  exact ⟨T', s1, ⟨g1.ofR (by rw [s6.1]), (s6.2.2.1 20 (by omega) (by omega) (by omega)).trans g2, (s6.2.2.1 12 (by omega) (by omega) (by omega)).trans g3, s3, s2, s4, (s6.2.2.1 19 (by omega) (by omega) (by omega)).trans g7⟩, s5, s6⟩
theorem whole_m {q : Nat} {ie : Bool} {T : xS} {o k : Nat} {R0 : List Nat} {W : Nat} {wh : Int32} (h : TE q ie T o (rep2 k ++ R0) W wh) (hq : q < 4) (hR : noM R0) (hW : W + k ≤ 301) (ho : k ≤ o) (ho2 : o < 1000) : ∃ T', mX9_whole T 0 = some T' ∧ TE q ie T' (o - k) R0 (W + k) 1 ∧ codL (gI T' 3) (680 * q + 75) ((rep2 k).map (fun x => (x, 0))) W ∧ SF q W (pI T 0 19 1) T' := by
  obtain ⟨g1, g2, g3, g4, ⟨g5, g5', g5''⟩, g6, g7⟩ := h
  have h1 : TE q ie (pI T 0 19 1) o (rep2 k ++ R0) W 1 := ⟨g1.ofR rfl, by rw [gI_nk _ _ _ _ (by decide)]; exact g2, by rw [gI_nk _ _ _ _ (by decide)]; exact g3, by rw [gI_nk _ _ _ _ (by decide)]; exact g4, ⟨by rw [gI_nk _ _ _ _ (by decide)]; exact g5, g5', by rw [gIf_ne _ _ _ _ (by decide)]; exact g5''⟩, by rw [gI_nk _ _ _ _ (by decide)]; exact g6, gI_eq _ _ _ _⟩
  obtain ⟨T', s1, s2, s3, s4⟩ := h1.settle hq (least := 7) (by decide) (fun x hx => by rw [List.eq_of_mem_replicate hx]; decide) hR (by rw [rep2_len]; exact hW) (by rw [cnt2_rep]; exact ho) ho2
  rw [cnt2_rep, rep2_len] at s2
  refine ⟨T', ?_, s2, s3, s4⟩
  unfold mX9_whole
  rw [xlet_eq, show (7 : Int32) = nI 7 from rfl, s1]
  rfl
/-- a number or a name, at the beginning of one -/
theorem tr_leaf {len : Nat} {b : Nat → Nat} {q : Nat} {ie : Bool} {S T : xS} {o k : Nat} {R0 : List Nat} {L W κ st v bh : Nat} {oo vv : Nat} (h : EN len b q ie S T o (rep2 k ++ R0) L W κ st v bh 0) (hR : noM R0) (hk : k ≤ o) (ho : o ≤ 8) (hb : mX9_beginOne T 0 0 = LEAF T (nI oo) (nI vv)) (hκ : κ ≠ 0) {Sx : xS} (hC : RCr Sx) (s23 : gI Sx 23 = gI S 23) (s24 : gI Sx 24 = gI S 24) : ∃ S' T' κ' st' v' bh', mX7_advance Sx 23 = some S' ∧ (∀ n, aut (n + 1) T = aut n T') ∧ FC Sx S' ∧ FE q W T T' ∧ st < st' ∧ TK S' T' len b κ' st' v' bh' ∧ TP S' T' len b ∧ TE q ie T' (o - k) R0 (W + 1 + k) 1 ∧ codL (gI T' 3) (680 * q + 75) ((oo, vv) :: (rep2 k).map (fun x => (x, 0))) W := by
  obtain ⟨hS, hTE, hTP, hTK, hq, hL, hW⟩ := h
  obtain ⟨g1, g2, g3, g4, g5, g6, g7⟩ := id hTE
  have hlen := hTP.1
  have hbl := hTK.2.2.1
  have hlr : (rep2 k ++ R0).length = k + R0.length := by rw [List.length_append, rep2_len]
  rw [hlr] at hW
  obtain ⟨T1, m1, m2, m3, m4, m5, m6, m7, m8⟩ := emit_m g1 (o := nI oo) (v := nI vv) hq (show W ≤ 301 by omega) g3 g4
  have hTE1 : TE q ie T1 o (rep2 k ++ R0) (W + 1) 0 := ⟨g1.ofR (by rw [m2]), (m4 20 (by decide)).trans g2, (m4 12 (by decide)).trans g3, m5, ⟨(m4 17 (by decide)).trans g5.1, g5.2.1, by rw [m3 5 (by decide) (by decide)]; exact g5.2.2⟩, (m4 18 (by decide)).trans g6, (m4 19 (by decide)).trans g7⟩
  obtain ⟨S', T2, κ', st', v', bh', n1, n2, n3, n4, n5, n6, n7⟩ := nxj hTP hTK hC hTE1.1 s23 s24 (m4 4 (by decide)) (m4 7 (by decide)) (m3 4 (by decide) (by decide))
  have hst := hbl.2.2.1 hκ
  obtain ⟨T3, w1, w2, w3, w4⟩ := whole_m (n4.te hTE1) hq hR (by omega) hk (by omega)
  have fe1 : FE q W T T1 := ⟨by rw [m2], fun c a b _ => m3 c a b, fun j hj => m4 j (by omega), fun c _ => by rw [m2], fun i hi => m8 i (by omega) (by omega)⟩
  have fe2 : FE q W T T2 := fe1.trans n4.fe (Nat.le_refl _)
  have c3 : ∀ i, i < 680 * q + 75 + 2 * (W + 1) → gI T3 3 i = gI T1 3 i := fun i hi => by
    rw [w4.2.2.2 i (Or.inl hi), gI_ne _ _ _ _ (by decide), n4.2.1 3 (by decide)]
  have fe3 : FE q W T2 T3 := ⟨by rw [w4.1]; rfl, fun c a b _ => (w4.2.1 c a b).trans (gIf_ne _ _ _ _ a), fun j hj => (w4.2.2.1 j (by omega) (by omega) (by omega)).trans (gI_nk _ _ _ _ (by omega)), fun c _ => by rw [w4.1]; rfl, fun i hi => (w4.2.2.2 i (by omega)).trans (gI_ne _ _ _ _ (by decide))⟩
  have kT : ∀ j, j = 7 ∨ j = 8 ∨ j = 9 ∨ j = 10 ∨ j = 4 → gI T3 0 j = gI T2 0 j := fun j hj => (w4.2.2.1 j (by omega) (by omega) (by omega)).trans (gI_nk _ _ _ _ (by omega))
  have jT : gJ T3 0 11 = gJ T2 0 11 := by unfold gJ; rw [w4.1]; rfl
  refine ⟨S', T3, κ', st', v', bh', n1, fun n => ?_, n3, fe2.trans fe3 (Nat.le_refl _), by omega, ?_, ?_, w2, ⟨?_, ?_, w3⟩⟩
  · unfold aut
    rw [lX9_parsed_12.eq_2, if_neg n10, g7, if_pos rfl, hb]
    unfold LEAF
    rw [m1, Option.bind_some, n2, Option.bind_some, w1, Option.bind_some, Option.bind_some, if_pos rfl]
  · refine ⟨n6.1, ⟨(kT 8 (by omega)).trans n6.2.1.1, (kT 7 (by omega)).trans n6.2.1.2⟩, n6.2.2.1, ?_⟩
    have := n6.2.2.2
    unfold TMk at this ⊢
    rw [kT 9 (by omega), kT 10 (by omega), jT]
    exact this
  · exact ⟨n7.1, n7.2.1, (kT 4 (by omega)).trans n7.2.2.1, fun i hi => by rw [w4.2.1 4 (by decide) (by decide), gIf_ne _ _ _ _ (by decide)]; exact n7.2.2.2 i hi⟩
  · rw [c3 _ (by omega)]; exact m6
  · rw [c3 _ (by omega)]; exact m7
/-- something opens -/
theorem tr_open {len : Nat} {b : Nat → Nat} {q : Nat} {ie : Bool} {S T : xS} {o : Nat} {R : List Nat} {L W κ st v bh : Nat} {x : Nat} (h : EN len b q ie S T o R L W κ st v bh 0) (ho : o < 8) (hx : x < 64) (hR : R.length < 150) (hb : mX9_beginOne T 0 0 = (mX9_opensBy T 0 (nI x)).bind (fun q => some (q.1, q.2))) (hκ : κ ≠ 0) {Sx : xS} (hC : RCr Sx) (s23 : gI Sx 23 = gI S 23) (s24 : gI Sx 24 = gI S 24) : ∃ S' T' κ' st' v' bh', mX7_advance Sx 23 = some S' ∧ (∀ n, aut (n + 1) T = aut n T') ∧ FC Sx S' ∧ FE q W T T' ∧ st < st' ∧ TK S' T' len b κ' st' v' bh' ∧ TP S' T' len b ∧ TE q ie T' (o + 1) (x :: R) W 0 ∧ gI T' 3 = gI T 3 := by
  obtain ⟨hS, hTE, hTP, hTK, hq, hL, hW⟩ := h
  obtain ⟨g1, g2, g3, g4, g5, g6, g7⟩ := id hTE
  have hbl := hTK.2.2.1
  have p1 : PLr (pI T 0 18 (nI (o + 1))) R := ⟨by rw [gI_nk _ _ _ _ (by decide)]; exact g5.1, g5.2.1, by rw [gIf_ne _ _ _ _ (by decide)]; exact g5.2.2⟩
  obtain ⟨T2, a1, a2, a3, a4, a5⟩ := push_m (T := pI T 0 18 (nI (o + 1))) (g1.ofR rfl) p1 hx hR
  have k2 : ∀ j, j ≠ 17 → j ≠ 18 → gI T2 0 j = gI T 0 j := fun j h1 h2 => (a5 j h1).trans (gI_nk _ _ _ _ h2)
  have c2 : ∀ c, c ≠ 0 → c ≠ 5 → gI T2 c = gI T c := fun c h1 h2 => (a4 c h1 h2).trans (gIf_ne _ _ _ _ h1)
  have hTE2 : TE q ie T2 (o + 1) (x :: R) W 0 := ⟨g1.ofR (by rw [a3]; rfl), (k2 20 (by decide) (by decide)).trans g2, (k2 12 (by decide) (by decide)).trans g3, (k2 14 (by decide) (by decide)).trans g4, a2, (a5 18 (by decide)).trans (gI_eq _ _ _ _), (k2 19 (by decide) (by decide)).trans g7⟩
  obtain ⟨S', T3, κ', st', v', bh', n1, n2, n3, n4, n5, n6, n7⟩ := nxj hTP hTK hC hTE2.1 s23 s24 (k2 4 (by decide) (by decide)) (k2 7 (by decide) (by decide)) (c2 4 (by decide) (by decide))
  have hst := hbl.2.2.1 hκ
  have fe2 : FE q W T T2 := ⟨by rw [a3]; rfl, fun c a _ d => c2 c a d, fun j hj => k2 j (by omega) (by omega), fun c _ => by rw [a3]; rfl, fun i _ => by rw [c2 3 (by decide) (by decide)]⟩
  refine ⟨S', T3, κ', st', v', bh', n1, fun n => ?_, n3, fe2.trans n4.fe (Nat.le_refl _), by omega, n6, n7, n4.te hTE2, (n4.2.1 3 (by decide)).trans (c2 3 (by decide) (by decide))⟩
  unfold aut
  rw [lX9_parsed_12.eq_2, if_neg n10, g7, if_pos rfl, hb]
  unfold mX9_opensBy
  rw [g6, if_neg (show ¬ nI o = (8 : Int32) from fun e => by have := (nI_eq (a := o) (b := 8) (by omega) (by decide)).mp e; omega), xlet_eq, nI_1, a1, Option.bind_some, n2, Option.bind_some, Option.bind_some, Option.bind_some, if_pos rfl]
theorem mk_split : ∀ R : List Nat, (∀ x, x ∈ R → x < 40) ∨ ∃ ops mk R1, R = ops ++ mk :: R1 ∧ (∀ x, x ∈ ops → x < 40) ∧ 40 ≤ mk := by
  intro R
  induction R with
  | nil => exact Or.inl (fun x hx => by cases hx)
  | cons y r ih =>
    by_cases hy : 40 ≤ y
    · exact Or.inr ⟨[], y, r, rfl, fun x hx => (by cases hx), hy⟩
    · rcases ih with ih | ⟨ops, mk, R1, h1, h2, h3⟩
      · exact Or.inl (fun x hx => by
          rcases List.mem_cons.mp hx with rfl | hx
          · omega
          · exact ih x hx)
      · exact Or.inr ⟨y :: ops, mk, R1, by rw [h1]; rfl, fun x hx => by
          rcases List.mem_cons.mp hx with rfl | hx
          · omega
          · exact h2 x hx, h3⟩
theorem stk_at {f : Nat → Int32} {mk : Nat} {R1 : List Nat} : ∀ ops : List Nat, stk f (ops ++ mk :: R1) → f R1.length = nI mk ∧ mk < 64 := by
  intro ops
  induction ops with
  | nil => intro h; exact ⟨h.1, h.2.1⟩
  | cons x r ih => intro h; exact ih h.2.2
/-- behindOne, when the operator is known -/
theorem behind_op {T : xS} (hM : RMr T) {R : List Nat} (hP : PLr T R) {op : Nat} (hop : op < 64) (hb : mX9_betweenOf T 0 0 = some (nI op, T)) : mX9_behindOne T 0 0 = (mX9_settle T 0 (nI (rk op))).bind fun S5 => (mX9_push S5 0 (nI op)).bind fun S6 => xlet (pI S6 0 19 0) fun S7 => jX9_behindOne_201 S7 0 := by
  have key : ∀ (v3 t0 : Int32), jX9_behindOne_25 T 0 (nI op) v3 t0 = (mX9_settle T 0 (nI (rk op))).bind fun S5 => (mX9_push S5 0 (nI op)).bind fun S6 => xlet (pI S6 0 19 0) fun S7 => jX9_behindOne_201 S7 0 := fun v3 t0 => by
    unfold jX9_behindOne_25
    rw [if_neg (nI_pos (by omega)), rank_m op hop, Option.bind_some]
  unfold mX9_behindOne
  rw [hb, Option.bind_some]
  dsimp only
  rcases mk_split R with h | ⟨ops, mk, R1, rfl, h2, h3⟩
  · rw [marker_0 hM hP h, Option.bind_some, if_neg (show ¬ (0 : Int32) ≤ -1 by decide)]
    exact key _ _
  · have hs := stk_at ops hP.2.2
    have hl : (ops ++ mk :: R1).length ≤ 150 := hP.2.1
    rw [List.length_append] at hl
    have hl2 : (mk :: R1).length = R1.length + 1 := rfl
    rw [marker_m hM hP h3 h2, Option.bind_some, if_pos (nI_pos' (by omega)), rm_16 hM, Option.bind_some, aI_nI (Y := Ym) (c := 5) (by show _ < 160; omega) (by decide), Option.bind_some]
    exact key _ _
/-- an operator between -/
theorem tr_bin {len : Nat} {b : Nat → Nat} {q : Nat} {ie : Bool} {S T : xS} {o : Nat} {pend R0 : List Nat} {L W κ st v bh : Nat} {op : Nat} (h : EN len b q ie S T o (pend ++ R0) L W κ st v bh 1) (hop : op < 40) (hb : mX9_betweenOf T 0 0 = some (nI op, T)) (hp : ∀ x, x ∈ pend → rk op ≤ rk x) (hR : ∀ x r, R0 = x :: r → rk x < rk op) (hc : cnt2 pend ≤ o) (ho : o ≤ 100) (hR0 : R0.length < 150) (hκ : κ ≠ 0) {Sx : xS} (hC : RCr Sx) (s23 : gI Sx 23 = gI S 23) (s24 : gI Sx 24 = gI S 24) : ∃ S' T' κ' st' v' bh', mX7_advance Sx 23 = some S' ∧ (∀ n, aut (n + 1) T = aut n T') ∧ FC Sx S' ∧ FE q W T T' ∧ st < st' ∧ TK S' T' len b κ' st' v' bh' ∧ TP S' T' len b ∧ TE q ie T' (o - cnt2 pend) (op :: R0) (W + pend.length) 0 ∧ codL (gI T' 3) (680 * q + 75) (pend.map (fun x => (x, 0))) W := by
  obtain ⟨hS, hTE, hTP, hTK, hq, hL, hW⟩ := h
  have g1 := hTE.1
  have g5 := hTE.2.2.2.2.1
  have g7 := hTE.2.2.2.2.2.2
  have hlen := hTP.1
  have hbl := hTK.2.2.1
  rw [List.length_append] at hW
  obtain ⟨T1, s1, s2, s3, s4⟩ := hTE.settle hq (rk_le op) hp hR (by omega) hc (by omega)
  obtain ⟨T2, a1, a2, a3, a4, a5⟩ := push_m s2.1 s2.2.2.2.2.1 (show op < 64 by omega) hR0
  have k2 : ∀ j, j ≠ 14 → j ≠ 17 → j ≠ 18 → j ≠ 19 → gI (pI T2 0 19 0) 0 j = gI T 0 j := fun j h1 h2 h3 h4 => (gI_nk _ _ _ _ h4).trans ((a5 j h2).trans (s4.2.2.1 j h1 h2 h3))
  have c2 : ∀ c, c ≠ 0 → c ≠ 3 → c ≠ 5 → gI (pI T2 0 19 0) c = gI T c := fun c h1 h2 h3 => (gIf_ne _ _ _ _ h1).trans ((a4 c h1 h3).trans (s4.2.1 c h1 h2))
  have hTE2 : TE q ie (pI T2 0 19 0) (o - cnt2 pend) (op :: R0) (W + pend.length) 0 := by
    obtain ⟨e1, e2, e3, e4, e5, e6, e7⟩ := s2
    exact ⟨e1.ofR (by show T2.2.2 = T1.2.2; rw [a3]), by rw [gI_nk _ _ _ _ (by decide), a5 20 (by decide)]; exact e2, by rw [gI_nk _ _ _ _ (by decide), a5 12 (by decide)]; exact e3, by rw [gI_nk _ _ _ _ (by decide), a5 14 (by decide)]; exact e4, ⟨by rw [gI_nk _ _ _ _ (by decide)]; exact a2.1, a2.2.1, by rw [gIf_ne _ _ _ _ (by decide)]; exact a2.2.2⟩, by rw [gI_nk _ _ _ _ (by decide), a5 18 (by decide)]; exact e6, gI_eq _ _ _ _⟩
  obtain ⟨S', T3, κ', st', v', bh', n1, n2, n3, n4, n5, n6, n7⟩ := nxj hTP hTK hC hTE2.1 s23 s24 (k2 4 (by decide) (by decide) (by decide) (by decide)) (k2 7 (by decide) (by decide) (by decide) (by decide)) (c2 4 (by decide) (by decide) (by decide))
  have hst := hbl.2.2.1 hκ
  have e3 : gI (pI T2 0 19 0) 3 = gI T1 3 := (gIf_ne _ _ _ _ (by decide)).trans (a4 3 (by decide) (by decide))
  have fe2 : FE q W T (pI T2 0 19 0) := ⟨by show T2.2.2 = T.2.2; rw [a3, s4.1], fun c a b d => c2 c a b d, fun j hj => k2 j (by omega) (by omega) (by omega) (by omega), fun c _ => by show T2.2.1 c = T.2.1 c; rw [a3, s4.1], fun i hi => by rw [e3]; exact s4.2.2.2 i hi⟩
  refine ⟨S', T3, κ', st', v', bh', n1, fun n => ?_, n3, fe2.trans n4.fe (Nat.le_refl _), by omega, n6, n7, n4.te hTE2, by rw [n4.2.1 3 (by decide), e3]; exact s3⟩
  unfold aut
  rw [lX9_parsed_12.eq_2, if_neg n10, g7, if_neg n10, behind_op g1 g5 (by omega) hb, s1, Option.bind_some, a1, Option.bind_some, xlet_eq]
  unfold jX9_behindOne_201
  rw [n2, Option.bind_some, Option.bind_some]

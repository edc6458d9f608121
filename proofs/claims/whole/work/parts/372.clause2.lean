/-! CLAUSES: the semicolon, and the orders -/
theorem TK.te {S T T' : xS} {len : Nat} {b : Nat → Nat} {κ st v bh : Nat} (h : TK S T len b κ st v bh) (e : ∀ j, j = 7 ∨ j = 8 ∨ j = 9 ∨ j = 10 → gI T' 0 j = gI T 0 j) (eJ : gJ T' 0 11 = gJ T 0 11) : TK S T' len b κ st v bh := by
  refine ⟨h.1, ⟨(e 8 (by omega)).trans h.2.1.1, (e 7 (by omega)).trans h.2.1.2⟩, h.2.2.1, ?_⟩
  have := h.2.2.2
  unfold TMk at this ⊢
  rw [e 9 (by omega), e 10 (by omega), eJ]
  exact this
theorem TP.te {S T T' : xS} {len : Nat} {b : Nat → Nat} (h : TP S T len b) (e : gI T' 0 4 = gI T 0 4) (e2 : gI T' 4 = gI T 4) : TP S T' len b := ⟨h.1, h.2.1, e.trans h.2.2.1, fun k hk => by rw [e2]; exact h.2.2.2 k hk⟩
theorem fail0 {S : xS} {st : Nat} (hC : RCr S) (h4 : gI S 25 4 = 0) (h3 : gI S 23 3 = nI st) (f : Int32) : mX4_fail S 25 f = some (pI (pI S 25 4 f) 25 5 (nI st)) := by
  unfold mX4_fail
  rw [h4, if_pos rfl, xlet_eq, gR_pI, rc_25_0 hC, Option.bind_some, xlet_eq, gI_ne _ _ _ _ (by decide), h3]
theorem semi {len : Nat} {b : Nat → Nat} {q : Nat} {S T : xS} {n κ st v bh : Nat} (hC : RCr S) (hM : RMr T) (hTP : TP S T len b) (hTK : TK S T len b κ st v bh) (hq : q < 4) (h4 : gI S 25 4 = 0) (h12 : gI T 0 12 = nI (680 * q)) (h3 : gI T 3 (680 * q) = nI n) : (∃ S' T', jX4_readClause_160 S 25 = some S' ∧ jX9_clause_155 T 0 = some (nI 1, T') ∧ gI S' 25 4 = nI 1 ∧ gI S' 25 5 = nI st ∧ BF q S S' ∧ gI T' 0 8 = nI st ∧ BM q T T') ∨ (∃ S' T' κ' st' v' bh', jX4_readClause_160 S 25 = some S' ∧ jX9_clause_155 T 0 = some (0, T') ∧ FC S S' ∧ FM (pI T 3 (680 * q) (nI (n + 1))) T' ∧ st < st' ∧ TK S' T' len b κ' st' v' bh' ∧ TP S' T' len b) := by
  have hκ3 := κ_lt hTK.2.2.2
  unfold jX4_readClause_160 jX9_clause_155
  rw [rm_2 hM, Option.bind_some, h12, aI_nI (Y := Ym) (c := 3) (by show _ < 2720; omega) (by decide), Option.bind_some, h3, nI_1, sI_nI (Y := Ym) (c := 3) (by show _ < 2720; omega) (by decide), Option.bind_some, gI_ne _ _ _ _ (by decide)]
  by_cases h59 : κ = 59
  · obtain ⟨S', T', κ', st', v', bh', n1, n2, n3, n4, n5, n6, n7⟩ := nxj (Sx := S) (Tx := pI T 3 (680 * q) (nI (n + 1))) hTP hTK hC (hM.ofR rfl) rfl rfl (gI_ne _ _ _ _ (by decide)) (gI_ne _ _ _ _ (by decide)) (gIf_ne _ _ _ _ (by decide))
    have hst := hTK.2.2.1.2.2.1 (by omega)
    refine Or.inr ⟨S', T', κ', st', v', bh', ?_, ?_, n3, n4, by omega, n6, n7⟩
    · rw [show (59 : Int32) = nI κ from by rw [h59]; rfl, takec hC h4 hTK.1.1 n1, Option.bind_some]
    · rw [if_pos (show gI T 0 9 = 59 from (tk_sign hTK.2.2.2 (c := 59) (by decide)).mpr h59), n2, Option.bind_some]
  · refine Or.inl ⟨pI (pI S 25 4 1) 25 5 (nI st), pI T 3 (680 * q) (nI (n + 1)), ?_, ?_, ?_, gI_eq _ _ _ _, (BF.pI25 (by decide)).trans (BF.pI25 (by decide)), ?_, BM.pI3 (by omega)⟩
    · rw [show (59 : Int32) = nI 59 from rfl, taken hC h4 hTK.1.1 h59 (by omega) (by decide) (fail0 hC h4 hTK.1.2.1 1), Option.bind_some]
    · rw [if_neg (show ¬ gI T 0 9 = 59 from fun e => h59 ((tk_sign hTK.2.2.2 (c := 59) (by decide)).mp e))]; rfl
    · rw [gI_nk _ _ _ _ (by decide), gI_eq]; rfl
    · rw [gI_ne _ _ _ _ (by decide)]; exact hTK.2.1.1
/-- what an order adds -/
def AD (q n : Nat) (k a c : Int32) (S S' : xS) : Prop := S'.2 = S.2 ∧ (∀ d, d ≠ 23 → d ≠ 26 + 6 * q → d ≠ 26 + 6 * q + 3 → d ≠ 26 + 6 * q + 4 → d ≠ 26 + 6 * q + 5 → gI S' d = gI S d) ∧ gI S' 23 1 = gI S 23 1 ∧ (∀ j, j ≠ 10 → gI S' (26 + 6 * q) j = gI S (26 + 6 * q) j) ∧ gI S' (26 + 6 * q) 10 = nI (n + 1) ∧ (gI S' (26 + 6 * q + 3) n = k ∧ gI S' (26 + 6 * q + 4) n = a ∧ gI S' (26 + 6 * q + 5) n = c) ∧ ∀ j, j ≠ n → gI S' (26 + 6 * q + 3) j = gI S (26 + 6 * q + 3) j ∧ gI S' (26 + 6 * q + 4) j = gI S (26 + 6 * q + 4) j ∧ gI S' (26 + 6 * q + 5) j = gI S (26 + 6 * q + 5) j
theorem adc {q n : Nat} {S S1 : xS} (hC : RCr S1) (hF : FC S S1) (hq : q < 4) (h10 : gI S (26 + 6 * q) 10 = nI n) (hn : n < 24) (k a c : Int32) : ∃ S', mX6_addClause S1 (26 + 6 * q) k a c = some S' ∧ AD q n k a c S S' ∧ gI S' 23 = gI S1 23 ∧ gI S' 24 = gI S1 24 := by
  have c1 : ∀ d, d ≠ 23 → gI S1 d = gI S d := hF.2.1
  obtain ⟨S', e1, e2, e3, e4, e5, e6, e7⟩ := addc (S := S1) hC hq (by rw [c1 _ (by omega)]; exact h10) hn k a c
  refine ⟨S', e1, ⟨e2.trans hF.1, fun d d0 d1 d2 d3 d4 => (e3 d d1 d2 d3 d4).trans (c1 d d0), by rw [e3 23 (by omega) (by omega) (by omega) (by omega)]; exact hF.2.2, fun j hj => by rw [e4 j hj, c1 _ (by omega)], e5, e6, fun j hj => ?_⟩, e3 23 (by omega) (by omega) (by omega) (by omega), e3 24 (by omega) (by omega) (by omega) (by omega)⟩
  rw [← c1 _ (show 26 + 6 * q + 3 ≠ 23 by omega), ← c1 _ (show 26 + 6 * q + 4 ≠ 23 by omega), ← c1 _ (show 26 + 6 * q + 5 ≠ 23 by omega)]
  exact e7 j hj
/-- behind a FAULT the class still adds a clause -/
theorem adf {q n f st : Nat} {S S1 : xS} (hC : RCr S1) (hB : BF q S S1) (hq : q < 4) (h10 : gI S1 (26 + 6 * q) 10 = nI n) (hn : n < 24) (h4 : gI S1 25 4 = nI f) (h5 : gI S1 25 5 = nI st) (k a c : Int32) : ∃ S', mX6_addClause S1 (26 + 6 * q) k a c = some S' ∧ BF q S S' ∧ gI S' 25 4 = nI f ∧ gI S' 25 5 = nI st := by
  obtain ⟨S', e1, e2, e3, e4, e5, e6, e7⟩ := addc (S := S1) hC hq h10 hn k a c
  have e25 := e3 25 (by omega) (by omega) (by omega) (by omega)
  exact ⟨S', e1, hB.trans (addc_bf e2 e3), by rw [e25]; exact h4, by rw [e25]; exact h5⟩
def RM3 (x : Nat) (s : Nat) (a c : Int32) (T T' : xS) : Prop := T'.2.2 = T.2.2 ∧ (∀ d, d ≠ 0 → d ≠ 3 → gI T' d = gI T d) ∧ (∀ k, k < 7 ∨ 10 < k → gI T' 0 k = gI T 0 k) ∧ gI T' 3 (x + 1) = a ∧ (s ≤ 4 → gI T' 3 (x + 2) = c) ∧ ∀ i, i ≠ x + 1 → i ≠ x + 2 → gI T' 3 i = gI T 3 i
/-- how an order comes out -/
def OL (len : Nat) (b : Nat → Nat) (q n x s st : Nat) (S T S' : xS) (r : Option (Int32 × xS)) : Prop := CF q S T S' r ∨ ∃ T' a c κ' st' v' bh', r = some (0, T') ∧ AD q n (nI (200 + s)) a c S S' ∧ RM3 x s a c T T' ∧ st < st' ∧ TK S' T' len b κ' st' v' bh' ∧ TP S' T' len b
theorem fig1_ok {len : Nat} {b : Nat → Nat} {q n x s κ st v bh lo hi : Nat} {S T : xS} (hC : RCr S) (hM : RMr T) (hTP : TP S T len b) (hTK : TK S T len b κ st v bh) (hq : q < 4) (h4 : gI S 25 4 = 0) (h10 : gI S (26 + 6 * q) 10 = nI n) (hn : n < 24) (hx : x = 680 * q + 1 + 3 * n) (hh : hi ≤ 99) (hl : lo ≤ 99) (hs : s = 5) : ∃ S', ((mX4_takeNumber S 25 (nI lo) (nI hi)).bind fun q4 => (mX6_addClause q4.2 (26 + 6 * q) (nI (200 + s)) q4.1 0).bind fun S5 => some S5) = some S' ∧ OL len b q n x s st S T S' ((mX9_figure T 0 (nI (x + 1)) (nI lo) (nI hi)).bind fun q5 => some (q5.1, q5.2)) := by
  rcases fig_ok (x := x + 1) (low := lo) (high := hi) hC hM hTP hTK h4 (by omega) hh hl with ⟨f, w, S1, hf, e1, e2, e3⟩ | ⟨S1, T1, κ1, st1, v1, bh1, e1, e2, e3, e4, e5, e6, e7⟩
  · rw [e1, Option.bind_some, e2, Option.bind_some]
    obtain ⟨S', a1, a2, a3, a4⟩ := adf (S := S) (S1 := S1) (q := q) (n := n) (f := f) (st := st) (hC.ofR (by rw [e3]; rfl)) (by rw [e3]; exact (BF.pI25 (by decide)).trans (BF.pI25 (by decide))) hq (by rw [e3, gI_ne _ _ _ _ (by omega), gI_ne _ _ _ _ (by omega)]; exact h10) hn (by rw [e3, gI_nk _ _ _ _ (by decide), gI_eq]) (by rw [e3, gI_eq]) (nI (200 + s)) w 0
    refine ⟨S', by dsimp only; rw [a1, Option.bind_some], Or.inl ⟨f, st, T, ⟨a3, a4, by omega, by omega⟩, a2, rfl, hTK.2.1.1, BM.rfl'⟩⟩
  · rw [e1, Option.bind_some, e2, Option.bind_some]
    obtain ⟨S', a1, a2, a3, a4⟩ := adc (S := S) (S1 := S1) (hC.ofR (by rw [e3.1])) e3 hq h10 hn (nI (200 + s)) (nI v) 0
    refine ⟨S', by dsimp only; rw [a1, Option.bind_some], Or.inr ⟨T1, nI v, 0, κ1, st1, v1, bh1, rfl, a2, ⟨e4.1, fun d d0 d3 => (e4.2.1 d d0).trans (gIf_ne _ _ _ _ d3), fun k hk => (e4.2.2.1 k hk).trans (gI_ne _ _ _ _ (by decide)), by rw [e4.2.1 3 (by decide), gI_eq], fun h => absurd h (by omega), fun i i1 i2 => by rw [e4.2.1 3 (by decide), gI_nk _ _ _ _ i1]⟩, e5, e6.se a3, e7.se a3 a4⟩⟩
theorem at_m {T : xS} {b : Nat → Nat} {κ st v bh : Nat} (h : TMk T b κ st v bh) {α : Type} (A B : α) : (if (gI T 0 9 = 2 : Prop) then (if ((lg_cmp (gJ T 0 11) 24948) = 0 : Prop) then A else B) else B) = if κ = 206 then A else B := tk_word h (j := 6) (by decide) (by decide) A B
theorem fig2_ok {len : Nat} {b : Nat → Nat} {q n x s κ st v bh lo hi hi2 : Nat} {S T : xS} (hC : RCr S) (hM : RMr T) (hTP : TP S T len b) (hTK : TK S T len b κ st v bh) (hq : q < 4) (h4 : gI S 25 4 = 0) (hout : gR S 25 1 = some (26 + 6 * q)) (h10 : gI S (26 + 6 * q) 10 = nI n) (hn : n < 24) (hx : x = 680 * q + 1 + 3 * n) (hh : hi ≤ 99) (hl : lo ≤ 99) (hh2 : hi2 ≤ 99) : ∃ S', ((mX4_takeNumber S 25 (nI lo) (nI hi)).bind fun q4 => (mX4_take q4.2 25 206).bind fun S1 => (mX4_takeNumber S1 25 0 (nI hi2)).bind fun q1 => (dO Yc (gR q1.2 25 1) 6).bind fun d2 => (mX6_addClause q1.2 d2 (nI (200 + s)) q4.1 q1.1).bind fun S3 => some S3) = some S' ∧ OL len b q n x s st S T S' ((mX9_figure T 0 (nI (x + 1)) (nI lo) (nI hi)).bind fun q4 => if (q4.1 = 0 : Prop) then (if ((gI q4.2 0 9) = 2 : Prop) then (if ((lg_cmp (gJ q4.2 0 11) 24948) = 0 : Prop) then ((mX9_nextToken q4.2 0).bind fun S4 => (mX9_figure S4 0 (nI (x + 2)) 0 (nI hi2)).bind fun q7 => some (q7.1, q7.2)) else (some (1, q4.2))) else (some (1, q4.2))) else (some (q4.1, q4.2))) := by
  rcases fig_ok (x := x + 1) (low := lo) (high := hi) hC hM hTP hTK h4 (by omega) hh hl with ⟨f, w, S1, hf, e1, e2, e3⟩ | ⟨S1, T1, κ1, st1, v1, bh1, e1, e2, e3, e4, e5, e6, e7⟩
  · have hf4 : gI S1 25 4 = nI f := by rw [e3, gI_nk _ _ _ _ (by decide), gI_eq]
    have hf0 : ¬ gI S1 25 4 = 0 := by rw [hf4]; exact nI_ne0 (by omega) (by omega)
    have hr : S1.2.2 = S.2.2 := by rw [e3]; rfl
    obtain ⟨S', a1, a2, a3, a4⟩ := adf (S := S) (S1 := S1) (q := q) (n := n) (f := f) (st := st) (hC.ofR hr) (by rw [e3]; exact (BF.pI25 (by decide)).trans (BF.pI25 (by decide))) hq (by rw [e3, gI_ne _ _ _ _ (by omega), gI_ne _ _ _ _ (by omega)]; exact h10) hn hf4 (by rw [e3, gI_eq]) (nI (200 + s)) w 0
    refine ⟨S', ?_, Or.inl ⟨f, st, T, ⟨a3, a4, by omega, by omega⟩, a2, ?_, hTK.2.1.1, BM.rfl'⟩⟩
    · rw [e1, Option.bind_some, takef hf0, Option.bind_some, tnf hf0, Option.bind_some, dO_out (q := q) (by rw [e3]; exact hout) hq, Option.bind_some, a1, Option.bind_some]
    · rw [e2, Option.bind_some, if_neg (nI_ne0 (by omega) (by omega))]
  · have hC1 : RCr S1 := hC.ofR (by rw [e3.1])
    have hM1 : RMr T1 := hM.ofR e4.1
    have h41 : gI S1 25 4 = 0 := by rw [e3.2.1 25 (by decide)]; exact h4
    have ho1 : gR S1 25 1 = some (26 + 6 * q) := by unfold gR at hout ⊢; rw [e3.1]; exact hout
    have hκ3 := κ_lt e6.2.2.2
    have bm1 : BM q T T1 := (BM.pI3 (by omega)).trans e4.bm
    have h101 : gI S1 (26 + 6 * q) 10 = nI n := by rw [e3.2.1 _ (by omega)]; exact h10
    rw [e1, Option.bind_some, e2, Option.bind_some, if_pos rfl]
    dsimp only
    rw [at_m e6.2.2.2]
    by_cases hat : κ1 = 206
    · rw [if_pos hat]
      obtain ⟨S2, T2, κ2, st2, v2, bh2, n1, n2, n3, n4, n5, n6, n7⟩ := nxj (Sx := S1) (Tx := T1) e7 e6 hC1 hM1 rfl rfl rfl rfl rfl
      have hst := e6.2.2.1.2.2.1 (by omega)
      have hC2 : RCr S2 := hC1.ofR (by rw [n3.1])
      have hM2 : RMr T2 := hM1.ofR n4.1
      have h42 : gI S2 25 4 = 0 := by rw [n3.2.1 25 (by decide)]; exact h41
      have ho2 : gR S2 25 1 = some (26 + 6 * q) := by unfold gR at ho1 ⊢; rw [n3.1]; exact ho1
      have bm2 : BM q T T2 := bm1.trans n4.bm
      have h102 : gI S2 (26 + 6 * q) 10 = nI n := by rw [n3.2.1 _ (by omega)]; exact h101
      rw [show (206 : Int32) = nI κ1 from by rw [hat]; rfl, takec hC1 h41 e6.1.1 n1, Option.bind_some, n2, Option.bind_some]
      rcases fig_ok (x := x + 2) (low := 0) (high := hi2) hC2 hM2 n7 n6 h42 (by omega) hh2 (by omega) with ⟨f, w, S3, hf, d1, d2, d3⟩ | ⟨S3, T3, κ3, st3, v3, bh3, d1, d2, d3, d4, d5, d6, d7⟩
      · have d1' : mX4_takeNumber S2 25 0 (nI hi2) = some (w, S3) := d1
        have d2' : mX9_figure T2 0 (nI (x + 2)) 0 (nI hi2) = some (nI f, T2) := d2
        have hf4 : gI S3 25 4 = nI f := by rw [d3, gI_nk _ _ _ _ (by decide), gI_eq]
        have hr : S3.2.2 = S2.2.2 := by rw [d3]; rfl
        obtain ⟨S', a1, a2, a3, a4⟩ := adf (S := S) (S1 := S3) (q := q) (n := n) (f := f) (st := st2) (hC2.ofR hr) ((e3.bf.trans n3.bf).trans (by rw [d3]; exact (BF.pI25 (by decide)).trans (BF.pI25 (by decide)))) hq (by rw [d3, gI_ne _ _ _ _ (by omega), gI_ne _ _ _ _ (by omega)]; exact h102) hn hf4 (by rw [d3, gI_eq]) (nI (200 + s)) (nI v) w
        refine ⟨S', ?_, Or.inl ⟨f, st2, T2, ⟨a3, a4, by omega, by omega⟩, a2, ?_, n6.2.1.1, bm2⟩⟩
        · rw [d1', Option.bind_some, dO_out (q := q) (by rw [d3]; exact ho2) hq, Option.bind_some, a1, Option.bind_some]
        · rw [d2', Option.bind_some]
      · have d1' : mX4_takeNumber S2 25 0 (nI hi2) = some (nI v2, S3) := d1
        have d2' : mX9_figure T2 0 (nI (x + 2)) 0 (nI hi2) = some (0, T3) := d2
        have hr : S3.2.2 = S2.2.2 := by rw [d3.1]
        obtain ⟨S', a1, a2, a3, a4⟩ := adc (S := S) (S1 := S3) (hC2.ofR hr) ((e3.trans n3).trans d3) hq h10 hn (nI (200 + s)) (nI v) (nI v2)
        refine ⟨S', ?_, Or.inr ⟨T3, nI v, nI v2, κ3, st3, v3, bh3, ?_, a2, ⟨?_, fun d dd0 dd3 => ?_, fun k hk => ?_, ?_, fun _ => ?_, fun i i1 i2 => ?_⟩, by omega, d6.se a3, d7.se a3 a4⟩⟩
        · rw [d1', Option.bind_some, dO_out (q := q) (by unfold gR at ho2 ⊢; rw [d3.1]; exact ho2) hq, Option.bind_some, a1, Option.bind_some]
        · rw [d2', Option.bind_some]
        · exact d4.1.trans (n4.1.trans e4.1)
        · rw [d4.2.1 d dd0, gIf_ne _ _ _ _ dd3, n4.2.1 d dd0, e4.2.1 d dd0, gIf_ne _ _ _ _ dd3]
        · rw [d4.2.2.1 k hk, gI_ne _ _ _ _ (by decide), n4.2.2.1 k hk, e4.2.2.1 k hk, gI_ne _ _ _ _ (by decide)]
        · rw [d4.2.1 3 (by decide), gI_nk _ _ _ _ (by omega), n4.2.1 3 (by decide), e4.2.1 3 (by decide), gI_eq]
        · rw [d4.2.1 3 (by decide), gI_eq]
        · rw [d4.2.1 3 (by decide), gI_nk _ _ _ _ i2, n4.2.1 3 (by decide), e4.2.1 3 (by decide), gI_nk _ _ _ _ i1]
    · rw [if_neg hat]
      have hf4 : gI (pI (pI S1 25 4 1) 25 5 (nI st1)) 25 4 = nI 1 := by rw [gI_nk _ _ _ _ (by decide), gI_eq]; rfl
      have hf0 : ¬ gI (pI (pI S1 25 4 1) 25 5 (nI st1)) 25 4 = 0 := by rw [hf4]; decide
      obtain ⟨S', a1, a2, a3, a4⟩ := adf (S := S) (S1 := pI (pI S1 25 4 1) 25 5 (nI st1)) (q := q) (n := n) (f := 1) (st := st1) (hC1.ofR rfl) (e3.bf.trans ((BF.pI25 (by decide)).trans (BF.pI25 (by decide)))) hq (by rw [gI_ne _ _ _ _ (by omega), gI_ne _ _ _ _ (by omega)]; exact h101) hn hf4 (by rw [gI_eq]) (nI (200 + s)) (nI v) 0
      refine ⟨S', ?_, Or.inl ⟨1, st1, T1, ⟨a3, a4, by omega, by omega⟩, a2, rfl, e6.2.1.1, bm1⟩⟩
      rw [show (206 : Int32) = nI 206 from rfl, taken hC1 h41 e6.1.1 hat (by omega) (by decide) (fail0 hC1 h41 e6.1.2.1 1), Option.bind_some, tnf hf0, Option.bind_some]
      dsimp only
      rw [dO_out (S := pI (pI S1 25 4 1) 25 5 (nI st1)) (q := q) ho1 hq, Option.bind_some, a1, Option.bind_some]
theorem order_ok {len : Nat} {b : Nat → Nat} {q n x s κ st v bh : Nat} {S T : xS} (hC : RCr S) (hM : RMr T) (hTP : TP S T len b) (hTK : TK S T len b κ st v bh) (hq : q < 4) (h4 : gI S 25 4 = 0) (hout : gR S 25 1 = some (26 + 6 * q)) (h10 : gI S (26 + 6 * q) 10 = nI n) (hn : n < 24) (hx : x = 680 * q + 1 + 3 * n) (hs : 2 ≤ s) (hs2 : s < 6) : ∃ S', mX4_readOrder S 25 (nI (200 + s)) = some S' ∧ OL len b q n x s st S T S' (mX9_line T 0 (nI s) (nI x)) := by
  have x1 : nI x + 1 = nI (x + 1) := nI_1 x
  have x2 : nI x + 2 = nI (x + 2) := nI_add x 2
  unfold mX4_readOrder mX9_line
  rw [x1]
  by_cases h5 : s = 5
  · subst h5
    obtain ⟨S', a1, a2⟩ := fig1_ok (s := 5) (lo := 1) (hi := 99) hC hM hTP hTK hq h4 h10 hn hx (by decide) (by decide) rfl
    refine ⟨S', ?_, ?_⟩
    · rw [if_pos (by decide), dO_out hout hq, Option.bind_some]
      exact a1
    · rw [if_pos (by decide)]
      exact a2
  by_cases h2 : s = 2
  · subst h2
    obtain ⟨S', a1, a2⟩ := fig2_ok (s := 2) (lo := 0) (hi := 5) (hi2 := 2) hC hM hTP hTK hq h4 hout h10 hn hx (by decide) (by decide) (by decide)
    refine ⟨S', ?_, ?_⟩
    · rw [if_neg (by decide), if_pos (by decide)]
      exact a1
    · rw [if_neg (by decide), if_pos (by decide)]
      unfold jX9_line_43
      rw [x2]
      exact a2
  · have h34 : s = 3 ∨ s = 4 := by omega
    obtain ⟨S', a1, a2⟩ := fig2_ok (s := s) (lo := 1) (hi := 9) (hi2 := 1) hC hM hTP hTK hq h4 hout h10 hn hx (by decide) (by decide) (by decide)
    refine ⟨S', ?_, ?_⟩
    · rcases h34 with rfl | rfl <;> rw [if_neg (by decide), if_neg (by decide)] <;> exact a1
    · rcases h34 with rfl | rfl <;> rw [if_neg (by decide), if_neg (by decide)] <;> unfold jX9_line_43 <;> rw [x2] <;> exact a2

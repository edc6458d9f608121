/-! CLAUSES: numbers in them -/
theorem fig_ok {S T : xS} {len : Nat} {b : Nat → Nat} {κ st v bh x low high : Nat} (hC : RCr S) (hM : RMr T) (hTP : TP S T len b) (hTK : TK S T len b κ st v bh) (h4 : gI S 25 4 = 0) (hx : x < 2720) (hh : high ≤ 99) (hl9 : low ≤ 99) : (∃ f w S', (f = 1 ∨ f = 2) ∧ mX4_takeNumber S 25 (nI low) (nI high) = some (w, S') ∧ mX9_figure T 0 (nI x) (nI low) (nI high) = some (nI f, T) ∧ S' = pI (pI S 25 4 (nI f)) 25 5 (nI st)) ∨ (∃ S' T' κ' st' v' bh', mX4_takeNumber S 25 (nI low) (nI high) = some (nI v, S') ∧ mX9_figure T 0 (nI x) (nI low) (nI high) = some (0, T') ∧ FC S S' ∧ FM (pI T 3 x (nI v)) T' ∧ st < st' ∧ TK S' T' len b κ' st' v' bh' ∧ TP S' T' len b) := by
  have hκ3 := κ_lt hTK.2.2.2
  have ht := (tk_spec hTK.2.2.2).2.1
  have hfail : ∀ f : Nat, mX4_fail S 25 (nI f) = some (pI (pI S 25 4 (nI f)) 25 5 (nI st)) := fun f => by
    unfold mX4_fail
    rw [h4, if_pos rfl, xlet_eq, gR_pI, rc_25_0 hC, Option.bind_some, xlet_eq, gI_ne _ _ _ _ (by decide), hTK.1.2.1]
  unfold mX4_takeNumber mX9_figure jX4_takeNumber_46
  rw [h4, if_pos rfl, rc_25_0 hC, Option.bind_some, Option.bind_some, hTK.1.1]
  by_cases h2 : κ = 2
  · obtain ⟨m0, m1, m2, m3⟩ := tk_num hTK.2.2.2 h2
    have hv : v ≤ 10000 := by rw [m3]; split <;> omega
    rw [if_pos (show nI κ = (2 : Int32) by rw [h2]; rfl), if_pos (ht.mpr h2), m2, isIn_eq, hTK.1.2.2.2 h2]
    by_cases hlo : v < low
    · have hm : m0 < low := by by_cases q : m0 < 10000; rw [if_pos q] at m3; omega; rw [if_neg q] at m3; omega
      refine Or.inl ⟨2, nI v, _, Or.inr rfl, ?_, ?_, rfl⟩
      · rw [if_pos (nI_lt hlo (by omega)), show mX4_fail S 25 2 = _ from hfail 2, Option.bind_some]
      · rw [Option.bind_some, if_pos (Or.inl (nI_lt hm (by omega))), if_pos rfl]; rfl
    by_cases hhi : v ≤ high
    · have hm : m0 = v := by by_cases q : m0 < 10000; rw [if_pos q] at m3; omega; rw [if_neg q] at m3; omega
      subst hm
      obtain ⟨S', T', κ', st', v', bh', n1, n2, n3, n4, n5, n6, n7⟩ := nxj (Sx := S) (Tx := pI T 3 x (nI m0)) hTP hTK hC (hM.ofR rfl) rfl rfl (gI_ne _ _ _ _ (by decide)) (gI_ne _ _ _ _ (by decide)) (gIf_ne _ _ _ _ (by decide))
      have hst := hTK.2.2.1.2.2.1 (by omega)
      refine Or.inr ⟨S', T', κ', st', v', bh', ?_, ?_, n3, n4, by omega, n6, n7⟩
      · rw [if_neg (nI_nlt (by omega) (by omega)), if_pos (nI_le hhi (by omega)), Option.bind_some, n1, Option.bind_some]
      · rw [Option.bind_some, if_neg (not_or2 (nI_nlt (by omega) (by omega)) (nI_nlt (by omega) (by omega))), if_neg n10]
        dsimp only
        rw [rm_2 hM, Option.bind_some, m2, sI_nI (Y := Ym) (c := 3) hx (by decide), Option.bind_some, n2, Option.bind_some]
    · have hm : high < m0 := by by_cases q : m0 < 10000; rw [if_pos q] at m3; omega; rw [if_neg q] at m3; omega
      refine Or.inl ⟨2, nI v, _, Or.inr rfl, ?_, ?_, rfl⟩
      · rw [if_neg (nI_nlt (by omega) (by omega)), if_neg (nI_ge (by omega) (by omega)), show mX4_fail S 25 2 = _ from hfail 2, Option.bind_some]
      · rw [Option.bind_some, if_pos (Or.inr (nI_lt hm (by omega))), if_pos rfl]; rfl
  · refine Or.inl ⟨1, gI S 23 4, _, Or.inl rfl, ?_, ?_, rfl⟩
    · rw [if_neg (show ¬ nI κ = (2 : Int32) from fun e => h2 ((nI_eq (a := κ) (b := 2) (by omega) (by decide)).mp e)), show mX4_fail S 25 1 = _ from hfail 1, Option.bind_some]
    · rw [if_neg (fun e => h2 (ht.mp e))]; rfl
theorem tnf {S : xS} {a b : Int32} (h : ¬ gI S 25 4 = 0) : mX4_takeNumber S 25 a b = some (0, S) := by
  unfold mX4_takeNumber
  rw [if_neg h]
/-- a clause is written down by the class -/
theorem addc {q n : Nat} {S : xS} (hC : RCr S) (hq : q < 4) (h10 : gI S (26 + 6 * q) 10 = nI n) (hn : n < 24) (k a b : Int32) : ∃ S', mX6_addClause S (26 + 6 * q) k a b = some S' ∧ S'.2 = S.2 ∧ (∀ c, c ≠ 26 + 6 * q → c ≠ 26 + 6 * q + 3 → c ≠ 26 + 6 * q + 4 → c ≠ 26 + 6 * q + 5 → gI S' c = gI S c) ∧ (∀ j, j ≠ 10 → gI S' (26 + 6 * q) j = gI S (26 + 6 * q) j) ∧ gI S' (26 + 6 * q) 10 = nI (n + 1) ∧ (gI S' (26 + 6 * q + 3) n = k ∧ gI S' (26 + 6 * q + 4) n = a ∧ gI S' (26 + 6 * q + 5) n = b) ∧ ∀ j, j ≠ n → gI S' (26 + 6 * q + 3) j = gI S (26 + 6 * q + 3) j ∧ gI S' (26 + 6 * q + 4) j = gI S (26 + 6 * q + 4) j ∧ gI S' (26 + 6 * q + 5) j = gI S (26 + 6 * q + 5) j := by
  obtain ⟨x1, x2, x3, x4, x5⟩ := xn_txt hq
  refine ⟨pI (pI (pI (pI S (26 + 6 * q + 3) n k) (26 + 6 * q + 4) n a) (26 + 6 * q + 5) n b) (26 + 6 * q) 10 (nI (n + 1)), ?_, rfl, fun c c1 c2 c3 c4 => ?_, fun j hj => ?_, gI_eq _ _ _ _, ⟨?_, ?_, ?_⟩, fun j hj => ⟨?_, ?_, ?_⟩⟩
  · unfold mX6_addClause
    rw [h10, if_neg (nI_pos (by omega)), if_neg (show ¬ (24 : Int32) ≤ nI n from nI_ge (a := n) (b := 24) hn (by decide)), txt_7 hC hq, Option.bind_some, sI_nI (by rw [x3]; omega) (by rw [x3]; decide), Option.bind_some, gR_pI, txt_8 hC hq, Option.bind_some, gI_ne _ _ _ _ (by omega), h10, sI_nI (by rw [x4]; omega) (by rw [x4]; decide), Option.bind_some, gR_pI, gR_pI, txt_9 hC hq, Option.bind_some, gI_ne _ _ _ _ (by omega), gI_ne _ _ _ _ (by omega), h10, sI_nI (by rw [x5]; omega) (by rw [x5]; decide), Option.bind_some, xlet_eq, gI_ne _ _ _ _ (by omega), gI_ne _ _ _ _ (by omega), gI_ne _ _ _ _ (by omega), h10, nI_1]
  · rw [gIf_ne _ _ _ _ c1, gIf_ne _ _ _ _ c4, gIf_ne _ _ _ _ c3, gIf_ne _ _ _ _ c2]
  · rw [gI_nk _ _ _ _ hj, gI_ne _ _ _ _ (by omega), gI_ne _ _ _ _ (by omega), gI_ne _ _ _ _ (by omega)]
  · rw [gI_ne _ _ _ _ (by omega), gI_ne _ _ _ _ (by omega), gI_ne _ _ _ _ (by omega), gI_eq]
  · rw [gI_ne _ _ _ _ (by omega), gI_ne _ _ _ _ (by omega), gI_eq]
  · rw [gI_ne _ _ _ _ (by omega), gI_eq]
  · rw [gI_ne _ _ _ _ (by omega), gI_ne _ _ _ _ (by omega), gI_ne _ _ _ _ (by omega), gI_nk _ _ _ _ hj]
  · rw [gI_ne _ _ _ _ (by omega), gI_ne _ _ _ _ (by omega), gI_nk _ _ _ _ hj, gI_ne _ _ _ _ (by omega)]
  · rw [gI_ne _ _ _ _ (by omega), gI_nk _ _ _ _ hj, gI_ne _ _ _ _ (by omega), gI_ne _ _ _ _ (by omega)]
/-! the frames of a whole text -/
def BF (q : Nat) (S S' : xS) : Prop := S'.2 = S.2 ∧ (∀ c, c ≠ 23 → c ≠ 25 → ¬ (26 + 6 * q ≤ c ∧ c < 26 + 6 * q + 6) → gI S' c = gI S c) ∧ gI S' 23 1 = gI S 23 1 ∧ gI S' 25 3 = gI S 25 3
def BM (q : Nat) (T T' : xS) : Prop := T'.2.2 = T.2.2 ∧ (∀ c, c ≠ 0 → c ≠ 3 → c ≠ 5 → gI T' c = gI T c) ∧ (∀ k, k < 7 → gI T' 0 k = gI T 0 k) ∧ ∀ i, i < 680 * q ∨ 680 * q + 680 ≤ i → gI T' 3 i = gI T 3 i
theorem BF.rfl' {q : Nat} {S : xS} : BF q S S := ⟨rfl, fun _ _ _ _ => rfl, rfl, rfl⟩
theorem BM.rfl' {q : Nat} {S : xS} : BM q S S := ⟨rfl, fun _ _ _ _ => rfl, fun _ _ => rfl, fun _ _ => rfl⟩
theorem BF.trans {q : Nat} {S S1 S2 : xS} (h : BF q S S1) (g : BF q S1 S2) : BF q S S2 := ⟨g.1.trans h.1, fun c a b d => (g.2.1 c a b d).trans (h.2.1 c a b d), g.2.2.1.trans h.2.2.1, g.2.2.2.trans h.2.2.2⟩
theorem BM.trans {q : Nat} {S S1 S2 : xS} (h : BM q S S1) (g : BM q S1 S2) : BM q S S2 := ⟨g.1.trans h.1, fun c a b d => (g.2.1 c a b d).trans (h.2.1 c a b d), fun k hk => (g.2.2.1 k hk).trans (h.2.2.1 k hk), fun i hi => (g.2.2.2 i hi).trans (h.2.2.2 i hi)⟩
theorem FX.bf {q L : Nat} {S S' : xS} (h : FX q L S S') : BF q S S' := ⟨h.1, fun c a b d => h.2.1 c a b (by omega) (by omega) (by omega), h.2.2.1, h.2.2.2.1 3 (Or.inl (by decide))⟩
theorem FC.bf {q : Nat} {S S' : xS} (h : FC S S') : BF q S S' := (h.fx (q := q) (L := 0)).bf
theorem FE.bm {q W : Nat} {T T' : xS} (h : FE q W T T') : BM q T T' := ⟨h.1, h.2.1, fun k hk => h.2.2.1 k (by omega), fun i hi => h.2.2.2.2 i (by omega)⟩
theorem FM.bm {q : Nat} {T T' : xS} (h : FM T T') : BM q T T' := (h.fe (q := q) (W := 0)).bm
theorem BF.pI25 {q k : Nat} {S : xS} {v : Int32} (hk : k ≠ 3) : BF q S (pI S 25 k v) := ⟨rfl, fun c _ a _ => gIf_ne _ _ _ _ a, gI_ne _ _ _ _ (by decide), gI_nk _ _ _ _ (Ne.symm hk)⟩
theorem BF.pIB {q c k : Nat} {S : xS} {v : Int32} (hc : 26 + 6 * q ≤ c ∧ c < 26 + 6 * q + 6) : BF q S (pI S c k v) := ⟨rfl, fun d _ _ a => gIf_ne _ _ _ _ (fun e => a (e ▸ hc)), gI_ne _ _ _ _ (by omega), gI_ne _ _ _ _ (by omega)⟩
theorem BM.pI0 {q k : Nat} {T : xS} {v : Int32} (hk : 7 ≤ k) : BM q T (pI T 0 k v) := ⟨rfl, fun c a _ _ => gIf_ne _ _ _ _ a, fun j hj => gI_nk _ _ _ _ (by omega), fun i _ => gI_ne _ _ _ _ (by decide)⟩
theorem BM.pI3 {q i : Nat} {T : xS} {v : Int32} (hi : 680 * q ≤ i ∧ i < 680 * q + 680) : BM q T (pI T 3 i v) := ⟨rfl, fun c _ a _ => gIf_ne _ _ _ _ a, fun j _ => gI_ne _ _ _ _ (by decide), fun j hj => gI_nk _ _ _ _ (by omega)⟩
theorem addc_bf {q : Nat} {S S' : xS} (h1 : S'.2 = S.2) (h2 : ∀ c, c ≠ 26 + 6 * q → c ≠ 26 + 6 * q + 3 → c ≠ 26 + 6 * q + 4 → c ≠ 26 + 6 * q + 5 → gI S' c = gI S c) : BF q S S' := ⟨h1, fun c _ _ a => h2 c (by omega) (by omega) (by omega) (by omega), by rw [h2 23 (by omega) (by omega) (by omega) (by omega)], by rw [h2 25 (by omega) (by omega) (by omega) (by omega)]⟩
/-! the clauses so far -/
def LAWs (q : Nat) (S T : xS) (n L W s m : Nat) (t : Bool) : Prop :=
  (t = false ∧ (∀ k, k < n → gI T 3 (680 * q + 1 + 3 * k) ≠ nI s) ∧ gI S (26 + 6 * q) (4 + 2 * s) ≤ gI S (26 + 6 * q) (3 + 2 * s)) ∨
  (t = true ∧ ∃ k fr to f c fM, k < n ∧ (∀ j, j < k → gI T 3 (680 * q + 1 + 3 * j) ≠ nI s) ∧ gI T 3 (680 * q + 1 + 3 * k) = nI s ∧ gI S (26 + 6 * q) (3 + 2 * s) = nI fr ∧ gI S (26 + 6 * q) (4 + 2 * s) = nI to ∧ fr < to ∧ to ≤ L ∧ CEV (gI S (26 + 6 * q + 1)) (gI S (26 + 6 * q + 2)) m fr to 43 f ∧ codL (gI T 3) (680 * q + 75) c fM ∧ fM + c.length ≤ W ∧ gI T 3 (680 * q + 1 + 3 * k + 1) = nI fM ∧ gI T 3 (680 * q + 1 + 3 * k + 2) = nI (fM + c.length) ∧ okC m c ∧ MV m c f)
theorem LAWs.go {q : Nat} {S T S' T' : xS} {n n' L L' W W' s m : Nat} {t : Bool} (h : LAWs q S T n L W s m t) (hn : n ≤ n') (hL : L ≤ L') (hW : W ≤ W') (hn24 : n ≤ 24) (hB : ∀ j, j = 3 + 2 * s ∨ j = 4 + 2 * s → gI S' (26 + 6 * q) j = gI S (26 + 6 * q) j) (hc : ∀ i, i < L → gI S' (26 + 6 * q + 1) i = gI S (26 + 6 * q + 1) i ∧ gI S' (26 + 6 * q + 2) i = gI S (26 + 6 * q + 2) i) (h3 : ∀ i, 680 * q < i → i < 680 * q + 75 + 2 * W → i < 680 * q + 1 + 3 * n ∨ 680 * q + 75 ≤ i → gI T' 3 i = gI T 3 i) (hnew : ∀ k, n ≤ k → k < n' → t = false → gI T' 3 (680 * q + 1 + 3 * k) ≠ nI s) : LAWs q S' T' n' L' W' s m t := by
  rcases h with ⟨h1, h2, h4⟩ | ⟨h1, k, fr, to, f, c, fM, g1, g2, g3, g4, g5, g6, g7, g8, g9, g10, g11, g12, g13, g14⟩
  · refine Or.inl ⟨h1, fun k hk => ?_, by rw [hB _ (Or.inr rfl), hB _ (Or.inl rfl)]; exact h4⟩
    by_cases hkn : k < n
    · rw [h3 _ (by omega) (by omega) (by omega)]; exact h2 k hkn
    · exact hnew k (by omega) hk h1
  · refine Or.inr ⟨h1, k, fr, to, f, c, fM, by omega, fun j hj => by rw [h3 _ (by omega) (by omega) (by omega)]; exact g2 j hj, by rw [h3 _ (by omega) (by omega) (by omega)]; exact g3, by rw [hB _ (Or.inl rfl)]; exact g4, by rw [hB _ (Or.inr rfl)]; exact g5, g6, by omega, g8.congr (fun i _ b' => hc i (by omega)), codL_congr c fM (fun i a b' => h3 i (by omega) (by omega) (by omega)) g9, by omega, by rw [h3 _ (by omega) (by omega) (by omega)]; exact g11, by rw [h3 _ (by omega) (by omega) (by omega)]; exact g12, g13, g14⟩
def CLS (len : Nat) (b : Nat → Nat) (q : Nat) (S T : xS) (n L W onc κ st v bh : Nat) : Prop :=
  (RCr S ∧ RMr T ∧ TP S T len b ∧ TK S T len b κ st v bh ∧ q < 4) ∧ (gR S 25 1 = some (26 + 6 * q) ∧ gI S 25 4 = 0 ∧ gI S 25 5 = -1) ∧ (gI S (26 + 6 * q) 2 = nI L ∧ gI S (26 + 6 * q) 10 = nI n ∧ n ≤ 24) ∧ (gI T 0 12 = nI (680 * q) ∧ gI T 0 14 = nI W ∧ gI T 3 (680 * q) = nI n ∧ gI T 0 18 = 0 ∧ gI T 0 21 = nI onc ∧ onc < 4) ∧ (L ≤ st ∧ W ≤ st) ∧
  (∀ k, k < n → ∃ s, s < 6 ∧ gI S (26 + 6 * q + 3) k = nI (200 + s) ∧ gI T 3 (680 * q + 1 + 3 * k) = nI s ∧ (2 ≤ s → gI S (26 + 6 * q + 4) k = gI T 3 (680 * q + 1 + 3 * k + 1)) ∧ (2 ≤ s → s ≤ 4 → gI S (26 + 6 * q + 5) k = gI T 3 (680 * q + 1 + 3 * k + 2))) ∧
  LAWs q S T n L W 0 3 (onc.testBit 0) ∧ LAWs q S T n L W 1 6 (onc.testBit 1)
/-- a FAULT in a clause -/
def CF (q : Nat) (S T S' : xS) (r : Option (Int32 × xS)) : Prop := ∃ f st' T', (gI S' 25 4 = nI f ∧ gI S' 25 5 = nI st' ∧ f ≠ 0 ∧ f < 7) ∧ BF q S S' ∧ r = some (nI f, T') ∧ gI T' 0 8 = nI st' ∧ BM q T T'

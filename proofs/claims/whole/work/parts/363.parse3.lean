/-! THE PARSERS: the class's small steps; what a reading comes to -/
theorem putc {q : Nat} {ie : Bool} {S : xS} {L : Nat} {op arg : Int32} (h : SE q ie S L) (hq : q < 4) (hL : L < 300) : ∃ S', mX6_put S (26 + 6 * q) op arg = some S' ∧ SE q ie S' (L + 1) ∧ FX q L S S' ∧ gI S' (26 + 6 * q + 1) L = op ∧ gI S' (26 + 6 * q + 2) L = arg ∧ (∀ i, i ≠ L → gI S' (26 + 6 * q + 1) i = gI S (26 + 6 * q + 1) i ∧ gI S' (26 + 6 * q + 2) i = gI S (26 + 6 * q + 2) i) ∧ gI S' 23 = gI S 23 ∧ gI S' 24 = gI S 24 := by
  obtain ⟨x1, x2, x3, x4, x5⟩ := xn_txt hq
  obtain ⟨h1, h2, h3, h4, h5⟩ := h
  obtain ⟨S', e⟩ : ∃ z, z = pI (pI (pI S (26 + 6 * q + 1) L op) (26 + 6 * q + 2) L arg) (26 + 6 * q) 2 (nI (L + 1)) := ⟨_, rfl⟩
  have c : ∀ c, c ≠ 26 + 6 * q → c ≠ 26 + 6 * q + 1 → c ≠ 26 + 6 * q + 2 → gI S' c = gI S c := fun c a b d => by rw [e, gIf_ne _ _ _ _ a, gIf_ne _ _ _ _ d, gIf_ne _ _ _ _ b]
  have o1 : ∀ i, gI S' (26 + 6 * q + 1) i = if i = L then op else gI S (26 + 6 * q + 1) i := fun i => by
    rw [e, gI_ne _ _ _ _ (by omega), gI_ne _ _ _ _ (by omega), gI_pI]
    by_cases q1 : i = L
    · rw [if_pos ⟨rfl, q1⟩, if_pos q1]
    · rw [if_neg (fun p => q1 p.2), if_neg q1]
  have o2 : ∀ i, gI S' (26 + 6 * q + 2) i = if i = L then arg else gI S (26 + 6 * q + 2) i := fun i => by
    rw [e, gI_ne _ _ _ _ (by omega), gI_pI]
    by_cases q1 : i = L
    · rw [if_pos ⟨rfl, q1⟩, if_pos q1]
    · rw [if_neg (fun p => q1 p.2), if_neg q1, gI_ne _ _ _ _ (by omega)]
  refine ⟨S', ?_, ⟨h1.ofR (by rw [e]; rfl), by rw [e]; exact h2, by rw [c 25 (by omega) (by omega) (by omega)]; exact h3, by rw [c 25 (by omega) (by omega) (by omega)]; exact h4, by rw [e, gI_eq]⟩, ⟨by rw [e]; rfl, fun d _ _ a b f => c d a b f, by rw [c 23 (by omega) (by omega) (by omega)], fun k _ => by rw [c 25 (by omega) (by omega) (by omega)], fun k hk => by rw [e, gI_nk _ _ _ _ hk, gI_ne _ _ _ _ (by omega), gI_ne _ _ _ _ (by omega)], fun i hi => ⟨by rw [o1, if_neg (by omega)], by rw [o2, if_neg (by omega)]⟩⟩, by rw [o1, if_pos rfl], by rw [o2, if_pos rfl], fun i hi => ⟨by rw [o1, if_neg hi], by rw [o2, if_neg hi]⟩, c 23 (by omega) (by omega) (by omega), c 24 (by omega) (by omega) (by omega)⟩
  unfold mX6_put
  rw [h5, if_neg (nI_pos (by omega)), if_neg (show ¬ (300 : Int32) ≤ nI L from nI_ge (a := L) (b := 300) hL (by decide)), txt_0 h1 hq, Option.bind_some, sI_nI (by rw [x1]; exact hL) (by rw [x1]; decide), Option.bind_some, gR_pI, txt_1 h1 hq, Option.bind_some, gI_ne _ _ _ _ (by omega), h5, sI_nI (by rw [x2]; exact hL) (by rw [x2]; decide), Option.bind_some, xlet_eq, gI_ne _ _ _ _ (by omega), gI_ne _ _ _ _ (by omega), h5, nI_1, ← e]
/-- the class behind a FAULT -/
def FS (q : Nat) (S : xS) (L : Nat) : Prop := RCr S ∧ gR S 25 1 = some (26 + 6 * q) ∧ ¬ gI S 25 4 = 0 ∧ ∃ Lx, Lx ≤ 300 ∧ L ≤ Lx ∧ gI S (26 + 6 * q) 2 = nI Lx
theorem putf {q : Nat} {S : xS} {L : Nat} {op arg : Int32} (h : FS q S L) (hq : q < 4) : ∃ S', mX6_put S (26 + 6 * q) op arg = some S' ∧ FS q S' L ∧ FX q L S S' ∧ gI S' 25 = gI S 25 := by
  obtain ⟨h1, h2, h3, Lx, l1, l2, l3⟩ := h
  by_cases hl : Lx = 300
  · refine ⟨S, ?_, ⟨h1, h2, h3, Lx, l1, l2, l3⟩, FX.rfl', rfl⟩
    unfold mX6_put
    rw [l3, hl, if_neg (by decide), if_pos (by decide)]
  · obtain ⟨x1, x2, x3, x4, x5⟩ := xn_txt hq
    obtain ⟨S', e⟩ : ∃ z, z = pI (pI (pI S (26 + 6 * q + 1) Lx op) (26 + 6 * q + 2) Lx arg) (26 + 6 * q) 2 (nI (Lx + 1)) := ⟨_, rfl⟩
    have c : ∀ c, c ≠ 26 + 6 * q → c ≠ 26 + 6 * q + 1 → c ≠ 26 + 6 * q + 2 → gI S' c = gI S c := fun c a b d => by rw [e, gIf_ne _ _ _ _ a, gIf_ne _ _ _ _ d, gIf_ne _ _ _ _ b]
    have c25 := c 25 (by omega) (by omega) (by omega)
    refine ⟨S', ?_, ⟨h1.ofR (by rw [e]; rfl), by rw [e]; exact h2, by rw [c25]; exact h3, Lx + 1, by omega, by omega, by rw [e, gI_eq]⟩, ⟨by rw [e]; rfl, fun d _ _ a b f => c d a b f, by rw [c 23 (by omega) (by omega) (by omega)], fun k _ => by rw [c25], fun k hk => by rw [e, gI_nk _ _ _ _ hk, gI_ne _ _ _ _ (by omega), gI_ne _ _ _ _ (by omega)], fun i hi => ⟨by rw [e, gI_ne _ _ _ _ (by omega), gI_ne _ _ _ _ (by omega), gI_nk _ _ _ _ (by omega)], by rw [e, gI_ne _ _ _ _ (by omega), gI_nk _ _ _ _ (by omega), gI_ne _ _ _ _ (by omega)]⟩⟩, c25⟩
    unfold mX6_put
    rw [l3, if_neg (nI_pos (by omega)), if_neg (show ¬ (300 : Int32) ≤ nI Lx from nI_ge (a := Lx) (b := 300) (by omega) (by decide)), txt_0 h1 hq, Option.bind_some, sI_nI (by rw [x1]; omega) (by rw [x1]; decide), Option.bind_some, gR_pI, txt_1 h1 hq, Option.bind_some, gI_ne _ _ _ _ (by omega), l3, sI_nI (by rw [x2]; omega) (by rw [x2]; decide), Option.bind_some, xlet_eq, gI_ne _ _ _ _ (by omega), gI_ne _ _ _ _ (by omega), l3, nI_1, ← e]
theorem aimf {q : Nat} {S : xS} {L i : Nat} (h : FS q S L) (hq : q < 4) (hi : L ≤ i) (hi2 : i < 2 ^ 31) : ∃ S', mX6_aim S (26 + 6 * q) (nI i) = some S' ∧ FS q S' L ∧ FX q L S S' ∧ gI S' 25 = gI S 25 := by
  obtain ⟨h1, h2, h3, Lx, l1, l2, l3⟩ := h
  unfold mX6_aim
  rw [if_neg (nI_pos hi2)]
  by_cases hl : 300 ≤ i
  · exact ⟨S, by rw [if_pos (show (300 : Int32) ≤ nI i from nI_le (a := 300) hl hi2)], ⟨h1, h2, h3, Lx, l1, l2, l3⟩, FX.rfl', rfl⟩
  · obtain ⟨x1, x2, x3, x4, x5⟩ := xn_txt hq
    have c25 : gI (pI S (26 + 6 * q + 2) i (nI Lx)) 25 = gI S 25 := gIf_ne _ _ _ _ (by omega)
    refine ⟨pI S (26 + 6 * q + 2) i (nI Lx), ?_, ⟨h1.ofR rfl, h2, by rw [c25]; exact h3, Lx, l1, l2, by rw [gI_ne _ _ _ _ (by omega)]; exact l3⟩, ⟨rfl, fun d _ _ _ _ f => gIf_ne _ _ _ _ f, gI_ne _ _ _ _ (by omega), fun k _ => by rw [c25], fun k _ => gI_ne _ _ _ _ (by omega), fun j hj => ⟨gI_ne _ _ _ _ (by omega), gI_nk _ _ _ _ (by omega)⟩⟩, c25⟩
    rw [if_neg (show ¬ (300 : Int32) ≤ nI i from nI_ge (a := i) (b := 300) (by omega) (by decide)), txt_1 h1 hq, Option.bind_some, l3, sI_nI (by rw [x2]; omega) (by rw [x2]; decide), Option.bind_some]
theorem aimc {q : Nat} {ie : Bool} {S : xS} {L i : Nat} (h : SE q ie S L) (hq : q < 4) (hi : i < 300) : ∃ S', mX6_aim S (26 + 6 * q) (nI i) = some S' ∧ SE q ie S' L ∧ FX q i S S' ∧ gI S' (26 + 6 * q + 1) = gI S (26 + 6 * q + 1) ∧ gI S' (26 + 6 * q + 2) i = nI L ∧ (∀ j, j ≠ i → gI S' (26 + 6 * q + 2) j = gI S (26 + 6 * q + 2) j) ∧ gI S' 23 = gI S 23 ∧ gI S' 24 = gI S 24 := by
  obtain ⟨h1, h2, h3, h4, h5⟩ := h
  obtain ⟨x1, x2, x3, x4, x5⟩ := xn_txt hq
  have c25 : gI (pI S (26 + 6 * q + 2) i (nI L)) 25 = gI S 25 := gIf_ne _ _ _ _ (by omega)
  refine ⟨pI S (26 + 6 * q + 2) i (nI L), ?_, ⟨h1.ofR rfl, h2, by rw [c25]; exact h3, by rw [c25]; exact h4, by rw [gI_ne _ _ _ _ (by omega)]; exact h5⟩, ⟨rfl, fun d _ _ _ _ f => gIf_ne _ _ _ _ f, gI_ne _ _ _ _ (by omega), fun k _ => by rw [c25], fun k _ => gI_ne _ _ _ _ (by omega), fun j hj => ⟨gI_ne _ _ _ _ (by omega), gI_nk _ _ _ _ (by omega)⟩⟩, gIf_ne _ _ _ _ (by omega), gI_eq _ _ _ _, fun j hj => gI_nk _ _ _ _ hj, gIf_ne _ _ _ _ (by omega), gIf_ne _ _ _ _ (by omega)⟩
  unfold mX6_aim
  rw [if_neg (nI_pos (by omega)), if_neg (show ¬ (300 : Int32) ≤ nI i from nI_ge (a := i) (b := 300) hi (by decide)), txt_1 h1 hq, Option.bind_some, h5, sI_nI (by rw [x2]; exact hi) (by rw [x2]; decide), Option.bind_some]
theorem dO_out {q : Nat} {S : xS} (h : gR S 25 1 = some (26 + 6 * q)) (hq : q < 4) : dO Yc (gR S 25 1) 6 = some (26 + 6 * q) := by rw [h]; exact dO_text hq
/-- a FAULT of the class -/
theorem failc {q : Nat} {ie : Bool} {S : xS} {L st f : Nat} (h : SE q ie S L) (hL : L ≤ 300) (h3 : gI S 23 3 = nI st) (hf : f ≠ 0 ∧ f < 7) : ∃ S', mX4_fail S 25 (nI f) = some S' ∧ FS q S' L ∧ FX q L S S' ∧ gI S' 25 4 = nI f ∧ gI S' 25 5 = nI st := by
  obtain ⟨h1, h2, h4, h5, h6⟩ := h
  refine ⟨pI (pI S 25 4 (nI f)) 25 5 (nI st), ?_, ⟨h1.ofR rfl, h2, ?_, L, hL, Nat.le_refl _, ?_⟩, FX.fail hf.1 hf.2, ?_, gI_eq _ _ _ _⟩
  · unfold mX4_fail
    rw [h4, if_pos rfl, xlet_eq, gR_pI, rc_25_0 h1, Option.bind_some, xlet_eq, gI_ne _ _ _ _ (by decide), h3]
  · rw [gI_nk _ _ _ _ (by decide), gI_eq]
    exact nI_ne0 (by omega) (by omega)
  · rw [gI_ne _ _ _ _ (by omega), gI_ne _ _ _ _ (by omega)]; exact h6
  · rw [gI_nk _ _ _ _ (by decide), gI_eq]
theorem failf {S : xS} {f : Int32} (h : ¬ gI S 25 4 = 0) : mX4_fail S 25 f = some S := by
  unfold mX4_fail
  rw [if_neg h]
theorem takef {S : xS} {k : Int32} (h : ¬ gI S 25 4 = 0) : mX4_take S 25 k = some S := by
  unfold mX4_take
  rw [if_neg h]
theorem takec {S S' : xS} {κ : Nat} (hC : RCr S) (h4 : gI S 25 4 = 0) (hk : gI S 23 2 = nI κ) (ha : mX7_advance S 23 = some S') : mX4_take S 25 (nI κ) = some S' := by
  unfold mX4_take
  rw [if_pos h4, rc_25_0 hC, Option.bind_some, hk, if_pos rfl, Option.bind_some, ha, Option.bind_some]
theorem taken {S S' : xS} {κ k : Nat} (hC : RCr S) (h4 : gI S 25 4 = 0) (hk : gI S 23 2 = nI κ) (hne : κ ≠ k) (h1 : κ < 1000) (h2 : k < 1000) (hf : mX4_fail S 25 1 = some S') : mX4_take S 25 (nI k) = some S' := by
  unfold mX4_take
  rw [if_pos h4, rc_25_0 hC, Option.bind_some, hk, if_neg (fun e => hne ((nI_eq (by omega) (by omega)).mp e)), hf, Option.bind_some]
def mOf (ie : Bool) : Nat := if ie then 6 else 3
def D1 (o : Nat) : Nat := 1 + 5 * (8 - o)
def opsC (pend : List Nat) : List (Nat × Nat) := pend.map (fun x => (x, 0))
/-- how far a value has come: class code from L0 on to L, the reference's from W0 to W, the rest still on the pile -/
def VAL (m q : Nat) (S T : xS) (L0 L W0 W : Nat) (pend : List Nat) (D : Nat) (c : List (Nat × Nat)) (f : (Nat → Nat) → Int) : Prop := L0 < L ∧ CEV (gI S (26 + 6 * q + 1)) (gI S (26 + 6 * q + 2)) m L0 L D f ∧ codL (gI T 3) (680 * q + 75) c W0 ∧ W = W0 + c.length ∧ okC m (c ++ opsC pend) ∧ MV m (c ++ opsC pend) f
def ASK (m q : Nat) (S T : xS) (L0 L W0 W : Nat) (pend : List Nat) (D : Nat) (c : List (Nat × Nat)) (g : (Nat → Nat) → Bool) : Prop := L0 < L ∧ CET (gI S (26 + 6 * q + 1)) (gI S (26 + 6 * q + 2)) m L0 L D g ∧ codL (gI T 3) (680 * q + 75) c W0 ∧ W = W0 + c.length ∧ okC m (c ++ opsC pend) ∧ MT m (c ++ opsC pend) g
theorem VAL.go {m q : Nat} {S T S' T' : xS} {L0 L W0 W D : Nat} {pend : List Nat} {c : List (Nat × Nat)} {f : (Nat → Nat) → Int} (h : VAL m q S T L0 L W0 W pend D c f) (hs : FX q L S S') (ht : FE q W T T') : VAL m q S' T' L0 L W0 W pend D c f := by
  obtain ⟨h1, h2, h3, h4, h5, h6⟩ := h
  exact ⟨h1, h2.congr (fun i _ b => hs.2.2.2.2.2 i b), codL_congr c W0 (fun i a b => ht.2.2.2.2 i (Or.inl (by omega))) h3, h4, h5, h6⟩
theorem ASK.go {m q : Nat} {S T S' T' : xS} {L0 L W0 W D : Nat} {pend : List Nat} {c : List (Nat × Nat)} {f : (Nat → Nat) → Bool} (h : ASK m q S T L0 L W0 W pend D c f) (hs : FX q L S S') (ht : FE q W T T') : ASK m q S' T' L0 L W0 W pend D c f := by
  obtain ⟨h1, h2, h3, h4, h5, h6⟩ := h
  exact ⟨h1, h2.congr (fun i _ b => hs.2.2.2.2.2 i b), codL_congr c W0 (fun i a b => ht.2.2.2.2 i (Or.inl (by omega))) h3, h4, h5, h6⟩
/-- a FAULT, alike in both -/
def FO (len q : Nat) (S T S' : xS) (L W st : Nat) : Prop := ∃ f st' K T', FS q S' L ∧ (gI S' 25 4 = nI f ∧ gI S' 25 5 = nI st' ∧ f ≠ 0 ∧ f < 7) ∧ FX q L S S' ∧ (∀ n, aut (n + K) T = some (nI f, T')) ∧ gI T' 0 8 = nI st' ∧ FE q W T T' ∧ K + st ≤ len + 2
theorem FO.more {len q : Nat} {S T S' S1 T1 : xS} {L W st L1 W1 st1 K : Nat} (h : FO len q S1 T1 S' L1 W1 st1) (hs : FX q L S S1) (ht : FE q W T T1) (hL : L ≤ L1) (hW : W ≤ W1) (ha : ∀ n, aut (n + K) T = aut n T1) (hK : K + st ≤ st1) : FO len q S T S' L W st := by
  obtain ⟨f, st', K', T', h1, h2, h3, h4, h5, h6, h7⟩ := h
  obtain ⟨a1, a2, a3, Lx, a4, a5, a6⟩ := h1
  exact ⟨f, st', K' + K, T', ⟨a1, a2, a3, Lx, a4, by omega, a6⟩, h2, hs.trans h3 hL, fun n => by rw [show n + (K' + K) = n + K' + K by omega, ha, h4], h5, ht.trans h6 hW, by omega⟩
/-- and what the class still does behind it -/
theorem FO.beh {len q : Nat} {S T S' S2 : xS} {L W st : Nat} (h : FO len q S T S' L W st) (hs : FX q L S' S2) (h25 : gI S2 25 = gI S' 25) (hF : FS q S2 L) : FO len q S T S2 L W st := by
  obtain ⟨f, st', K', T', h1, h2, h3, h4, h5, h6, h7⟩ := h
  exact ⟨f, st', K', T', hF, by rw [h25]; exact h2, h3.trans hs (Nat.le_refl _), h4, h5, h6, h7⟩
/-- the class fails here; and so does the reference, at once -/
theorem FO.here {len : Nat} {b : Nat → Nat} {q : Nat} {ie : Bool} {S T S' : xS} {o : Nat} {R : List Nat} {L W κ st v bh : Nat} {wh : Int32} {f K : Nat} (h : EN len b q ie S T o R L W κ st v bh wh) (hs : FS q S' L) (hx : FX q L S S') (h4 : gI S' 25 4 = nI f) (h5 : gI S' 25 5 = nI st) (hf : f ≠ 0 ∧ f < 7) (ha : ∀ n, aut (n + K) T = some (nI f, T)) (hK : K ≤ 2) : FO len q S T S' L W st := by
  have := h.2.2.2.1.2.2.1
  exact ⟨f, st, K, T, hs, ⟨h4, h5, hf.1, hf.2⟩, hx, ha, h.2.2.2.1.2.1.1, FE.rfl', by omega⟩
def OKV (len : Nat) (b : Nat → Nat) (q : Nat) (ie : Bool) (S T S' : xS) (o : Nat) (R0 : List Nat) (L0 W0 L W pl st D : Nat) (isP : List Nat → Prop) (stop : Nat → Prop) : Prop := ∃ T' K pend c f L' W' κ' st' v' bh', EN len b q ie S' T' o (pend ++ R0) L' W' κ' st' v' bh' 1 ∧ isP pend ∧ stop κ' ∧ (∀ n, aut (n + K) T = aut n T') ∧ K + st ≤ st' ∧ FX q L S S' ∧ FE q W T T' ∧ VAL (mOf ie) q S' T' L0 L' W0 W' pend D c f ∧ L' + st ≤ L + st' ∧ W' + pend.length + st ≤ W + pl + st'
def lowR (R : List Nat) (k : Nat) : Prop := ∀ x r, R = x :: r → rk x < k
def is6 (p : List Nat) : Prop := p = [] ∨ p = [5] ∨ p = [6]
def is5 (p : List Nat) : Prop := p = [] ∨ p = [3] ∨ p = [4]
def isSum (p : List Nat) : Prop := ∃ a b, p = a ++ b ∧ is6 a ∧ is5 b
theorem is6_mem {p : List Nat} (h : is6 p) : ∀ x, x ∈ p → x = 5 ∨ x = 6 := by
  intro x hx
  rcases h with rfl | rfl | rfl
  · cases hx
  · rw [List.mem_singleton] at hx; omega
  · rw [List.mem_singleton] at hx; omega
theorem is5_mem {p : List Nat} (h : is5 p) : ∀ x, x ∈ p → x = 3 ∨ x = 4 := by
  intro x hx
  rcases h with rfl | rfl | rfl
  · cases hx
  · rw [List.mem_singleton] at hx; omega
  · rw [List.mem_singleton] at hx; omega
theorem isSum_mem {p : List Nat} (h : isSum p) : ∀ x, x ∈ p → x = 3 ∨ x = 4 ∨ x = 5 ∨ x = 6 := by
  intro x hx
  obtain ⟨a, b, rfl, ha, hb⟩ := h
  rcases List.mem_append.mp hx with hx | hx
  · have := is6_mem ha x hx; omega
  · have := is5_mem hb x hx; omega
theorem cnt2_0 : ∀ p : List Nat, (∀ x, x ∈ p → x ≠ 2 ∧ x ≠ 20) → cnt2 p = 0 := by
  intro p
  induction p with
  | nil => intro _; rfl
  | cons y r ih =>
    intro h
    have := h y (by simp)
    show (if y = 2 ∨ y = 20 then 1 else 0) + cnt2 r = 0
    rw [if_neg (by omega), ih (fun x hx => h x (by simp [hx]))]
/-- a 'not' here would be misplaced -/
def nA (κ : Nat) (R : List Nat) : Prop := κ = 210 → ∀ x r, R = x :: r → (40 ≤ x ∧ x ≠ 41) ∨ 4 ≤ rk x
theorem nA_op {κ x : Nat} {R : List Nat} (h : 4 ≤ rk x) : nA κ (x :: R) := fun _ y r e => by cases e; exact Or.inr h
theorem nA_mk {κ x : Nat} {R : List Nat} (h : 40 ≤ x) (h2 : x ≠ 41) : nA κ (x :: R) := fun _ y r e => by cases e; exact Or.inl ⟨h, h2⟩
/-- what one, a product, a sum come to -/
def OneC (len : Nat) (b : Nat → Nat) (q : Nat) (ie : Bool) (F : xS → Nat → Int32 → Option xS) (o : Nat) : Prop := ∀ S T k R0 L W κ st v bh, EN len b q ie S T o (rep2 k ++ R0) L W κ st v bh 0 → nA κ (rep2 k ++ R0) → k ≤ o → lowR R0 7 → k + R0.length ≤ 6 * o + 6 → ∃ S', F S 25 (nI o) = some S' ∧ (FO len q S T S' L W st ∨ ∃ T' K c f L' W' κ' st' v' bh', EN len b q ie S' T' (o - k) R0 L' W' κ' st' v' bh' 1 ∧ (∀ n, aut (n + K) T = aut n T') ∧ K + st ≤ st' ∧ FX q L S S' ∧ FE q W T T' ∧ codL (gI T' 3) (680 * q + 75) (c ++ opsC (rep2 k)) W ∧ W' = W + c.length + k ∧ okC (mOf ie) c ∧ MV (mOf ie) c f ∧ L < L' ∧ CEV (gI S' (26 + 6 * q + 1)) (gI S' (26 + 6 * q + 2)) (mOf ie) L L' (D1 o) f ∧ L' + st ≤ L + st' ∧ c.length + st ≤ st')
def ProdC (len : Nat) (b : Nat → Nat) (q : Nat) (ie : Bool) (F : xS → Nat → Int32 → Option xS) (o : Nat) : Prop := ∀ S T R0 L W κ st v bh, EN len b q ie S T o R0 L W κ st v bh 0 → nA κ R0 → lowR R0 6 → R0.length ≤ 6 * o + 5 → ∃ S', F S 25 (nI o) = some S' ∧ (FO len q S T S' L W st ∨ OKV len b q ie S T S' o R0 L W L W 0 st (D1 o + 1) is6 (fun κ => κ ≠ 42 ∧ κ ≠ 47))
def SumC (len : Nat) (b : Nat → Nat) (q : Nat) (ie : Bool) (F : xS → Nat → Int32 → Option xS) (o : Nat) : Prop := ∀ S T R0 L W κ st v bh, EN len b q ie S T o R0 L W κ st v bh 0 → nA κ R0 → lowR R0 5 → R0.length ≤ 6 * o + 4 → ∃ S', F S 25 (nI o) = some S' ∧ (FO len q S T S' L W st ∨ OKV len b q ie S T S' o R0 L W L W 0 st (D1 o + 2) isSum (fun κ => κ ≠ 42 ∧ κ ≠ 47 ∧ κ ≠ 43 ∧ κ ≠ 45))
/-- behind a FAULT the readings do nothing -/
def FMr (rec : Nat → xS → Nat → Int32 → Option xS) : Prop := ∀ (S : xS) (v : Int32) (tag : Nat), ¬ gI S 25 4 = 0 → (tag = 0 ∨ tag = 1 ∨ tag = 2 ∨ tag = 4 ∨ tag = 5 ∨ tag = 6) → rec tag S 25 v = some S

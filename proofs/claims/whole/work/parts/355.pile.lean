/-! THE PILE of the reference -/
def rk (x : Nat) : Nat := if 40 ≤ x then 0 else if x = 22 then 1 else if x = 21 then 2 else if x = 20 then 3 else if 10 ≤ x then 4 else if x = 2 then 7 else if 5 ≤ x then 6 else 5
theorem rank_m : ∀ x, x < 64 → ∀ S : xS, mX9_rank S (nI x) = some (nI (rk x), S) := by
  intro x hx S
  have key : ∀ x, x < 64 → (if (nI x < 40 : Prop) then (if (nI x = 22 : Prop) then (1 : Int32) else (if (nI x = 21 : Prop) then 2 else (if (nI x = 20 : Prop) then 3 else (if (nI x < 10 : Prop) then (if (nI x = 2 : Prop) then 7 else (if (nI x < 5 : Prop) then 5 else 6)) else 4)))) else 0) = nI (rk x) := by decide +kernel
  rw [← key x hx]
  unfold mX9_rank
  repeat' split
  all_goals rfl
theorem rk_le (x : Nat) : rk x ≤ 7 := by
  unfold rk
  repeat' split
  all_goals omega
/-- the pile, its top first -/
def stk (f : Nat → Int32) : List Nat → Prop
  | [] => True
  | x :: r => f r.length = nI x ∧ x < 64 ∧ stk f r
def PLr (T : xS) (R : List Nat) : Prop := gI T 0 17 = nI R.length ∧ R.length ≤ 150 ∧ stk (gI T 5) R
theorem stk_congr {f g : Nat → Int32} : ∀ R : List Nat, (∀ i, i < R.length → g i = f i) → stk f R → stk g R := by
  intro R
  induction R with
  | nil => intro _ _; trivial
  | cons x r ih =>
    intro h hs
    exact ⟨(h r.length (by simp)).trans hs.1, hs.2.1, ih (fun i hi => h i (by simp; omega)) hs.2.2⟩
def codL (f : Nat → Int32) (base : Nat) : List (Nat × Nat) → Nat → Prop
  | [], _ => True
  | (o, v) :: r, W => f (base + 2 * W) = nI o ∧ f (base + 2 * W + 1) = nI v ∧ codL f base r (W + 1)
theorem codL_congr {f g : Nat → Int32} {base : Nat} : ∀ (c : List (Nat × Nat)) (W : Nat), (∀ i, base + 2 * W ≤ i → i < base + 2 * (W + c.length) → g i = f i) → codL f base c W → codL g base c W := by
  intro c
  induction c with
  | nil => intro W _ _; trivial
  | cons p r ih =>
    intro W h hc
    obtain ⟨o, v⟩ := p
    have hl : ((o, v) :: r).length = r.length + 1 := rfl
    rw [hl] at h
    exact ⟨(h _ (by omega) (by omega)).trans hc.1, (h _ (by omega) (by omega)).trans hc.2.1, ih (W + 1) (fun i h1 h2 => h i (by omega) (by omega)) hc.2.2⟩
theorem codL_app {f : Nat → Int32} {base : Nat} : ∀ (c d : List (Nat × Nat)) (W : Nat), codL f base (c ++ d) W ↔ codL f base c W ∧ codL f base d (W + c.length) := by
  intro c
  induction c with
  | nil => intro d W; exact ⟨fun h => ⟨trivial, h⟩, fun h => h.2⟩
  | cons p r ih =>
    intro d W
    obtain ⟨o, v⟩ := p
    show (_ ∧ _ ∧ codL f base (r ++ d) (W + 1)) ↔ (_ ∧ _ ∧ codL f base r (W + 1)) ∧ codL f base d (W + (r.length + 1))
    rw [ih d (W + 1), show W + 1 + r.length = W + (r.length + 1) by omega]
    exact ⟨fun h => ⟨⟨h.1, h.2.1, h.2.2.1⟩, h.2.2.2⟩, fun h => ⟨h.1.1, h.1.2.1, h.1.2.2, h.2⟩⟩
/-- the frame of an expression's reading, from the W-th word of text q's code on -/
def FE (q W : Nat) (T T' : xS) : Prop := T'.2.2 = T.2.2 ∧ (∀ c, c ≠ 0 → c ≠ 3 → c ≠ 5 → gI T' c = gI T c) ∧ (∀ k, k < 7 ∨ k = 12 ∨ k = 13 ∨ k = 15 ∨ 20 ≤ k → gI T' 0 k = gI T 0 k) ∧ (∀ c, c ≠ 0 → T'.2.1 c = T.2.1 c) ∧ ∀ i, i < 680 * q + 75 + 2 * W ∨ 680 * q + 680 ≤ i → gI T' 3 i = gI T 3 i
theorem FE.rfl' {q W : Nat} {T : xS} : FE q W T T := ⟨rfl, fun _ _ _ _ => rfl, fun _ _ => rfl, fun _ _ => rfl, fun _ _ => rfl⟩
theorem FE.trans {q W W' : Nat} {T T1 T2 : xS} (h : FE q W T T1) (g : FE q W' T1 T2) (hW : W ≤ W') : FE q W T T2 := ⟨g.1.trans h.1, fun c a b d => (g.2.1 c a b d).trans (h.2.1 c a b d), fun k hk => (g.2.2.1 k hk).trans (h.2.2.1 k hk), fun c hc => (g.2.2.2.1 c hc).trans (h.2.2.2.1 c hc), fun i hi => (g.2.2.2.2 i (by omega)).trans (h.2.2.2.2 i hi)⟩
theorem FM.fe {q W : Nat} {T T' : xS} (h : FM T T') : FE q W T T' := ⟨h.1, fun c a _ _ => h.2.1 c a, fun k hk => h.2.2.1 k (by omega), h.2.2.2, fun i _ => by rw [h.2.1 3 (by decide)]⟩
theorem FE.pI0 {q W k : Nat} {T : xS} {v : Int32} (hk : ¬ (k < 7 ∨ k = 12 ∨ k = 13 ∨ k = 15 ∨ 20 ≤ k)) : FE q W T (pI T 0 k v) := ⟨rfl, fun c a _ _ => gIf_ne _ _ _ _ a, fun j hj => gI_nk _ _ _ _ (fun e => hk (e ▸ hj)), fun _ _ => rfl, fun i _ => gI_ne _ _ _ _ (by decide)⟩
theorem FE.pI5 {q W k : Nat} {T : xS} {v : Int32} : FE q W T (pI T 5 k v) := ⟨rfl, fun c _ _ a => gIf_ne _ _ _ _ a, fun j _ => gI_ne _ _ _ _ (by decide), fun _ _ => rfl, fun i _ => gI_ne _ _ _ _ (by decide)⟩
/-- one word of code more -/
theorem emit_m {T : xS} (hM : RMr T) {q W : Nat} {o v : Int32} (hq : q < 4) (hW : W ≤ 301) (h12 : gI T 0 12 = nI (680 * q)) (h14 : gI T 0 14 = nI W) : ∃ T', mX9_emit T 0 o v = some T' ∧ T'.2 = T.2 ∧ (∀ c, c ≠ 0 → c ≠ 3 → gI T' c = gI T c) ∧ (∀ k, k ≠ 14 → gI T' 0 k = gI T 0 k) ∧ gI T' 0 14 = nI (W + 1) ∧ gI T' 3 (680 * q + 75 + 2 * W) = o ∧ gI T' 3 (680 * q + 75 + 2 * W + 1) = v ∧ ∀ i, i ≠ 680 * q + 75 + 2 * W → i ≠ 680 * q + 75 + 2 * W + 1 → gI T' 3 i = gI T 3 i := by
  have ix : nI (680 * q) + 75 + (2 * nI W) = nI (680 * q + 75 + 2 * W) := by rw [show (75 : Int32) = nI 75 from rfl, show (2 : Int32) = nI 2 from rfl, nI_add, pk_mul, nI_add]
  refine ⟨pI (pI (pI T 3 (680 * q + 75 + 2 * W) o) 3 (680 * q + 75 + 2 * W + 1) v) 0 14 (nI (W + 1)), ?_, rfl, fun c a b => ?_, fun k hk => ?_, gI_eq _ _ _ _, ?_, ?_, fun i h1 h2 => ?_⟩
  · unfold mX9_emit
    rw [rm_2 hM, Option.bind_some, h12, h14, ix, sI_nI (Y := Ym) (c := 3) (by show _ < 2720; omega) (by decide), Option.bind_some, gR_pI, rm_2 hM, Option.bind_some, gI_ne _ _ _ _ (by decide), gI_ne _ _ _ _ (by decide), h12, h14, ix, nI_1, sI_nI (Y := Ym) (c := 3) (by show _ < 2720; omega) (by decide), Option.bind_some, xlet_eq, gI_ne _ _ _ _ (by decide), gI_ne _ _ _ _ (by decide), h14, nI_1]
  · rw [gIf_ne _ _ _ _ a, gIf_ne _ _ _ _ b, gIf_ne _ _ _ _ b]
  · rw [gI_nk _ _ _ _ hk, gI_ne _ _ _ _ (by decide), gI_ne _ _ _ _ (by decide)]
  · rw [gI_ne _ _ _ _ (by decide), gI_nk _ _ _ _ (by omega), gI_eq]
  · rw [gI_ne _ _ _ _ (by decide), gI_eq]
  · rw [gI_ne _ _ _ _ (by decide), gI_nk _ _ _ _ h2, gI_nk _ _ _ _ h1]
def cnt2 : List Nat → Nat
  | [] => 0
  | x :: r => (if x = 2 ∨ x = 20 then 1 else 0) + cnt2 r
/-- settle: the operators on top, of that rank at least, go into the code -/
def SF (q W : Nat) (T T' : xS) : Prop := T'.2 = T.2 ∧ (∀ c, c ≠ 0 → c ≠ 3 → gI T' c = gI T c) ∧ (∀ k, k ≠ 14 → k ≠ 17 → k ≠ 18 → gI T' 0 k = gI T 0 k) ∧ ∀ i, i < 680 * q + 75 + 2 * W ∨ 680 * q + 680 ≤ i → gI T' 3 i = gI T 3 i
theorem SF.fe {q W : Nat} {T T' : xS} (h : SF q W T T') : FE q W T T' := ⟨by rw [h.1], fun c a b _ => h.2.1 c a b, fun k hk => h.2.2.1 k (by omega) (by omega) (by omega), fun c _ => by rw [h.1], h.2.2.2⟩
theorem settle_go {q : Nat} (hq : q < 4) {least : Nat} (hl : least ≤ 7) : ∀ (pend R0 : List Nat) (n W o : Nat) (T : xS), RMr T → gI T 0 12 = nI (680 * q) → gI T 0 14 = nI W → gI T 0 18 = nI o → PLr T (pend ++ R0) → (∀ x, x ∈ pend → least ≤ rk x) → (∀ x r, R0 = x :: r → rk x < least) → W + pend.length ≤ 301 → cnt2 pend ≤ o → o < 1000 → pend.length < n → ∃ T', lX9_settle_0 n T 0 (nI least) = some T' ∧ PLr T' R0 ∧ gI T' 0 14 = nI (W + pend.length) ∧ gI T' 0 18 = nI (o - cnt2 pend) ∧ codL (gI T' 3) (680 * q + 75) (pend.map (fun x => (x, 0))) W ∧ SF q W T T' := by
  intro pend
  induction pend with
  | nil =>
    intro R0 n W o T hM h12 h14 h18 hP hp hR hW ho ho2 hn
    obtain ⟨n, rfl⟩ : ∃ z, n = z + 1 := ⟨n - 1, by omega⟩
    refine ⟨T, ?_, hP, h14, by rw [h18]; rfl, trivial, rfl, fun _ _ _ => rfl, fun _ _ _ _ => rfl, fun _ _ => rfl⟩
    obtain ⟨p1, p2, p3⟩ := hP
    rw [lX9_settle_0.eq_2, p1]
    cases R0 with
    | nil => rw [if_pos (by decide)]
    | cons x r =>
      have p3 : stk (gI T 5) (x :: r) := p3
      have hlen : ([] ++ (x :: r) : List Nat).length = r.length + 1 := rfl
      rw [hlen] at p1 p2 ⊢
      have hr := hR x r rfl
      have := rk_le x
      rw [if_neg (nI_nle (by omega) (by omega)), rm_16 hM, Option.bind_some, show nI (r.length + 1) - 1 = nI r.length from nI_pred _, aI_nI (Y := Ym) (c := 5) (by show _ < 160; omega) (by decide), Option.bind_some, p3.1, rank_m x p3.2.1, Option.bind_some, if_pos (nI_lt hr (by omega))]
  | cons x pend ih =>
    intro R0 n W o T hM h12 h14 h18 hP hp hR hW ho ho2 hn
    obtain ⟨n, rfl⟩ : ∃ z, n = z + 1 := ⟨n - 1, by omega⟩
    obtain ⟨p1, p2, p3⟩ := hP
    have p3 : stk (gI T 5) (x :: (pend ++ R0)) := p3
    have hlen : ((x :: pend) ++ R0 : List Nat).length = (pend ++ R0).length + 1 := rfl
    have hlen2 : (x :: pend).length = pend.length + 1 := rfl
    have hc2 : cnt2 (x :: pend) = (if x = 2 ∨ x = 20 then 1 else 0) + cnt2 pend := rfl
    rw [hlen] at p1 p2
    rw [hlen2] at hW hn ⊢
    rw [hc2] at ho ⊢
    have hrx := hp x (by simp)
    have := rk_le x
    obtain ⟨S6, e6⟩ : ∃ z, z = pI T 0 17 (nI (pend ++ R0).length) := ⟨_, rfl⟩
    have hM6 : RMr S6 := hM.ofR (by rw [e6]; rfl)
    have k6 : ∀ k, k ≠ 17 → gI S6 0 k = gI T 0 k := fun k hk => by rw [e6]; exact gI_nk _ _ _ _ hk
    have c6 : ∀ c, c ≠ 0 → gI S6 c = gI T c := fun c hc => by rw [e6]; exact gIf_ne _ _ _ _ hc
    obtain ⟨S9, m1, m2, m3, m4, m5, m6, m7, m8⟩ := emit_m hM6 (o := nI x) (v := 0) hq (show W ≤ 301 by omega) ((k6 12 (by decide)).trans h12) ((k6 14 (by decide)).trans h14)
    have hM9 : RMr S9 := hM6.ofR (by rw [m2])
    have q5 : gI S9 5 = gI T 5 := (m3 5 (by decide) (by decide)).trans (c6 5 (by decide))
    have a9 : aI Ym S9 5 (nI (pend ++ R0).length) = some (nI x) := by rw [aI_nI (Y := Ym) (c := 5) (by show _ < 160; omega) (by decide), q5, p3.1]
    have a6 : aI Ym S6 5 (nI (pend ++ R0).length) = some (nI x) := by rw [aI_nI (Y := Ym) (c := 5) (by show _ < 160; omega) (by decide), c6 5 (by decide), p3.1]
    have l9 : gI S9 0 17 = nI (pend ++ R0).length := (m4 17 (by decide)).trans (by rw [e6, gI_eq])
    have s9 : T.2 = S9.2 := by rw [m2, e6]; rfl
    have hx64 := p3.2.1
    have c2 : (nI x = (2 : Int32)) ↔ x = 2 := nI_eq (a := x) (b := 2) (by omega) (by decide)
    have c20 : (nI x = (20 : Int32)) ↔ x = 20 := nI_eq (a := x) (b := 20) (by omega) (by decide)
    rw [lX9_settle_0.eq_2, p1, if_neg (nI_nle (by omega) (by omega)), rm_16 hM, Option.bind_some, show nI ((pend ++ R0).length + 1) - 1 = nI (pend ++ R0).length from nI_pred _, aI_nI (Y := Ym) (c := 5) (by show _ < 160; omega) (by decide), Option.bind_some, p3.1, rank_m x hx64, Option.bind_some, if_neg (nI_nlt hrx (by omega)), xlet_eq, p1, show nI ((pend ++ R0).length + 1) - 1 = nI (pend ++ R0).length from nI_pred _]
    dsimp only
    rw [← e6, rm_16 hM6, Option.bind_some, show gI S6 0 17 = nI (pend ++ R0).length by rw [e6, gI_eq], a6, Option.bind_some, m1, Option.bind_some, rm_16 hM9, Option.bind_some, Option.bind_some, l9, a9, Option.bind_some, Option.bind_some]
    -- behind it
    have fin : ∀ S10, S10.2 = S9.2 → (∀ c, c ≠ 0 → gI S10 c = gI S9 c) → (∀ k, k ≠ 18 → gI S10 0 k = gI S9 0 k) → gI S10 0 18 = nI (o - (if x = 2 ∨ x = 20 then 1 else 0)) → ∃ T', lX9_settle_0 n S10 0 (nI least) = some T' ∧ PLr T' R0 ∧ gI T' 0 14 = nI (W + (pend.length + 1)) ∧ gI T' 0 18 = nI (o - ((if x = 2 ∨ x = 20 then 1 else 0) + cnt2 pend)) ∧ codL (gI T' 3) (680 * q + 75) ((x :: pend).map (fun x => (x, 0))) W ∧ SF q W T T' := by
      intro S10 r1 r2 r3 r4
      obtain ⟨T', f1, f2, f3, f4, f5, f6⟩ := ih R0 n (W + 1) (o - (if x = 2 ∨ x = 20 then 1 else 0)) S10 (hM9.ofR (by rw [r1])) ((r3 12 (by decide)).trans ((m4 12 (by decide)).trans ((k6 12 (by decide)).trans h12))) ((r3 14 (by decide)).trans m5) r4 ⟨(r3 17 (by decide)).trans l9, by omega, by rw [r2 5 (by decide), q5]; exact p3.2.2⟩ (fun y hy => hp y (by simp [hy])) hR (by omega) (by omega) (by omega) (by omega)
      obtain ⟨g1, g2, g3, g4⟩ := f6
      refine ⟨T', f1, f2, by rw [f3]; congr 1; omega, by rw [f4]; congr 1; omega, ⟨?_, ?_, f5⟩, ?_, fun c a b => ?_, fun k a b c => ?_, fun i hi => ?_⟩
      · rw [g4 _ (by omega), r2 3 (by decide)]; exact m6
      · rw [g4 _ (by omega), r2 3 (by decide)]; exact m7
      · rw [g1, r1, s9]
      · rw [g2 c a b, r2 c a, m3 c a b, c6 c a]
      · rw [g3 k a b c, r3 k c, m4 k a, k6 k b]
      · rw [g4 i (by omega), r2 3 (by decide), m8 i (by omega) (by omega), c6 3 (by decide)]
    have h18' : gI S9 0 18 = nI o := (m4 18 (by decide)).trans ((k6 18 (by decide)).trans h18)
    unfold jX9_settle_76
    by_cases hx : x = 2 ∨ x = 20
    · obtain ⟨T', f⟩ := fin (pI S9 0 18 (nI (o - 1))) rfl (fun c hc => gIf_ne _ _ _ _ hc) (fun k hk => gI_nk _ _ _ _ hk) (by rw [gI_eq, if_pos hx])
      refine ⟨T', ?_, f.2⟩
      rw [if_pos hx] at ho
      by_cases h2 : x = 2
      · rw [if_pos (c2.mpr h2), xlet_eq, h18', show (1 : Int32) = nI 1 from rfl, pk_sub (by omega)]
        exact f.1
      · rw [if_neg (fun e => h2 (c2.mp e)), if_pos (c20.mpr (hx.resolve_left h2)), xlet_eq, h18', show (1 : Int32) = nI 1 from rfl, pk_sub (by omega)]
        exact f.1
    · obtain ⟨T', f⟩ := fin S9 rfl (fun _ _ => rfl) (fun _ _ => rfl) (by rw [h18', if_neg hx]; rfl)
      refine ⟨T', ?_, f.2⟩
      rw [if_neg (fun e => hx (Or.inl (c2.mp e))), if_neg (fun e => hx (Or.inr (c20.mp e)))]
      exact f.1
theorem settle_m {q : Nat} (hq : q < 4) {least : Nat} (hl : least ≤ 7) {pend R0 : List Nat} {W o : Nat} {T : xS} (hM : RMr T) (h12 : gI T 0 12 = nI (680 * q)) (h14 : gI T 0 14 = nI W) (h18 : gI T 0 18 = nI o) (hP : PLr T (pend ++ R0)) (hp : ∀ x, x ∈ pend → least ≤ rk x) (hR : ∀ x r, R0 = x :: r → rk x < least) (hW : W + pend.length ≤ 301) (ho : cnt2 pend ≤ o) (ho2 : o < 1000) : ∃ T', mX9_settle T 0 (nI least) = some T' ∧ PLr T' R0 ∧ gI T' 0 14 = nI (W + pend.length) ∧ gI T' 0 18 = nI (o - cnt2 pend) ∧ codL (gI T' 3) (680 * q + 75) (pend.map (fun x => (x, 0))) W ∧ SF q W T T' := by
  have h2 : (pend ++ R0).length ≤ 150 := hP.2.1
  rw [List.length_append] at h2
  exact settle_go hq hl pend R0 5000 W o T hM h12 h14 h18 hP hp hR hW ho ho2 (by omega)
theorem marker_go {T : xS} (hM : RMr T) {mk : Nat} {R1 : List Nat} (hmk : 40 ≤ mk) : ∀ (ops : List Nat) n, stk (gI T 5) (ops ++ mk :: R1) → (ops ++ mk :: R1).length ≤ 150 → (∀ x, x ∈ ops → x < 40) → ops.length < n → lX9_marker_7 n T 0 (nI (ops ++ R1).length) = some (nI R1.length, T) := by
  intro ops
  induction ops with
  | nil =>
    intro n hs hlen ho hn
    obtain ⟨n, rfl⟩ : ∃ z, n = z + 1 := ⟨n - 1, by omega⟩
    have hs : stk (gI T 5) (mk :: R1) := hs
    have hlen : (mk :: R1).length ≤ 150 := hlen
    have h1 : (mk :: R1).length = R1.length + 1 := rfl
    have h2 : ([] ++ R1 : List Nat) = R1 := rfl
    have := hs.2.1
    rw [h2, lX9_marker_7.eq_2, if_neg (nI_pos (by omega)), rm_16 hM, Option.bind_some, aI_nI (Y := Ym) (c := 5) (by show _ < 160; omega) (by decide), Option.bind_some, hs.1, if_pos (show (40 : Int32) ≤ nI mk from nI_le (a := 40) hmk (by omega))]
  | cons x ops ih =>
    intro n hs hlen ho hn
    obtain ⟨n, rfl⟩ : ∃ z, n = z + 1 := ⟨n - 1, by omega⟩
    have hs : stk (gI T 5) (x :: (ops ++ mk :: R1)) := hs
    have h1 : ((x :: ops) ++ mk :: R1 : List Nat).length = (ops ++ mk :: R1).length + 1 := rfl
    have h2 : ((x :: ops) ++ R1 : List Nat).length = (ops ++ R1).length + 1 := rfl
    have h3 : (ops ++ mk :: R1 : List Nat).length = (ops ++ R1).length + 1 := by simp; omega
    have h4 : (x :: ops : List Nat).length = ops.length + 1 := rfl
    have hx := ho x (by simp)
    have hsx := hs.1
    rw [h3] at hsx
    rw [h1] at hlen
    rw [h2, lX9_marker_7.eq_2, if_neg (nI_pos (by omega)), rm_16 hM, Option.bind_some, aI_nI (Y := Ym) (c := 5) (by show _ < 160; omega) (by decide), Option.bind_some, hsx, if_neg (show ¬ (40 : Int32) ≤ nI x from nI_ge (a := x) (b := 40) hx (by decide)), pk_m1]
    exact ih n hs.2.2 (by omega) (fun y hy => ho y (by simp [hy])) (by omega)
theorem marker_m {T : xS} (hM : RMr T) {mk : Nat} {ops R1 : List Nat} (hP : PLr T (ops ++ mk :: R1)) (hmk : 40 ≤ mk) (ho : ∀ x, x ∈ ops → x < 40) : mX9_marker T 0 = some (nI R1.length, T) := by
  obtain ⟨p1, p2, p3⟩ := hP
  unfold mX9_marker
  have h3 : (ops ++ mk :: R1 : List Nat).length = (ops ++ R1).length + 1 := by simp; omega
  have h4 : ops.length ≤ (ops ++ R1).length := by simp
  rw [p1, h3, show nI ((ops ++ R1).length + 1) - 1 = nI (ops ++ R1).length from nI_pred _]
  exact marker_go hM hmk ops 5000 p3 p2 ho (by omega)
theorem marker0_go {T : xS} (hM : RMr T) : ∀ (ops : List Nat) n, stk (gI T 5) ops → ops.length ≤ 150 → (∀ x, x ∈ ops → x < 40) → ops.length < n → lX9_marker_7 n T 0 (nI ops.length - 1) = some (-1, T) := by
  intro ops
  induction ops with
  | nil =>
    intro n hs hlen ho hn
    obtain ⟨n, rfl⟩ : ∃ z, n = z + 1 := ⟨n - 1, by omega⟩
    have : nI ([] : List Nat).length - 1 = -1 := by decide
    rw [this, lX9_marker_7.eq_2, if_pos (by decide)]
  | cons x ops ih =>
    intro n hs hlen ho hn
    obtain ⟨n, rfl⟩ : ∃ z, n = z + 1 := ⟨n - 1, by omega⟩
    have h4 : (x :: ops : List Nat).length = ops.length + 1 := rfl
    rw [h4] at hlen hn ⊢
    have hx := ho x (by simp)
    rw [show nI (ops.length + 1) - 1 = nI ops.length from nI_pred _, lX9_marker_7.eq_2, if_neg (nI_pos (by omega)), rm_16 hM, Option.bind_some, aI_nI (Y := Ym) (c := 5) (by show _ < 160; omega) (by decide), Option.bind_some, hs.1, if_neg (show ¬ (40 : Int32) ≤ nI x from nI_ge (a := x) (b := 40) hx (by decide))]
    have e : nI ops.length + (-1) = nI ops.length - 1 := by
      cases ops with
      | nil => decide
      | cons y r => rw [show (y :: r).length = r.length + 1 from rfl, pk_m1, nI_pred]
    rw [e]
    exact ih n hs.2.2 (by omega) (fun y hy => ho y (by simp [hy])) (by omega)
theorem marker_0 {T : xS} (hM : RMr T) {ops : List Nat} (hP : PLr T ops) (ho : ∀ x, x ∈ ops → x < 40) : mX9_marker T 0 = some (-1, T) := by
  obtain ⟨p1, p2, p3⟩ := hP
  unfold mX9_marker
  rw [p1]
  exact marker0_go hM ops 5000 p3 p2 ho (by omega)
theorem comp_go {T : xS} (hM : RMr T) {x : Nat} {R1 : List Nat} (hx : rk x ≤ 4) : ∀ (hi : List Nat) n, stk (gI T 5) (hi ++ x :: R1) → (hi ++ x :: R1).length ≤ 150 → (∀ y, y ∈ hi → 4 < rk y) → hi.length < n → lX9_isCompared_7 n T 0 (nI (hi ++ R1).length) = some (if rk x = 4 then 1 else 0, T) := by
  intro hi
  induction hi with
  | nil =>
    intro n hs hlen ho hn
    obtain ⟨n, rfl⟩ : ∃ z, n = z + 1 := ⟨n - 1, by omega⟩
    have hs : stk (gI T 5) (x :: R1) := hs
    have hlen : (x :: R1).length ≤ 150 := hlen
    have h1 : (x :: R1).length = R1.length + 1 := rfl
    have h2 : ([] ++ R1 : List Nat) = R1 := rfl
    have hx64 := hs.2.1
    have a5 : aI Ym T 5 (nI R1.length) = some (nI x) := by rw [aI_nI (Y := Ym) (c := 5) (by show _ < 160; omega) (by decide), hs.1]
    rw [h2, lX9_isCompared_7.eq_2, if_neg (nI_pos (by omega)), rm_16 hM, Option.bind_some, a5, Option.bind_some, rank_m x hx64, Option.bind_some, if_pos (show nI (rk x) ≤ (4 : Int32) from nI_le (b := 4) hx (by decide))]
    unfold jX9_isCompared_30
    dsimp only
    rw [if_neg (nI_pos (by omega)), rm_16 hM, Option.bind_some, a5, Option.bind_some, rank_m x hx64, Option.bind_some]
    by_cases h : rk x = 4
    · rw [if_pos (show nI (rk x) = (4 : Int32) by rw [h]; rfl), if_pos h]
    · rw [if_neg (show ¬ nI (rk x) = (4 : Int32) from fun e => h ((nI_eq (a := rk x) (b := 4) (by omega) (by decide)).mp e)), if_neg h]
  | cons y hi ih =>
    intro n hs hlen ho hn
    obtain ⟨n, rfl⟩ : ∃ z, n = z + 1 := ⟨n - 1, by omega⟩
    have hs : stk (gI T 5) (y :: (hi ++ x :: R1)) := hs
    have h1 : ((y :: hi) ++ x :: R1 : List Nat).length = (hi ++ x :: R1).length + 1 := rfl
    have h2 : ((y :: hi) ++ R1 : List Nat).length = (hi ++ R1).length + 1 := rfl
    have h3 : (hi ++ x :: R1 : List Nat).length = (hi ++ R1).length + 1 := by simp; omega
    have h4 : (y :: hi : List Nat).length = hi.length + 1 := rfl
    have hy := ho y (by simp)
    have := rk_le y
    have hsx := hs.1
    rw [h3] at hsx
    rw [h1] at hlen
    rw [h2, lX9_isCompared_7.eq_2, if_neg (nI_pos (by omega)), rm_16 hM, Option.bind_some, aI_nI (Y := Ym) (c := 5) (by show _ < 160; omega) (by decide), Option.bind_some, hsx, rank_m y hs.2.1, Option.bind_some, if_neg (show ¬ nI (rk y) ≤ (4 : Int32) from nI_ge (a := 4) (b := rk y) hy (by omega)), pk_m1]
    exact ih n hs.2.2 (by omega) (fun z hz => ho z (by simp [hz])) (by omega)
theorem comp_m {T : xS} (hM : RMr T) {x : Nat} {hi R1 : List Nat} (hP : PLr T (hi ++ x :: R1)) (hx : rk x ≤ 4) (ho : ∀ y, y ∈ hi → 4 < rk y) : mX9_isCompared T 0 = some (if rk x = 4 then 1 else 0, T) := by
  obtain ⟨p1, p2, p3⟩ := hP
  unfold mX9_isCompared
  have h3 : (hi ++ x :: R1 : List Nat).length = (hi ++ R1).length + 1 := by simp; omega
  have h4 : hi.length ≤ (hi ++ R1).length := by simp
  rw [p1, h3, show nI ((hi ++ R1).length + 1) - 1 = nI (hi ++ R1).length from nI_pred _]
  exact comp_go hM hx hi 5000 p3 p2 ho (by omega)
theorem push_m {T : xS} (hM : RMr T) {R : List Nat} {x : Nat} (hP : PLr T R) (hx : x < 64) (hl : R.length < 150) : ∃ T', mX9_push T 0 (nI x) = some T' ∧ PLr T' (x :: R) ∧ T'.2 = T.2 ∧ (∀ c, c ≠ 0 → c ≠ 5 → gI T' c = gI T c) ∧ ∀ k, k ≠ 17 → gI T' 0 k = gI T 0 k := by
  obtain ⟨p1, p2, p3⟩ := hP
  refine ⟨pI (pI T 5 R.length (nI x)) 0 17 (nI (R.length + 1)), ?_, ⟨gI_eq _ _ _ _, hl, ?_, hx, ?_⟩, rfl, fun c a b => ?_, fun k hk => ?_⟩
  · unfold mX9_push
    rw [rm_16 hM, Option.bind_some, p1, sI_nI (Y := Ym) (c := 5) (by show _ < 160; omega) (by decide), Option.bind_some, xlet_eq, gI_ne _ _ _ _ (by decide), p1, nI_1]
  · rw [gI_ne _ _ _ _ (by decide), gI_eq]
  · refine stk_congr R (fun i hi => ?_) p3
    rw [gI_ne _ _ _ _ (by decide), gI_nk _ _ _ _ (by omega)]
  · rw [gIf_ne _ _ _ _ a, gIf_ne _ _ _ _ b]
  · rw [gI_nk _ _ _ _ hk, gI_ne _ _ _ _ (by decide)]

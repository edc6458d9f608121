/-! saint: the class -/
def csN (Sc : xS) (s : Nat) : Nat := if s < 6 then (gI Sc 2 (6 + s)).toNatClampNeg else 2
theorem csN_ok {Sc : xS} {nS : Nat} (h : okRow (gI Sc 2) nS) : (∀ s, csN Sc s < 3) ∧ (∀ s, s < 6 → gI Sc 2 (6 + s) = nI (csN Sc s)) ∧ ∀ s, nS ≤ s → csN Sc s = 2 := by
  have hs := h.2.2.1
  refine ⟨fun s => ?_, fun s h6 => ?_, fun s hn => ?_⟩
  · unfold csN
    split
    · next q =>
      obtain ⟨v, h1, h2⟩ := (hs s q).1
      rw [h2, nI_clamp (by omega)]
      exact h1
    · decide
  · unfold csN
    obtain ⟨v, h1, h2⟩ := (hs s h6).1
    rw [if_pos h6, h2, nI_clamp (by omega)]
  · unfold csN
    split
    · next q =>
      rw [(hs s q).2 hn]
      decide
    · rfl
theorem try_step {Sc S : xS} {nS t set i n c : Nat} (hok : okRow (gI Sc 2) nS) (hS : CE Sc S) (ht : t < 2) (hset : set < 64) (hi : i < 6) : ∃ S', lX2_trySeats_5 (n + 1) S 17 (nI t) (nI set) (nI c) (nI i) = lX2_trySeats_5 n S' 17 (nI t) (nI set) (nI (c + (if trN (csN Sc) t set i = csN Sc i then 0 else 1))) (nI (i + 1)) ∧ S'.2 = S.2 ∧ (∀ c, c ≠ 19 → gI S' c = gI S c) ∧ gI S' 19 i = nI (trN (csN Sc) t set i) ∧ ∀ j, j ≠ i → gI S' 19 j = gI S 19 j := by
  obtain ⟨h1, h2, h3⟩ := csN_ok hok
  have hc3 := h1 i
  have hC := hS.1
  have hseat : mX1_seatOf S 1 (nI i) = some (nI (csN Sc i), S) := by rw [seatOf_c hC hi, hS.2.2.2 2 (by omega), h2 i hi]
  obtain ⟨S2, e2⟩ : ∃ z, z = pI S 19 i (nI (csN Sc i)) := ⟨_, rfl⟩
  have hC2 : RCr S2 := hC.ofR (by rw [e2]; rfl)
  have fr2 : ∀ v : Int32, (pI S2 19 i v).2 = S.2 ∧ (∀ c, c ≠ 19 → gI (pI S2 19 i v) c = gI S c) ∧ gI (pI S2 19 i v) 19 i = v ∧ ∀ j, j ≠ i → gI (pI S2 19 i v) 19 j = gI S 19 j := fun v => ⟨by rw [e2]; rfl, fun c hc => by rw [gIf_ne _ _ _ _ hc, e2, gIf_ne _ _ _ _ hc], gI_eq _ _ _ _, fun j hj => by rw [gI_nk _ _ _ _ hj, e2, gI_nk _ _ _ _ hj]⟩
  have fr1 : S2.2 = S.2 ∧ (∀ c, c ≠ 19 → gI S2 c = gI S c) ∧ gI S2 19 i = nI (csN Sc i) ∧ ∀ j, j ≠ i → gI S2 19 j = gI S 19 j := ⟨by rw [e2]; rfl, fun c hc => by rw [e2, gIf_ne _ _ _ _ hc], by rw [e2, gI_eq], fun j hj => by rw [e2, gI_nk _ _ _ _ hj]⟩
  have eqt : (nI (csN Sc i) = nI t) ↔ csN Sc i = t := nI_eq (by omega) (by omega)
  rw [lX2_trySeats_5.eq_2, if_neg (show ¬ (6 : Int32) ≤ nI i from nI_ge (a := i) (b := 6) hi (by decide)), rc_17_0 hC, Option.bind_some, hseat, Option.bind_some, bit_c set hset i hi]
  dsimp only
  unfold jX2_trySeats_37
  have hs19 : sI Yc S 19 (nI i) (nI (csN Sc i)) = some S2 := by rw [e2]; exact sI_nI (Y := Yc) (c := 19) (by show _ < 6; omega) (by decide)
  rw [rc_17_3 hC]
  simp only [Option.bind_some, hs19, nI_1]
  unfold trN
  by_cases hb : set.testBit i = true
  · rw [hb, if_neg (show ¬ (if true = true then (1 : Int32) else 0) = 0 by decide), if_neg n10, if_pos rfl]
    by_cases hq : csN Sc i = t
    · rw [if_pos (eqt.mpr hq), if_pos hq.symm]
      unfold jX2_trySeats_73
      rw [if_neg n10, nI_1]
      exact ⟨S2, rfl, fr1.1, fr1.2.1, by rw [fr1.2.2.1, hq], fr1.2.2.2⟩
    · rw [if_neg (fun q => hq (eqt.mp q)), if_neg (fun q => hq q.symm), rc_17_3 hC2, Option.bind_some, sI_nI (Y := Yc) (c := 19) (by show _ < 6; omega) (by decide), Option.bind_some]
      exact ⟨_, rfl, fr2 _⟩
  · have hb : set.testBit i = false := by simpa using hb
    rw [hb, if_pos (show (if false = true then (1 : Int32) else 0) = 0 by decide), if_pos trivial, if_neg (show ¬ false = true by decide)]
    unfold jX2_trySeats_73
    rw [if_pos rfl, nI_1]
    by_cases hq : csN Sc i = t
    · rw [if_pos (eqt.mpr hq), if_pos hq, rc_17_3 hC2, Option.bind_some, if_neg (show ¬ 1 - t = csN Sc i by omega), nI_1 i]
      rcases (show t = 0 ∨ t = 1 by omega) with rfl | rfl
      · rw [if_pos (by decide), sI_nI (Y := Yc) (c := 19) (by show _ < 6; omega) (by decide), Option.bind_some]
        exact ⟨_, rfl, fr2 _⟩
      · rw [if_neg (by decide), sI_nI (Y := Yc) (c := 19) (by show _ < 6; omega) (by decide), Option.bind_some]
        exact ⟨_, rfl, fr2 _⟩
    · rw [if_neg (fun q => hq (eqt.mp q)), if_neg hq, if_pos rfl, nI_1]
      exact ⟨S2, rfl, fr1⟩
theorem try_go {Sc : xS} {nS t set : Nat} (hok : okRow (gI Sc 2) nS) (ht : t < 2) (hset : set < 64) : ∀ e i n S, e + i = 6 → e < n → CE Sc S → (∀ s, s < i → gI S 19 s = nI (trN (csN Sc) t set s)) → ∃ S', lX2_trySeats_5 n S 17 (nI t) (nI set) (nI (chN (trN (csN Sc) t set) (csN Sc) i)) (nI i) = some (nI (chN (trN (csN Sc) t set) (csN Sc) 6), S') ∧ S'.2 = S.2 ∧ (∀ c, c ≠ 19 → gI S' c = gI S c) ∧ ∀ s, s < 6 → gI S' 19 s = nI (trN (csN Sc) t set s) := by
  intro e
  induction e with
  | zero =>
    intro i n S hi hn hS hp
    obtain ⟨n, rfl⟩ : ∃ q, n = q + 1 := ⟨n - 1, by omega⟩
    have hi : i = 6 := by omega
    subst hi
    exact ⟨S, by rw [lX2_trySeats_5.eq_2, if_pos (by decide)], rfl, fun _ _ => rfl, hp⟩
  | succ e ih =>
    intro i n S hi hn hS hp
    obtain ⟨n, rfl⟩ : ∃ q, n = q + 1 := ⟨n - 1, by omega⟩
    obtain ⟨S1, q1, q2, q3, q4, q5⟩ := try_step (n := n) (c := chN (trN (csN Sc) t set) (csN Sc) i) hok hS ht hset (show i < 6 by omega)
    obtain ⟨S', r1, r2, r3, r4⟩ := ih (i + 1) n S1 (by omega) (by omega) (hS.go (by rw [q2]) (fun c hc => q3 c (by omega))) (fun s hs => by
      by_cases h : s = i
      · subst h; exact q4
      · rw [q5 s h]; exact hp s (by omega))
    exact ⟨S', q1.trans r1, r2.trans q2, fun c hc => (r3 c hc).trans (q3 c hc), r4⟩
theorem lower_go {S : xS} (hC : RCr S) {f g : Nat → Nat} (hf : ∀ s, f s < 3) (hg : ∀ s, g s < 3) (h19 : ∀ s, s < 6 → gI S 19 s = nI (f s)) (h20 : ∀ s, s < 6 → gI S 20 s = nI (g s)) : ∀ e i n, e + i = 6 → e < n → (∀ s, s < i → f s = g s) → lX2_triedIsLower_2 n S 17 (nI i) = some (if val3 f 6 < val3 g 6 then 1 else 0, S) := by
  intro e
  induction e with
  | zero =>
    intro i n hi hn hp
    obtain ⟨n, rfl⟩ : ∃ q, n = q + 1 := ⟨n - 1, by omega⟩
    have hi : i = 6 := by omega
    subst hi
    rw [lX2_triedIsLower_2.eq_2, if_pos (by decide), if_neg (by rw [val3_congr 6 hp]; omega)]
  | succ e ih =>
    intro i n hi hn hp
    obtain ⟨n, rfl⟩ : ∃ q, n = q + 1 := ⟨n - 1, by omega⟩
    have hfi := hf i
    have hgi := hg i
    rw [lX2_triedIsLower_2.eq_2, if_neg (show ¬ (6 : Int32) ≤ nI i from nI_ge (a := i) (b := 6) (by omega) (by decide)), rc_17_3 hC, rc_17_4 hC]
    have b19 : aI Yc S 19 (nI i) = some (nI (f i)) := by rw [aI_nI (Y := Yc) (c := 19) (by show _ < 6; omega) (by decide), h19 i (by omega)]
    have b20 : aI Yc S 20 (nI i) = some (nI (g i)) := by rw [aI_nI (Y := Yc) (c := 20) (by show _ < 6; omega) (by decide), h20 i (by omega)]
    simp only [Option.bind_some, b19, b20, nI_1]
    by_cases hq : f i = g i
    · rw [if_pos (by rw [hq])]
      exact ih (i + 1) n (by omega) (by omega) (fun s hs => by
        by_cases h : s = i
        · subst h; exact hq
        · exact hp s (by omega))
    · rw [if_neg (fun q => hq ((nI_eq (by omega) (by omega)).mp q))]
      by_cases hlt : f i < g i
      · have hv := val3_lex hf hp hlt (6 - (i + 1))
        rw [show i + 1 + (6 - (i + 1)) = 6 by omega] at hv
        rw [if_neg (nI_ge hlt (by omega)), if_pos hv]
      · have hv := val3_lex hg (fun s hs => (hp s hs).symm) (show g i < f i by omega) (6 - (i + 1))
        rw [show i + 1 + (6 - (i + 1)) = 6 by omega] at hv
        rw [if_pos (nI_le (by omega) (by omega)), if_neg (by omega)]
/-- does the day come just behind the dawns -/
def jN (sl : Nat → Nat → Nat → Nat) (ea : Nat → Nat → Nat → Nat → Nat → Nat) (nS set t k w dy : Nat) : Nat → Nat → Nat → Nat → Bool
  | 0, _, d, _ => decide (dy ≤ d)
  | e + 1, i, d, l => if dy ≤ d then false else jN sl ea nS set t k w dy e (i + 1) (bakeD d l k) (dawnL sl ea nS set t d l k (w + i + 1))
theorem bakeD_le {d l k : Nat} : bakeD d l k ≤ d + 1 := by unfold bakeD; split <;> omega
theorem jN_far {sl : Nat → Nat → Nat → Nat} {ea : Nat → Nat → Nat → Nat → Nat → Nat} {nS set t k w dy : Nat} : ∀ e i d l, d + e < dy → jN sl ea nS set t k w dy e i d l = false := by
  intro e
  induction e with
  | zero =>
    intro i d l h
    unfold jN
    simp
    omega
  | succ e ih =>
    intro i d l h
    unfold jN
    rw [if_neg (by omega)]
    have := bakeD_le (d := d) (l := l) (k := k)
    exact ih _ _ _ (by omega)
theorem just_go {Sc Sm : xS} {nS sc w mi : Nat} {sl : Nat → Nat → Nat → Nat} {ea : Nat → Nat → Nat → Nat → Nat → Nat} (hR : RO Sc Sm nS sc w mi sl ea) {t dy set k N : Nat} (ht : t < 2) (hdy : dy < 1000) (hset : set < 2 ^ nS) (hk : k ≤ 60) (hN : N ≤ 30) : ∀ e i fc d l S, e + i = N → e < fc → CE Sc S → d < 1000 → l ≤ 60 → CK 18 S t d l k (w + i) → ∃ S', lX2_comesJustAfter_15 fc S 17 (nI set) (nI dy) (nI N) (nI i) = some (if jN sl ea nS set t k w dy e i d l then 1 else 0, S') ∧ FrX 18 S S' := by
  have hw := hR.2.2.2.1
  intro e
  induction e with
  | zero =>
    intro i fc d l S hi hfc hS hd hl hk1
    obtain ⟨fc, rfl⟩ : ∃ q, fc = q + 1 := ⟨fc - 1, by omega⟩
    have hi : i = N := by omega
    subst hi
    refine ⟨S, ?_, FrX.rfl'⟩
    unfold jN
    rw [lX2_comesJustAfter_15.eq_2, if_pos (nI_le (Nat.le_refl _) (by omega)), rc_17_2 hS.1, Option.bind_some, hk1.2.1]
    by_cases h : dy ≤ d
    · rw [if_neg (nI_nlt h (by omega)), decide_eq_true h, if_pos rfl]
    · rw [if_pos (nI_lt (by omega) (by omega)), decide_eq_false h, if_neg (by decide)]
  | succ e ih =>
    intro i fc d l S hi hfc hS hd hl hk1
    obtain ⟨fc, rfl⟩ : ∃ q, fc = q + 1 := ⟨fc - 1, by omega⟩
    rw [lX2_comesJustAfter_15.eq_2, if_neg (nI_ge (by omega) (by omega)), rc_17_2 hS.1, Option.bind_some, hk1.2.1]
    by_cases h : dy ≤ d
    · rw [if_pos (nI_le h (by omega))]
      refine ⟨S, ?_, FrX.rfl'⟩
      unfold jN
      rw [if_pos h, if_neg (by decide)]
    · rw [if_neg (nI_ge (by omega) (by omega)), Option.bind_some, hk1.2.1, pk_sub (by omega), pk_sub (by omega)]
      by_cases hf : dy - d ≤ N - i
      · rw [if_pos (nI_le hf (by omega)), rc_17_1 hS.1, Option.bind_some, Option.bind_some]
        obtain ⟨S1, c1, c2, c3⟩ := hR.1.dawn_c hS.cb (Or.inr rfl) ht hd hl hk (by omega) hset hk1
        obtain ⟨S', r1, r2⟩ := ih (i + 1) fc _ _ S1 (by omega) (by omega) (c3.ce (Or.inr rfl) hS) (bakeD_lt hd) (dawnL_le hR.1.1 hl) c2
        refine ⟨S', ?_, c3.trans r2⟩
        rw [c1, Option.bind_some, nI_1]
        unfold jN
        rw [if_neg h]
        exact r1
      · rw [if_neg (nI_ge (by omega) (by omega)), jN_far (e + 1) i d l (by omega), if_neg (by decide)]
        exact ⟨S, rfl, FrX.rfl'⟩
theorem saint_go {Sc Sm : xS} {nS sc w mi : Nat} {sl : Nat → Nat → Nat → Nat} {ea : Nat → Nat → Nat → Nat → Nat → Nat} (hR : RO Sc Sm nS sc w mi sl ea) {t dy set k N : Nat} (ht : t < 2) (hdy : dy < 1000) (hset : set < 64) (hk : k ≤ 60) (hN : N ≤ 30) : ∀ e i fm d l T, e + i = N → e < fm → ME Sm T → d < 1000 → l ≤ 60 → MK T t d l k set → ∃ T', lX9_isSaint_14 fm T 0 (nI dy) (nI N) (nI (i + 1)) = some (if jN sl ea nS set t k w dy e i d l then 1 else 0, T') ∧ FrY T T' := by
  have hw := hR.2.2.2.1
  intro e
  induction e with
  | zero =>
    intro i fm d l T hi hfm hT hd hl hk2
    obtain ⟨fm, rfl⟩ : ∃ q, fm = q + 1 := ⟨fm - 1, by omega⟩
    refine ⟨T, ?_, FrY.rfl'⟩
    unfold jN
    rw [lX9_isSaint_14.eq_2, if_pos (nI_lt (by omega) (by omega)), hk2.2.1]
    by_cases h : dy ≤ d
    · rw [if_neg (nI_nlt h (by omega)), decide_eq_true h, if_pos rfl]
    · rw [if_pos (nI_lt (by omega) (by omega)), decide_eq_false h, if_neg (by decide)]
  | succ e ih =>
    intro i fm d l T hi hfm hT hd hl hk2
    obtain ⟨fm, rfl⟩ : ∃ q, fm = q + 1 := ⟨fm - 1, by omega⟩
    rw [lX9_isSaint_14.eq_2, if_neg (nI_nlt (by omega) (by omega)), hk2.2.1]
    by_cases h : dy ≤ d
    · rw [if_neg (nI_nlt h (by omega))]
      refine ⟨T, ?_, FrY.rfl'⟩
      unfold jN
      rw [if_pos h, if_neg (by decide)]
    · obtain ⟨T1, g1, g2, g3⟩ := hR.1.goOn_m (w := w + (i + 1)) hT.mb 0 (by decide) ht hd hl hk (by omega) hset hk2
      obtain ⟨T', r1, r2⟩ := ih (i + 1) fm _ _ T1 (by omega) (by omega) (g3.me hT) (bakeD_lt hd) (dawnL_le hR.1.1 hl) g2
      refine ⟨T', ?_, g3.trans r2⟩
      rw [if_pos (nI_lt (by omega) (by omega)), rm_0 hT.1, Option.bind_some, aI_lit (Y := Ym) (c := 1) (i := 1) 1 rfl (by decide) (by decide), Option.bind_some, hT.2.1 1 (by omega) (by omega), hw.2.2, nI_add, show (0 : Int32) = nI 0 from rfl, g1, Option.bind_some, nI_1]
      unfold jN
      rw [if_neg h]
      exact r1

/-! sisterOf, comes, apart, flour -/
theorem shl_c : ∀ i, i < 6 → (1 : Int32) <<< (nI i &&& 31) = nI (2 ^ i) := by decide +kernel
theorem eatN_one (ea : Nat → Nat → Nat → Nat → Nat → Nat) (s t d w l : Nat) : ∀ k, eatN ea (2 ^ s) t d w k l = if s < k then l - ea s t d w l else l := by
  intro k
  induction k with
  | zero => rw [if_neg (by omega)]; rfl
  | succ k ih =>
    unfold eatN
    rw [ih, Nat.testBit_two_pow]
    by_cases h : s = k
    · subst h
      rw [if_pos (by simp), if_neg (by omega), if_pos (by omega)]
    · rw [if_neg (by simp [h])]
      by_cases h2 : s < k
      · rw [if_pos h2, if_pos (by omega)]
      · rw [if_neg h2, if_neg (by omega)]
theorem sim_sisterOf_ok : sim_sisterOf (RelW RTx) := by
  intro Sc Sm p w h
  have hC := h.1
  have hM := h.2.1
  obtain ⟨hcc, hmm⟩ := h.ce0
  obtain ⟨nS, sc, w0, mi, sl, ea, hR⟩ := h.ro
  obtain ⟨nS2, nT, ns, sc2, nx, nS', nT', ns', sc', nx', hV, hV', hT, hRt⟩ := h.2.2.2.1
  obtain ⟨a1, a2, a3, a4, a5, a6, a7, a8, a9, a10, a11, a12, a13⟩ := hV
  have hn7 := hR.1.2.2.2.2.2.2.1
  have hnS : nS2 = nS := (nI_eq (by omega) (by omega)).mp (a2.1.symm.trans hR.2.1)
  subst hnS
  unfold mX8_sisterOf mX9_sisterOf
  rcases (sis_cases hC hM a1.1 a2 p).symm with c | ⟨s, hs, rfl, c⟩
  · exact ⟨-1, Sc, Sm, by rw [c.1, Option.bind_some, if_pos rfl], by rw [c.2, Option.bind_some, if_pos rfl], h⟩
  rw [c.1, c.2, Option.bind_some, Option.bind_some, if_neg n10, if_neg n10, isIn_eq, Option.bind_some]
  dsimp only
  rw [rc_0_0 hC, rm_0 hM, Option.bind_some, Option.bind_some, appetite_c hC (by omega), seatOf_c hC (by omega), seatOf_m2 hM (by omega)]
  simp only [Option.bind_some]
  by_cases h0 : w = 0
  · subst h0
    refine ⟨gI Sc 4 s, Sc, Sm, by rw [if_pos rfl], ?_, h⟩
    rw [if_neg (by decide), if_neg (by decide), ixa, show nI (16 + 2 * s) + 0 = nI (16 + 2 * s) from nI_add _ 0, aI_nI (Y := Ym) (c := 1) (by show _ < 486; omega) (by decide), Option.bind_some, (a11 s hs).1]
  by_cases h1 : w = 1
  · subst h1
    refine ⟨gI Sc 2 (6 + s), Sc, Sm, by rw [if_neg h0, if_pos rfl], ?_, h⟩
    rw [if_neg (by decide), if_neg (by decide), ixs, aI_nI (Y := Ym) (c := 1) (by show _ < 486; omega) (by decide), Option.bind_some, (a11 s hs).2.1]
  by_cases h2 : w = 2
  · subst h2
    rw [if_neg h0, if_neg h1, if_pos rfl, if_neg (show ¬ (if (2 : Int32) < 0 ∨ (2 : Int32) < 2 then (0 : Int32) else 1) = 0 by decide), if_pos (show (2 : Int32) ≤ 2 by decide), rc_0_3 hC, Option.bind_some]
    unfold mX3_wouldEat
    rw [rc_12_0 hC, Option.bind_some, seatOf_c hC (by omega), Option.bind_some, hR.2.2.2.2.2.1 s hs]
    dsimp only
    obtain ⟨t, ht, et⟩ := (a9.2.2.1 s (by omega)).1
    have et : gI Sc 2 (6 + s) = nI t := et
    rw [et]
    by_cases ht2 : t = 2
    · subst ht2
      exact ⟨0, Sc, Sm, by rw [if_pos (by decide)]; rfl, by rw [if_pos (by decide)], h⟩
    have ht : t < 2 := by omega
    have hne : ¬ nI t = (2 : Int32) := fun q => ht2 ((nI_eq (a := t) (b := 2) (by omega) (by decide)).mp q)
    rw [if_neg hne, if_neg hne]
    obtain ⟨d, l, k, hd, hl, hk, hc3, hm3⟩ := hR.tab ht
    obtain ⟨S6, e6, e7, e8⟩ := hR.load (q := 13) (Or.inl rfl) ht hcc hc3
    have hce6 := e8.ce (Or.inl rfl) hcc
    obtain ⟨w1, w2, w3⟩ := hR.2.2.2.1
    obtain ⟨S7, f1, f2, f3, f4, f5⟩ := hR.1.2.2.2.2.1 S6 hce6.cb 13 t d w0 l (2 ^ s) (Or.inl rfl) ht hd (by omega) hl (Nat.pow_lt_pow_right (by decide) hs) e7.1 e7.2.1 e7.2.2.1 e7.2.2.2.2
    obtain ⟨Sm', g1, g2⟩ := hR.1.2.2.2.2.2.1 Sm hmm.mb s t d w0 l hs ht hd (by omega) hl
    have hle := hR.1.2.1 s t d w0 l
    rw [eatN_one, if_pos hs, show l - (l - ea s t d w0 l) = ea s t d w0 l by omega] at f1
    refine ⟨nI (ea s t d w0 l), S7, Sm', ?_, ?_, h.ce (FrX.ce (q := 13) (Or.inl rfl) ⟨f2, f3⟩ hce6) (g2.y.me hmm)⟩
    · rw [rc_12_1 hC, Option.bind_some, rc_12_0 hC, Option.bind_some, e6, Option.bind_some, rc_12_1 hce6.1, Option.bind_some, shl_c s (by omega), f1]
      rfl
    · rw [ix0, rm_0 hM, Option.bind_some, aI_nI (Y := Ym) (c := 1) (by show _ < 486; omega) (by decide), Option.bind_some, Option.bind_some, aI_lit (Y := Ym) (c := 1) (i := 1) 1 rfl (by decide) (by decide), Option.bind_some, Option.bind_some, nI_1, aI_nI (Y := Ym) (c := 1) (by show _ < 486; omega) (by decide), Option.bind_some, hm3.1, hm3.2.1, w3, g1]
      rfl
  · refine ⟨-1, Sc, Sm, by rw [if_neg h0, if_neg h1, if_neg h2], ?_, h⟩
    by_cases hr : w < 0 ∨ 2 < w
    · rw [if_pos hr, if_pos rfl]
    · exfalso
      have q1 : ¬ w < 0 := fun q => hr (Or.inl q)
      obtain ⟨v, hv, e⟩ := bd_of (B := 2) q1 (Int32.not_lt.mp (fun q => hr (Or.inr q))) (by decide)
      rcases (show v = 0 ∨ v = 1 ∨ v = 2 by omega) with rfl | rfl | rfl
      · exact h0 e
      · exact h1 e
      · exact h2 e
/-- dawns side by side until the day has come -/
theorem comes_go {Sc Sm : xS} {nS sc w mi : Nat} {sl : Nat → Nat → Nat → Nat} {ea : Nat → Nat → Nat → Nat → Nat → Nat} (hR : RO Sc Sm nS sc w mi sl ea) {t dy set k m : Nat} {v3 : Int32} (hv : (v3 = 0 ∧ m = 1) ∨ (v3 = 1 ∧ m = 0)) (ht : t < 2) (hdy : dy < 1000) (hset : set < 2 ^ nS) (hk : k ≤ 60) : ∀ e n fc fm d l S T, e + n = 60 → e + 1 < fc → e + 1 < fm → CE Sc S → ME Sm T → d < 1000 → l ≤ 60 → CK 18 S t d l k (w + n) → MK T t d l k set → ∃ r S' T', lX2_dawnsUntil_25 fc S 17 (nI dy) v3 (nI set) (nI n) = some (r, S') ∧ jX9_comes_58 (lX9_comes_24 fm) T 0 (nI dy) v3 (nI n) = some (r, T') ∧ CE Sc S' ∧ ME Sm T' := by
  have hw := hR.2.2.2.1
  have hn6 := hR.1.2.2.2.2.2.2.1
  intro e
  induction e with
  | zero =>
    intro n fc fm d l S T hn hfc hfm hS hT hd hl hk1 hk2
    obtain ⟨fc, rfl⟩ : ∃ q, fc = q + 1 + 1 := ⟨fc - 2, by omega⟩
    obtain ⟨fm, rfl⟩ : ∃ q, fm = q + 1 := ⟨fm - 1, by omega⟩
    have hn : n = 60 := by omega
    subst hn
    rw [lX2_dawnsUntil_25.eq_2, if_neg (by decide), rc_17_2 hS.1, Option.bind_some, hk1.2.1]
    unfold jX9_comes_58
    rw [hk2.2.1]
    by_cases hlt : d < dy
    · rw [if_pos (nI_lt hlt (by omega)), if_pos (nI_lt hlt (by omega)), rc_17_1 hS.1, Option.bind_some, Option.bind_some]
      obtain ⟨S1, c1, c2, c3⟩ := hR.1.dawn_c hS.cb (Or.inr rfl) ht hd hl hk (by omega) hset hk1
      have hS1 := c3.ce (Or.inr rfl) hS
      rw [c1, Option.bind_some, lX9_comes_24.eq_2, if_pos (show (60 : Int32) < nI 60 + 1 by decide)]
      rcases hv with ⟨rfl, rfl⟩ | ⟨rfl, rfl⟩
      · rw [if_pos rfl, rc_17_2 hS1.1, Option.bind_some]
        obtain ⟨S2, l1, l2, l3⟩ := lose_c (dawnL_le hR.1.1 hl) c2
        rw [l1, Option.bind_some, lX2_dawnsUntil_25.eq_2, if_pos (show (60 : Int32) < nI 60 + 1 by decide)]
        exact ⟨_, _, _, rfl, rfl, l3.ce (Or.inr rfl) hS1, hT⟩
      · rw [if_neg n10, lX2_dawnsUntil_25.eq_2, if_pos (show (60 : Int32) < nI 60 + 1 by decide)]
        exact ⟨_, _, _, rfl, rfl, hS1, hT⟩
    · rw [if_neg (nI_nlt (by omega) (by omega)), if_neg (nI_nlt (by omega) (by omega))]
      exact ⟨_, _, _, rfl, rfl, hS, hT⟩
  | succ e ih =>
    intro n fc fm d l S T hn hfc hfm hS hT hd hl hk1 hk2
    obtain ⟨fc, rfl⟩ : ∃ q, fc = q + 1 := ⟨fc - 1, by omega⟩
    obtain ⟨fm, rfl⟩ : ∃ q, fm = q + 1 := ⟨fm - 1, by omega⟩
    rw [lX2_dawnsUntil_25.eq_2, if_neg (show ¬ (60 : Int32) < nI n from nI_nlt (a := 60) (by omega) (by decide)), rc_17_2 hS.1, Option.bind_some, hk1.2.1]
    unfold jX9_comes_58
    rw [hk2.2.1]
    by_cases hlt : d < dy
    · rw [if_pos (nI_lt hlt (by omega)), if_pos (nI_lt hlt (by omega)), rc_17_1 hS.1, Option.bind_some, Option.bind_some]
      obtain ⟨S1, c1, c2, c3⟩ := hR.1.dawn_c hS.cb (Or.inr rfl) ht hd hl hk (by omega) hset hk1
      have hS1 := c3.ce (Or.inr rfl) hS
      have hm2 : m < 2 := by rcases hv with ⟨_, rfl⟩ | ⟨_, rfl⟩ <;> decide
      obtain ⟨T1, g1, g2, g3⟩ := hR.1.goOn_m (w := w + (n + 1)) hT.mb m hm2 ht hd hl hk (by omega) (set64 hset hn6) hk2
      have hT1 := g3.me hT
      rw [c1, Option.bind_some, lX9_comes_24.eq_2, nI_1, if_neg (show ¬ (60 : Int32) < nI (n + 1) from nI_nlt (a := 60) (by omega) (by decide)), if_neg (nI_nle (by omega) (by omega)), rm_0 hT.1, Option.bind_some, aI_lit (Y := Ym) (c := 1) (i := 1) 1 rfl (by decide) (by decide), Option.bind_some, hT.2.1 1 (by omega) (by omega), hw.2.2, nI_add]
      have hl2 := dawnL_le hR.1.1 (ea := ea) (nS := nS) (set := set) (t := t) (d := d) (h := k) (w := w + (n + 1)) hl
      rcases hv with ⟨rfl, rfl⟩ | ⟨rfl, rfl⟩
      · rw [if_pos rfl, if_pos rfl, rc_17_2 hS1.1, Option.bind_some]
        obtain ⟨S2, l1, l2, l3⟩ := lose_c hl2 c2
        rw [l1, Option.bind_some]
        unfold jX9_comes_55
        rw [show (1 : Int32) = nI 1 from rfl, g1, Option.bind_some]
        obtain ⟨r, S', T', r1, r2, r3, r4⟩ := ih (n + 1) fc fm _ _ S2 T1 (by omega) (by omega) (by omega) (l3.ce (Or.inr rfl) hS1) hT1 (bakeD_lt hd) (by omega) l2 g2
        exact ⟨r, S', T', r1, r2, r3, r4⟩
      · rw [if_neg (by decide), if_neg (by decide)]
        unfold jX9_comes_55
        rw [show (0 : Int32) = nI 0 from rfl, g1, Option.bind_some]
        obtain ⟨r, S', T', r1, r2, r3, r4⟩ := ih (n + 1) fc fm _ _ S1 T1 (by omega) (by omega) (by omega) hS1 hT1 (bakeD_lt hd) hl2 c2 g2
        exact ⟨r, S', T', r1, r2, r3, r4⟩
    · rw [if_neg (nI_nlt (by omega) (by omega)), if_neg (nI_nlt (by omega) (by omega))]
      exact ⟨_, _, _, rfl, rfl, hS, hT⟩
theorem sim_comes_ok : sim_comes (RelW RTx) := by
  intro Sc Sm p w v h hv
  have hC := h.1
  have hM := h.2.1
  obtain ⟨hcc, hmm⟩ := h.ce0
  obtain ⟨nS, sc, w0, mi, sl, ea, hR⟩ := h.ro
  unfold mX8_comes mX9_comes
  rcases (tab_cases p).symm with c | ⟨t, ht, rfl, c⟩
  · exact ⟨-1, Sc, Sm, by rw [(c Sc).1, Option.bind_some, if_pos rfl], by rw [(c Sm).2, Option.bind_some, if_pos rfl], h⟩
  rw [(c Sc).1, (c Sm).2, Option.bind_some, Option.bind_some, if_neg n10, if_neg n10]
  dsimp only
  rcases (day_cases w).symm with c | ⟨dy, hdy, rfl, c⟩
  · exact ⟨-1, Sc, Sm, by rw [(c Sc).1, Option.bind_some, if_pos rfl], by rw [(c Sm).2, Option.bind_some, if_pos rfl], h⟩
  rw [(c Sc).1, (c Sm).2, Option.bind_some, Option.bind_some, if_neg n10, if_neg n10]
  dsimp only
  obtain ⟨d, l, k, hd, hl, hk, hc3, hm3⟩ := hR.tab ht
  obtain ⟨S3, e1, e2, e3⟩ := hR.load (q := 18) (Or.inr rfl) ht hcc hc3
  have hS3 := e3.ce (Or.inr rfl) hcc
  obtain ⟨T3, f1, f2, f3⟩ := hR.setT ht hmm hm3
  have hT3 := f3.me hmm
  obtain ⟨r, S', T', r1, r2, r3, r4⟩ := comes_go hR (v3 := v) (m := if v = 0 then 1 else 0) (by rcases hv with rfl | rfl; exact Or.inl ⟨rfl, rfl⟩; exact Or.inr ⟨rfl, rfl⟩) ht hdy (hR.sit_lt (t := t)).1 hk 60 0 5000 4999 d l S3 T3 rfl (by decide) (by decide) hS3 hT3 hd hl e2 f2
  refine ⟨r, S', T', ?_, ?_, h.ce r3 r4⟩
  · rw [rc_0_4 hC, Option.bind_some]
    unfold mX2_dawnsUntil
    rw [rc_17_2 hC, Option.bind_some, rc_17_0 hC, Option.bind_some, e1, Option.bind_some, rc_17_0 hS3.1, Option.bind_some, hR.sit hS3, Option.bind_some]
    dsimp only
    rw [show (0 : Int32) = nI 0 from rfl, r1]
    rfl
  · rw [f1, Option.bind_some, show (5000 : Nat) = 4999 + 1 from rfl, lX9_comes_24.eq_2, if_neg (by decide), if_pos (by decide)]
    exact r2

/-! apart, flour -/
theorem after_go {Sc Sm : xS} {nS sc w mi : Nat} {sl : Nat → Nat → Nat → Nat} {ea : Nat → Nat → Nat → Nat → Nat → Nat} (hR : RO Sc Sm nS sc w mi sl ea) {t N set k : Nat} (ht : t < 2) (hN : N ≤ 60) (hset : set < 2 ^ nS) (hk : k ≤ 60) : ∀ e i fc fm d l S T, e + i = N → e < fc → e < fm → CE Sc S → ME Sm T → d < 1000 → l ≤ 60 → CK 18 S t d l k (w + i) → MK T t d l k set → ∃ r S' T', lX2_dayAfter_24 fc S 17 (nI N) (nI set) (nI i) = some (r, S') ∧ lX9_dayBehind_7 fm T 0 (nI N) (nI (i + 1)) = some (r, T') ∧ CE Sc S' ∧ ME Sm T' := by
  have hw := hR.2.2.2.1
  have hn6 := hR.1.2.2.2.2.2.2.1
  intro e
  induction e with
  | zero =>
    intro i fc fm d l S T hn hfc hfm hS hT hd hl hk1 hk2
    obtain ⟨fc, rfl⟩ : ∃ q, fc = q + 1 := ⟨fc - 1, by omega⟩
    obtain ⟨fm, rfl⟩ : ∃ q, fm = q + 1 := ⟨fm - 1, by omega⟩
    have hn : i = N := by omega
    subst hn
    rw [lX2_dayAfter_24.eq_2, if_pos (nI_le (Nat.le_refl _) (by omega)), rc_17_2 hS.1, Option.bind_some, hk1.2.1, lX9_dayBehind_7.eq_2, if_pos (nI_lt (by omega) (by omega)), hk2.2.1]
    exact ⟨_, _, _, rfl, rfl, hS, hT⟩
  | succ e ih =>
    intro i fc fm d l S T hn hfc hfm hS hT hd hl hk1 hk2
    obtain ⟨fc, rfl⟩ : ∃ q, fc = q + 1 := ⟨fc - 1, by omega⟩
    obtain ⟨fm, rfl⟩ : ∃ q, fm = q + 1 := ⟨fm - 1, by omega⟩
    obtain ⟨S1, c1, c2, c3⟩ := hR.1.dawn_c hS.cb (Or.inr rfl) ht hd hl hk (by omega) hset hk1
    obtain ⟨T1, g1, g2, g3⟩ := hR.1.goOn_m (w := w + (i + 1)) hT.mb 0 (by decide) ht hd hl hk (by omega) (set64 hset hn6) hk2
    obtain ⟨r, S', T', r1, r2, r3, r4⟩ := ih (i + 1) fc fm _ _ S1 T1 (by omega) (by omega) (by omega) (c3.ce (Or.inr rfl) hS) (g3.me hT) (bakeD_lt hd) (dawnL_le hR.1.1 hl) c2 g2
    refine ⟨r, S', T', ?_, ?_, r3, r4⟩
    · rw [lX2_dayAfter_24.eq_2, if_neg (nI_ge (by omega) (by omega)), rc_17_1 hS.1, Option.bind_some, rc_17_2 hS.1, Option.bind_some, c1, Option.bind_some, nI_1]
      exact r1
    · rw [lX9_dayBehind_7.eq_2, if_neg (nI_nlt (by omega) (by omega)), rm_0 hT.1, Option.bind_some, aI_lit (Y := Ym) (c := 1) (i := 1) 1 rfl (by decide) (by decide), Option.bind_some, hT.2.1 1 (by omega) (by omega), hw.2.2, nI_add, show (0 : Int32) = nI 0 from rfl, g1, Option.bind_some, nI_1]
      exact r2
theorem after_ok {Sc Sm : xS} {nS sc w mi : Nat} {sl : Nat → Nat → Nat → Nat} {ea : Nat → Nat → Nat → Nat → Nat → Nat} (hR : RO Sc Sm nS sc w mi sl ea) {t N : Nat} (ht : t < 2) (hN : N ≤ 60) {S T : xS} (hS : CE Sc S) (hT : ME Sm T) : ∃ r S' T', mX2_dayAfter S 17 (nI t) (nI N) = some (r, S') ∧ mX9_dayBehind T 0 (nI t) (nI N) = some (r, T') ∧ CE Sc S' ∧ ME Sm T' := by
  obtain ⟨d, l, k, hd, hl, hk, hc3, hm3⟩ := hR.tab ht
  obtain ⟨S3, e1, e2, e3⟩ := hR.load (q := 18) (Or.inr rfl) ht hS hc3
  have hS3 := e3.ce (Or.inr rfl) hS
  obtain ⟨T3, f1, f2, f3⟩ := hR.setT ht hT hm3
  have hT3 := f3.me hT
  obtain ⟨r, S', T', r1, r2, r3, r4⟩ := after_go hR ht hN (hR.sit_lt (t := t)).1 hk N 0 5000 5000 d l S3 T3 rfl (by omega) (by omega) hS3 hT3 hd hl e2 f2
  refine ⟨r, S', T', ?_, ?_, r3, r4⟩
  · unfold mX2_dayAfter
    rw [rc_17_2 hS.1, Option.bind_some, rc_17_0 hS.1, Option.bind_some, e1, Option.bind_some, rc_17_0 hS3.1, Option.bind_some, hR.sit hS3, Option.bind_some]
    exact r1
  · unfold mX9_dayBehind
    rw [f1, Option.bind_some]
    exact r2
theorem sim_apart_ok : sim_apart (RelW RTx) := by
  intro Sc Sm p h
  have hC := h.1
  have hM := h.2.1
  obtain ⟨hcc, hmm⟩ := h.ce0
  obtain ⟨nS, sc, w0, mi, sl, ea, hR⟩ := h.ro
  unfold mX8_apart mX9_apart
  rw [isIn_eq, Option.bind_some]
  by_cases h1 : p < 0
  · exact ⟨-1000, Sc, Sm, by rw [if_pos h1], by rw [if_pos (Or.inl h1), if_pos rfl], h⟩
  by_cases h2 : p ≤ 60
  · obtain ⟨N, hN, rfl⟩ := bd_of (B := 60) h1 h2 (by decide)
    obtain ⟨r1, S1, T1, q1, q2, q3, q4⟩ := after_ok hR (t := 0) (by decide) (show N ≤ 60 by omega) hcc hmm
    obtain ⟨r2, S2, T2, p1, p2, p3, p4⟩ := after_ok hR (t := 1) (by decide) (show N ≤ 60 by omega) q3 q4
    refine ⟨r1 - r2, S2, T2, ?_, ?_, h.ce p3 p4⟩
    · rw [if_neg h1, if_pos h2, rc_0_4 hC, Option.bind_some, show (0 : Int32) = nI 0 from rfl, q1, Option.bind_some, rc_0_4 q3.1, Option.bind_some, show (1 : Int32) = nI 1 from rfl, p1]
      rfl
    · rw [if_neg (not_or2 h1 (le_nlt h2)), if_neg n10, show mX9_dayBehind Sm 0 0 (nI N) = some (r1, T1) from q2, Option.bind_some, show mX9_dayBehind T1 0 1 (nI N) = some (r2, T2) from p2]
      rfl
  · exact ⟨-1000, Sc, Sm, by rw [if_neg h1, if_neg h2], by rw [if_pos (Or.inr (nle_lt h2)), if_pos rfl], h⟩
theorem flour_go {Sc Sm : xS} {nS sc w mi : Nat} {sl : Nat → Nat → Nat → Nat} {ea : Nat → Nat → Nat → Nat → Nat → Nat} (hR : RO Sc Sm nS sc w mi sl ea) {t b : Nat} (ht : t < 2) (hb : b < 1000) : ∀ e i fc fm (a : Int32) S T, e + i = b + 1 → e < fc → e < fm → CE Sc S → ME Sm T → ∃ r S' T', lX8_flour_45 fc S 0 (nI t) (nI b) (nI w) a (nI i) = some (r, S') ∧ lX9_flour_34 fm T 0 (nI t) (nI b) a (nI i) = some (r, T') ∧ CE Sc S' ∧ ME Sm T' := by
  have hw := hR.2.2.2.1
  intro e
  induction e with
  | zero =>
    intro i fc fm a S T hn hfc hfm hS hT
    obtain ⟨fc, rfl⟩ : ∃ q, fc = q + 1 := ⟨fc - 1, by omega⟩
    obtain ⟨fm, rfl⟩ : ∃ q, fm = q + 1 := ⟨fm - 1, by omega⟩
    rw [lX8_flour_45.eq_2, if_pos (nI_lt (by omega) (by omega)), lX9_flour_34.eq_2, if_pos (nI_lt (by omega) (by omega))]
    exact ⟨_, _, _, rfl, rfl, hS, hT⟩
  | succ e ih =>
    intro i fc fm a S T hn hfc hfm hS hT
    obtain ⟨fc, rfl⟩ : ∃ q, fc = q + 1 := ⟨fc - 1, by omega⟩
    obtain ⟨fm, rfl⟩ : ∃ q, fm = q + 1 := ⟨fm - 1, by omega⟩
    obtain ⟨S1, q1, q2⟩ := hR.1.2.2.1 S hS.cb t i w ht (by omega) (by omega)
    obtain ⟨T1, p1, p2⟩ := hR.1.2.2.2.1 T hT.mb t i w ht (by omega) (by omega)
    obtain ⟨r, S', T', r1, r2, r3, r4⟩ := ih (i + 1) fc fm (a + nI (sl t i w)) S1 T1 (by omega) (by omega) (by omega) (q2.ce hS) (p2.y.me hT)
    refine ⟨r, S', T', ?_, ?_, r3, r4⟩
    · rw [lX8_flour_45.eq_2, if_neg (nI_nlt (by omega) (by omega)), rc_0_3 hS.1, Option.bind_some, q1, Option.bind_some, nI_1]
      exact r1
    · rw [lX9_flour_34.eq_2, if_neg (nI_nlt (by omega) (by omega)), rm_0 hT.1, Option.bind_some, aI_lit (Y := Ym) (c := 1) (i := 1) 1 rfl (by decide) (by decide), Option.bind_some, hT.2.1 1 (by omega) (by omega), hw.2.2, p1, Option.bind_some, nI_1]
      exact r2
theorem sim_flour_ok : sim_flour (RelW RTx) := by
  intro Sc Sm p x y h
  have hC := h.1
  have hM := h.2.1
  obtain ⟨hcc, hmm⟩ := h.ce0
  obtain ⟨nS, sc, w0, mi, sl, ea, hR⟩ := h.ro
  unfold mX8_flour mX9_flour
  rcases (tab_cases p).symm with c | ⟨t, ht, rfl, c⟩
  · exact ⟨-1, Sc, Sm, by rw [(c Sc).1, Option.bind_some, if_pos rfl], by rw [(c Sm).2, Option.bind_some, if_pos rfl], h⟩
  rw [(c Sc).1, (c Sm).2, Option.bind_some, Option.bind_some, if_neg n10, if_neg n10]
  dsimp only
  rcases (day_cases x).symm with c | ⟨a, ha, rfl, c⟩
  · exact ⟨-1, Sc, Sm, by rw [(c Sc).1, Option.bind_some, if_pos rfl], by rw [(c Sm).2, Option.bind_some, if_pos rfl], h⟩
  rw [(c Sc).1, (c Sm).2, Option.bind_some, Option.bind_some, if_neg n10, if_neg n10]
  dsimp only
  rcases (day_cases y).symm with c | ⟨b, hb, rfl, c⟩
  · exact ⟨-1, Sc, Sm, by rw [(c Sc).1, Option.bind_some, if_pos rfl], by rw [(c Sm).2, Option.bind_some, if_pos rfl], h⟩
  rw [(c Sc).1, (c Sm).2, Option.bind_some, Option.bind_some, if_neg n10, if_neg n10]
  dsimp only
  by_cases hab : a ≤ b
  · obtain ⟨r, S', T', r1, r2, r3, r4⟩ := flour_go hR ht hb (b + 1 - a) a 5000 5000 0 Sc Sm (by omega) (by omega) (by omega) hcc hmm
    refine ⟨r, S', T', ?_, ?_, h.ce r3 r4⟩
    · rw [if_pos (nI_le hab (by omega)), rc_0_0 hC, Option.bind_some, get_eq (i := 12) 12 rfl (by decide) (rc_1_0 hC) rfl, Option.bind_some]
      dsimp only
      rw [hR.2.2.2.1.2.1]
      exact r1
    · rw [if_pos (nI_le hab (by omega))]
      exact r2
  · exact ⟨-1, Sc, Sm, by rw [if_neg (nI_ge (by omega) (by omega))], by rw [if_neg (nI_ge (by omega) (by omega))], h⟩

/-! odds: the call -/
theorem spread_ok {Sc Sm : xS} {nS sc w mi : Nat} {sl : Nat → Nat → Nat → Nat} {ea : Nat → Nat → Nat → Nat → Nat → Nat} (hR : RO Sc Sm nS sc w mi sl ea) {t k d0 l0 i cc ca : Nat} (ht : t < 2) (hk : k ≤ 60) (hi : i ≤ 14) (hd0 : d0 < 1000) (hc3 : gI Sc 2 (3 * t) = nI d0 ∧ gI Sc 2 (3 * t + 1) = nI l0 ∧ gI Sc 2 (3 * t + 2) = nI k) (hcc : cc = 21 ∨ cc = 22) (hca : ca = 21 ∨ ca = 22) (hne : cc ≠ ca) {S T : xS} (hO : OI Sc Sm S T cc ca t k (sitS Sc nS t) d0 i) : ∃ S' T', mX2_spreadChances S 17 (nI t) (nI d0) (nI i) = some S' ∧ mX9_spread T 0 (nI d0) (nI (w + i + 1)) = some T' ∧ OI Sc Sm S' T' ca cc t k (sitS Sc nS t) d0 (i + 1) := by
  obtain ⟨dca, xca⟩ := dO_long hca
  obtain ⟨o1, o2, o3, ⟨dd, ll, o4⟩, o5, o6⟩ := id hO
  obtain ⟨S2, f1, f2, f3, f4, f5⟩ := fill_c xca S
  have hS2 : CE Sc S2 := o1.go f3 (fun c _ => by unfold gI; rw [f2])
  obtain ⟨T2, m1, m2, m3, m4, m5⟩ := more_go (v1 := nI d0) (v2 := nI (w + i + 1)) 976 0 5000 T rfl (by decide) o2.1 (fun j hj => absurd hj (Nat.not_lt_zero _))
  have hT2 : ME Sm T2 := o2.go m3 (fun c _ _ => by unfold gI; rw [m2]) (fun k _ => by unfold gI; rw [m2])
  have R2 : ∀ c j, gR S2 c j = gR S c j := fun c j => by unfold gR; rw [f3]
  obtain ⟨S', T', r1, r2, r3⟩ := spr_go hR ht (hR.sit_lt (t := t)).1 hk hi hd0 hc3 hcc hca hne 976 0 5000 5000 S2 T2 rfl (by decide) (by decide) ⟨hS2, hT2, ⟨(R2 _ _).trans o3.1, (R2 _ _).trans o3.2⟩, ⟨dd, ll, by unfold MK gI; rw [m2]; exact o4⟩, fun j hj => by rw [f4 cc hne, m4 9 (by decide)]; exact o5 j hj, fun j hj hn => by rw [m4 9 (by decide)] at hn; exact o6 j hj hn⟩ (fun j hj => by rw [f5 j hj, m5 j hj]) (fun j hj hn => absurd (m5 j hj) hn)
  refine ⟨S', T', ?_, ?_, r3⟩
  · unfold mX2_spreadChances
    rw [o3.2, dca, Option.bind_some, f1, Option.bind_some, rc_17_0 hS2.1, Option.bind_some, hR.sit hS2, Option.bind_some]
    dsimp only
    rw [rc_17_0 hS2.1, Option.bind_some, hS2.2.2.2 1 (by omega), hR.2.2.2.2.2.2.1.2.1]
    exact r1
  · unfold mX9_spread
    rw [show lX9_spread_2 5000 T 0 (nI d0) (nI (w + i + 1)) 0 = _ from m1]
    exact r2
theorem spreads_go {Sc Sm : xS} {nS sc w mi : Nat} {sl : Nat → Nat → Nat → Nat} {ea : Nat → Nat → Nat → Nat → Nat → Nat} (hR : RO Sc Sm nS sc w mi sl ea) {t k d0 l0 N : Nat} {dy v4 : Int32} (ht : t < 2) (hk : k ≤ 60) (hN : N ≤ 15) (hd0 : d0 < 1000) (hc3 : gI Sc 2 (3 * t) = nI d0 ∧ gI Sc 2 (3 * t + 1) = nI l0 ∧ gI Sc 2 (3 * t + 2) = nI k) : ∀ e i fc fm S T cc ca, e + i = N → e < fc → e < fm → (cc = 21 ∨ cc = 22) → (ca = 21 ∨ ca = 22) → cc ≠ ca → OI Sc Sm S T cc ca t k (sitS Sc nS t) d0 i → ∃ S' T' cc' ca', lX2_weightOfDay_48 fc S 17 (nI t) dy (nI N) (nI d0) (nI i) = lX2_weightOfDay_75 5000 S' 17 dy (nI d0) 0 0 ∧ lX9_odds_93 fm T 0 dy (nI N) v4 (nI d0) (pw i) (nI (i + 1)) = lX9_odds_134 5000 T' 0 dy v4 (nI d0) (pw N) 0 0 ∧ (cc' = 21 ∨ cc' = 22) ∧ OI Sc Sm S' T' cc' ca' t k (sitS Sc nS t) d0 N := by
  have hw := hR.2.2.2.1
  intro e
  induction e with
  | zero =>
    intro i fc fm S T cc ca hi hfc hfm hcc hca hne hO
    obtain ⟨fc, rfl⟩ : ∃ q, fc = q + 1 := ⟨fc - 1, by omega⟩
    obtain ⟨fm, rfl⟩ : ∃ q, fm = q + 1 := ⟨fm - 1, by omega⟩
    have hi : i = N := by omega
    subst hi
    exact ⟨S, T, cc, ca, by rw [lX2_weightOfDay_48.eq_2, if_pos (nI_le (Nat.le_refl _) (by omega))], by rw [lX9_odds_93.eq_2, if_pos (nI_lt (by omega) (by omega))], hcc, hO⟩
  | succ e ih =>
    intro i fc fm S T cc ca hi hfc hfm hcc hca hne hO
    obtain ⟨fc, rfl⟩ : ∃ q, fc = q + 1 := ⟨fc - 1, by omega⟩
    obtain ⟨fm, rfl⟩ : ∃ q, fm = q + 1 := ⟨fm - 1, by omega⟩
    obtain ⟨S1, T1, q1, q2, q3⟩ := spread_ok hR ht hk (show i ≤ 14 by omega) hd0 hc3 hcc hca hne hO
    obtain ⟨S', T', cc', ca', r1, r2, r3⟩ := ih (i + 1) fc fm S1 T1 ca cc (by omega) (by omega) (by omega) hca hcc (fun q => hne q.symm) q3
    refine ⟨S', T', cc', ca', ?_, ?_, r3⟩
    · rw [lX2_weightOfDay_48.eq_2, if_neg (nI_ge (by omega) (by omega)), q1, Option.bind_some, nI_1]
      exact r1
    · rw [lX9_odds_93.eq_2, if_neg (nI_nlt (by omega) (by omega)), rm_0 hO.2.1.1, Option.bind_some, aI_lit (Y := Ym) (c := 1) (i := 1) 1 rfl (by decide) (by decide), Option.bind_some, hO.2.1.2.1 1 (by omega) (by omega), hw.2.2, nI_add, show w + (i + 1) = w + i + 1 by omega, q2, Option.bind_some, nI_1]
      exact r2
theorem sum2_go {S T : xS} (hC : RCr S) (hM : RMr T) {cc : Nat} (hcc : cc = 21 ∨ cc = 22) (h5 : gR S 17 5 = some cc) (hJ : ∀ j, j < 976 → gJ S cc j = gJ T 9 j) {dy v4 : Int32} {d0 : Nat} {w6 : Int64} : ∀ e i n m (a : Int64), e + i = 976 → e < n → e < m → ∃ s, lX2_weightOfDay_75 n S 17 dy (nI d0) a (nI i) = some (s, S) ∧ lX9_odds_134 m T 0 dy v4 (nI d0) w6 a (nI i) = (if (v4 = 0 : Prop) then (jX9_odds_188 T w6 s s) else (jX9_odds_188 T w6 s w6)) := by
  obtain ⟨dcc, xcc⟩ := dO_long hcc
  intro e
  induction e with
  | zero =>
    intro i n m a hi hn hm
    obtain ⟨n, rfl⟩ : ∃ q, n = q + 1 := ⟨n - 1, by omega⟩
    obtain ⟨m, rfl⟩ : ∃ q, m = q + 1 := ⟨m - 1, by omega⟩
    have hi : i = 976 := by omega
    subst hi
    exact ⟨a, by rw [lX2_weightOfDay_75.eq_2, if_pos (by decide)], by rw [lX9_odds_134.eq_2, if_pos (show (976 : Int32) ≤ nI 976 by decide)]⟩
  | succ e ih =>
    intro i n m a hi hn hm
    obtain ⟨n, rfl⟩ : ∃ q, n = q + 1 := ⟨n - 1, by omega⟩
    obtain ⟨m, rfl⟩ : ∃ q, m = q + 1 := ⟨m - 1, by omega⟩
    rw [lX2_weightOfDay_75.eq_2, if_neg (show ¬ (976 : Int32) ≤ nI i from nI_ge (a := i) (b := 976) (by omega) (by decide)), lX9_odds_134.eq_2, if_neg (show ¬ (976 : Int32) ≤ nI i from nI_ge (a := i) (b := 976) (by omega) (by decide)), nI_1]
    by_cases hq : nI d0 + nI i / 61 < dy
    · rw [if_pos hq, if_pos hq, Int64.add_zero]
      exact ih (i + 1) n m a (by omega) (by omega) (by omega)
    · rw [if_neg hq, if_neg hq, h5, dcc, Option.bind_some, aJ_nI (by rw [xcc]; omega) (by rw [xcc]; decide), Option.bind_some, rm_30 hM, Option.bind_some, aJ_nI (Y := Ym) (c := 9) (by show _ < 976; omega) (by decide), Option.bind_some, hJ i (by omega)]
      exact ih (i + 1) n m _ (by omega) (by omega) (by omega)
theorem ways_go {Sm : xS} {dy N v4 v5 : Int32} {l : Nat} (hl : l ≤ 60) : ∀ e i n T, e + i = 976 → e < n → ME Sm T → gI T 0 27 = nI l → (∀ j, j < i → gJ T 9 j = if j = l then 1 else 0) → ∃ T', lX9_odds_52 n T 0 dy N v4 v5 (nI i) = lX9_odds_93 5000 T' 0 dy N v4 v5 1 1 ∧ ME Sm T' ∧ T'.1 = T.1 ∧ ∀ j, j < 976 → gJ T' 9 j = if j = l then 1 else 0 := by
  intro e
  induction e with
  | zero =>
    intro i n T hi hn hT h27 hp
    obtain ⟨n, rfl⟩ : ∃ q, n = q + 1 := ⟨n - 1, by omega⟩
    have hi : i = 976 := by omega
    subst hi
    exact ⟨T, by rw [lX9_odds_52.eq_2, if_pos (by decide)], hT, rfl, hp⟩
  | succ e ih =>
    intro i n T hi hn hT h27 hp
    obtain ⟨n, rfl⟩ : ∃ q, n = q + 1 := ⟨n - 1, by omega⟩
    obtain ⟨T', q1, q2, q3, q4⟩ := ih (i + 1) n (pJ T 9 i (if i = l then 1 else 0)) (by omega) (by omega) (hT.go rfl (fun _ _ _ => rfl) (fun _ _ => rfl)) h27 (fun j hj => by
      by_cases h : j = i
      · subst h; rw [gJ_eq]
      · rw [gJ_nk _ _ _ _ h]; exact hp j (by omega))
    refine ⟨T', ?_, q2, q3, q4⟩
    rw [lX9_odds_52.eq_2, if_neg (show ¬ (976 : Int32) ≤ nI i from nI_ge (a := i) (b := 976) (by omega) (by decide)), rm_30 hT.1, Option.bind_some, h27, sJ_nI (Y := Ym) (c := 9) (by show _ < 976; omega) (by decide), Option.bind_some, sJ_nI (Y := Ym) (c := 9) (by show _ < 976; omega) (by decide), Option.bind_some, nI_1]
    by_cases hil : i = l
    · rw [if_pos (show nI i = nI l by rw [hil])]
      rw [if_pos hil] at q1
      exact q1
    · rw [if_neg (show ¬ nI i = nI l from fun q => hil ((nI_eq (by omega) (by omega)).mp q))]
      rw [if_neg hil] at q1
      exact q1
theorem sim_odds_ok : sim_odds (RelW RTx) := by
  intro Sc Sm p x n v h
  have hC := h.1
  have hM := h.2.1
  obtain ⟨hcc0, hmm⟩ := h.ce0
  obtain ⟨nS, sc, w0, mi, sl, ea, hR⟩ := h.ro
  unfold mX8_odds mX9_odds
  rcases (tab_cases p).symm with c | ⟨t, ht, rfl, c⟩
  · exact ⟨-1, Sc, Sm, by rw [(c Sc).1, Option.bind_some, if_pos rfl], by rw [(c Sm).2, Option.bind_some, if_pos rfl], h⟩
  rw [(c Sc).1, (c Sm).2, Option.bind_some, Option.bind_some, if_neg n10, if_neg n10]
  dsimp only
  rcases (day_cases x).symm with c | ⟨dy, hdy, rfl, c⟩
  · exact ⟨-1, Sc, Sm, by rw [(c Sc).1, Option.bind_some, if_pos rfl], by rw [(c Sm).2, Option.bind_some, if_pos rfl], h⟩
  rw [(c Sc).1, (c Sm).2, Option.bind_some, Option.bind_some, if_neg n10, if_neg n10, isIn_eq, Option.bind_some]
  dsimp only
  by_cases h1 : n < 0
  · exact ⟨-1, Sc, Sm, by rw [if_pos h1], by rw [if_pos (Or.inl h1), if_pos rfl], h⟩
  by_cases h2 : 15 < n
  · exact ⟨-1, Sc, Sm, by rw [if_neg h1, if_pos h2], by rw [if_pos (Or.inr h2), if_pos rfl], h⟩
  rw [if_neg h1, if_neg h2, if_neg (not_or2 h1 h2), if_neg n10, isIn_eq, Option.bind_some]
  dsimp only
  by_cases h3 : v < 0
  · exact ⟨-1, Sc, Sm, by rw [if_pos h3], by rw [if_pos (Or.inl h3), if_pos rfl], h⟩
  by_cases h4 : v ≤ 1
  · rw [if_neg h3, if_pos h4, if_neg (not_or2 h3 (le_nlt h4)), if_neg n10]
    obtain ⟨N, hN, rfl⟩ := bd_of (B := 15) h1 (Int32.not_lt.mp h2) (by decide)
    obtain ⟨d0, l0, k, hd, hl, hk, hc3, hm3⟩ := hR.tab ht
    obtain ⟨S3, e1, e2, e3⟩ := hR.load (q := 18) (Or.inr rfl) ht hcc0 hc3
    have hS3 := e3.ce (Or.inr rfl) hcc0
    obtain ⟨T9, f1, f2, f3⟩ := hR.setT ht hmm hm3
    have hT9 := f3.me hmm
    obtain ⟨cc, ca, hcc, hca, hne, k5, k6⟩ : ∃ cc ca, (cc = 21 ∨ cc = 22) ∧ (ca = 21 ∨ ca = 22) ∧ cc ≠ ca ∧ gR S3 17 5 = some cc ∧ gR S3 17 6 = some ca := by
      rcases hS3.2.2.1 with ⟨a, b⟩ | ⟨a, b⟩
      · exact ⟨21, 22, Or.inl rfl, Or.inr rfl, by decide, a, b⟩
      · exact ⟨22, 21, Or.inr rfl, Or.inl rfl, by decide, a, b⟩
    obtain ⟨dcc, xcc⟩ := dO_long hcc
    obtain ⟨S6, g1, g2, g3, g4, g5⟩ := fill_c xcc S3
    have hS6 : CE Sc S6 := hS3.go g3 (fun c _ => by unfold gI; rw [g2])
    have ck6 : CK 18 S6 t d0 l0 k w0 := by unfold CK gI; rw [g2]; exact e2
    have R6 : ∀ c j, gR S6 c j = gR S3 c j := fun c j => by unfold gR; rw [g3]
    obtain ⟨S9, e9⟩ : ∃ z, z = pJ S6 cc l0 (gJ S6 cc l0 + 1) := ⟨_, rfl⟩
    have hS9 : CE Sc S9 := hS6.go (by rw [e9]; rfl) (fun c _ => by rw [e9]; rfl)
    obtain ⟨T0, y1, y2, y3, y4⟩ := ways_go (dy := nI dy) (N := nI N) (v4 := v) (v5 := nI d0) hl 976 0 5000 T9 rfl (by decide) hT9 f2.2.2.1 (fun j hj => absurd hj (Nat.not_lt_zero _))
    have hO : OI Sc Sm S9 T0 cc ca t k (sitS Sc nS t) d0 0 := by
      refine ⟨hS9, y2, ⟨by rw [e9]; exact (R6 17 5).trans k5, by rw [e9]; exact (R6 17 6).trans k6⟩, ⟨d0, l0, by unfold MK gI; rw [y3]; exact f2⟩, fun j hj => ?_, fun j hj hn => ?_⟩
      · rw [y4 j hj, e9]
        by_cases hjl : j = l0
        · subst hjl
          rw [gJ_eq, g5 _ hj, if_pos rfl]
          rfl
        · rw [gJ_nk _ _ _ _ hjl, g5 j hj, if_neg hjl]
      · rw [y4 j hj] at hn
        by_cases hjl : j = l0
        · subst hjl
          omega
        · rw [if_neg hjl] at hn
          exact absurd rfl hn
    obtain ⟨S', T', cc', ca', r1, r2, r3, r4⟩ := spreads_go hR (dy := nI dy) (v4 := v) ht hk (show N ≤ 15 by omega) hd hc3 N 0 5000 5000 S9 T0 cc ca rfl (by omega) (by omega) hcc hca hne hO
    obtain ⟨o1, o2, o3, -, o5, -⟩ := id r4
    obtain ⟨s, s1, s2⟩ := sum2_go o1.1 o2.1 r3 o3.1 o5 (dy := nI dy) (v4 := v) (d0 := d0) (w6 := pw N) 976 0 5000 5000 0 rfl (by decide) (by decide)
    obtain ⟨g, u1, u2, u3⟩ := gcd_go S' T' 64 s (pw N) 5000 5000 0 (abs64 _) (by decide) (by decide) (by decide)
    have hg : ¬ g = 0 := u3 (fun q => pw_ne N (by omega) q.2)
    have hW : mX2_weightOfDay Sc 17 (nI t) (nI dy) (nI N) = some (s, S') := by
      unfold mX2_weightOfDay
      rw [rc_17_2 hC, Option.bind_some, rc_17_0 hC, Option.bind_some, e1, Option.bind_some, rc_17_2 hS3.1, Option.bind_some, k5, dcc, Option.bind_some, g1, Option.bind_some, (R6 17 5).trans k5, dcc, Option.bind_some, rc_17_2 hS6.1, Option.bind_some, ck6.2.2.1, addC xcc (X := l0) (by rw [show (0 : Int32) * 61 = nI 0 from by decide, nI_add, Nat.zero_add]) (by omega), Option.bind_some, ← e9, e2.2.1]
      exact r1.trans s1
    have hP : mX2_powerOfTen S' (nI N) = some (pw N, S') := pw_go S' (by omega) N 0 5000 rfl (by omega)
    refine ⟨if v = 0 then s / g else pw N / g, S', T', ?_, ?_, h.ce o1 o2⟩
    · rw [rc_0_4 hC, Option.bind_some, hW, Option.bind_some]
      dsimp only
      rw [hP, Option.bind_some]
      dsimp only
      unfold mX2_commonDivisor
      rw [show lX2_commonDivisor_9 5000 S' s (pw N) 0 = some (g, S') from u1, Option.bind_some]
      dsimp only
      rw [if_neg (fun q => hg ((lg_cmp_eq _ _).mp q)), if_neg hg, if_neg hg]
      by_cases hv : v = 0
      · rw [if_pos hv, if_pos hv]
      · rw [if_neg hv, if_neg hv]
    · rw [f1, Option.bind_some, f2.2.1, show lX9_odds_52 5000 T9 0 (nI dy) (nI N) v (nI d0) 0 = _ from y1, show lX9_odds_93 5000 T0 0 (nI dy) (nI N) v (nI d0) 1 1 = _ from r2, show lX9_odds_134 5000 T' 0 (nI dy) v (nI d0) (pw N) 0 0 = _ from s2]
      unfold jX9_odds_188 mX9_common
      rw [u2, Option.bind_some, Option.bind_some]
      dsimp only
      rw [if_neg hg, if_neg hg]
      by_cases hv : v = 0
      · rw [if_pos hv, if_pos hv]
      · rw [if_neg hv, if_neg hv]
  · exact ⟨-1, Sc, Sm, by rw [if_neg h3, if_neg h4], by rw [if_pos (Or.inr (nle_lt h4)), if_pos rfl], h⟩

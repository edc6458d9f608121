theorem saint_core {Sc Sm : xS} (h : RelW RTx Sc Sm) {nS sc w mi : Nat} {sl : Nat → Nat → Nat → Nat} {ea : Nat → Nat → Nat → Nat → Nat → Nat} (hR : RO Sc Sm nS sc w mi sl ea) {t dy N : Nat} {v : Int32} (ht : t < 2) (hdy : dy < 1000) (hN : N ≤ 30) (hv : v = -1 ∨ ∃ s, s < nS ∧ v = nI s) : ∃ r Sc' Sm', jX8_saint_44 Sc 0 (nI t) (nI dy) (nI N) v = some (r, Sc') ∧ lX9_saint_44 5000 Sm 0 (nI t) (nI dy) (nI N) v 0 = some (r, Sm') ∧ RelW RTx Sc' Sm' := by
  have hC := h.1
  have hn6 := hR.1.2.2.2.2.2.2.1
  have h64 : 2 ^ nS ≤ 64 := (Nat.pow_le_pow_right (by decide) hn6 : 2 ^ nS ≤ 2 ^ 6)
  have h7 := p729 hn6
  obtain ⟨hcc, hmm⟩ := h.ce0
  obtain ⟨c1, c2, c3⟩ := csN_ok hR.2.2.1
  obtain ⟨d0, l0, k, hd, hl, hk, hc3, hm3⟩ := hR.tab ht
  obtain ⟨rc, S', q1, q2, q3⟩ := few_go hR ht hdy hN hd hl hk hc3 (2 ^ nS) 0 5000 (-1) Sc rfl (by omega) hcc (Or.inl ⟨rfl, fun set hs => absurd hs (Nat.not_lt_zero _)⟩)
  obtain ⟨T0, g1, g2, g3⟩ := good_go (t := nI t) (dy := nI dy) (N := nI N) (v4 := v) 64 0 5000 Sm rfl (by decide) hmm (fun s hs => absurd hs (Nat.not_lt_zero _))
  obtain ⟨u5, u6, T', r1, r2, r3⟩ := outer_go hR (v4 := v) ht hdy hN hd hl hk hm3 (3 ^ nS) 0 5000 (-1) 100 T0 rfl (by omega) g2 (fun s hs => Or.inl (g3 s hs)) (Or.inl ⟨rfl, rfl, fun y hy => absurd hy (Nat.not_lt_zero _)⟩)
  have hcl : jX8_saint_44 Sc 0 (nI t) (nI dy) (nI N) v = if (rc = (-1) : Prop) then (some (rc, S')) else (if (v = (-1) : Prop) then (some (rc, S')) else ((mX2_bestSeat S' 17 v).bind fun q6 => some (q6.1, q6.2))) := by
    unfold jX8_saint_44 mX2_fewestChanges
    rw [rc_0_4 hC, Option.bind_some, rc_17_0 hC, Option.bind_some, xlet_eq, hR.2.1, if_neg (show ¬ (6 : Int32) < nI nS from nI_nlt (a := 6) hn6 (by decide)), shl_c7 nS (by omega), show lX2_fewestChanges_22 5000 Sc 17 (nI t) (nI dy) (nI N) (-1) (nI (2 ^ nS)) 0 = _ from q1, Option.bind_some]
    dsimp only
    rw [rc_0_4 q2.1, Option.bind_some]
  rw [hcl, show lX9_saint_44 5000 Sm 0 (nI t) (nI dy) (nI N) v 0 = _ from g1, show lX9_saint_75 5000 T0 0 (nI t) (nI dy) (nI N) v (-1) 100 0 = _ from r1]
  have hrel := h.ce q2 r2
  rcases q3 with ⟨a1, a2⟩ | ⟨b, b1, b2, b3, b4, b5⟩
  · rcases r3 with ⟨e1, e2, e3⟩ | ⟨y, e1, e2, e3, e4, e5⟩
    · exact ⟨-1, S', T', by rw [if_pos a1, a1], by rw [e1, if_neg (by decide)], hrel⟩
    · exfalso
      have := a2 _ (stN_lt (dg nS y) t nS)
      rw [e2] at this
      cases this
  · have hb6 := chN_le (f := trN (csN Sc) t b) (g := csN Sc) nS
    have hne : ¬ rc = -1 := fun q => by
      have : (-1 : Int32) < 0 := by decide
      rw [← q, b3] at this
      exact nI_pos (by omega) this
    rcases r3 with ⟨e1, e2, e3⟩ | ⟨y, e1, e2, e3, e4, e5⟩
    · exfalso
      have htr := fun s => trN_lt c1 ht b s
      have e6 : stN (dg nS (val3 (trN (csN Sc) t b) nS)) t nS = b := (stN_congr nS (fun s hs => dg_val3 htr hs)).trans (st_tr ht b1)
      have := e3 _ (val3_lt htr nS)
      rw [e6, b2] at this
      cases this
    · obtain ⟨z1, z2⟩ := best_eq c1 ht (J := fun set => jN sl ea nS set t k w dy N 0 d0 l0 = true) b1 b2 b5 e1 e2 e5
      rw [if_neg hne, if_pos (show (0 : Int32) ≤ u5 by rw [e3]; exact nI_pos' (by omega))]
      rcases hv with rfl | ⟨s, hs, rfl⟩
      · exact ⟨rc, S', T', by rw [if_pos rfl], by rw [if_pos rfl, e4, b3, z2], hrel⟩
      · have hsn : ¬ nI s = -1 := fun q => by
          have : (-1 : Int32) < 0 := by decide
          rw [← q] at this
          exact nI_pos (by omega) this
        refine ⟨nI (trN (csN Sc) t b s), S', T', ?_, ?_, hrel⟩
        · rw [if_neg hsn]
          unfold mX2_bestSeat
          rw [if_neg (nI_pos (by omega)), if_neg (show ¬ (6 : Int32) ≤ nI s from nI_ge (a := s) (b := 6) (by omega) (by decide)), rc_17_4 q2.1, Option.bind_some, aI_nI (Y := Yc) (c := 20) (by show _ < 6; omega) (by decide), Option.bind_some, b4 s (by omega)]
          rfl
        · rw [if_neg hsn, e3, seatIn_m r2.1 hn6 (by rw [r2.2.1 1 (by omega) (by omega)]; exact hR.1.2.2.2.2.2.2.2) e1 hs, z1, dg_val3 (fun s => trN_lt c1 ht b s) hs]
          rfl
theorem sim_saint_ok : sim_saint (RelW RTx) := by
  intro Sc Sm p w n v h
  have hC := h.1
  have hM := h.2.1
  obtain ⟨nS, sc, w0, mi, sl, ea, hR⟩ := h.ro
  have hn6 := hR.1.2.2.2.2.2.2.1
  unfold mX8_saint mX9_saint
  rcases (tab_cases p).symm with c | ⟨t, ht, rfl, c⟩
  · exact ⟨-1, Sc, Sm, by rw [(c Sc).1, Option.bind_some, if_pos rfl], by rw [(c Sm).2, Option.bind_some, if_pos rfl], h⟩
  rw [(c Sc).1, (c Sm).2, Option.bind_some, Option.bind_some, if_neg n10, if_neg n10]
  dsimp only
  rcases (day_cases w).symm with c | ⟨dy, hdy, rfl, c⟩
  · exact ⟨-1, Sc, Sm, by rw [(c Sc).1, Option.bind_some, if_pos rfl], by rw [(c Sm).2, Option.bind_some, if_pos rfl], h⟩
  rw [(c Sc).1, (c Sm).2, Option.bind_some, Option.bind_some, if_neg n10, if_neg n10, isIn_eq, Option.bind_some]
  dsimp only
  by_cases h1 : n < 1
  · exact ⟨-1, Sc, Sm, by rw [if_pos h1], by rw [if_pos (Or.inl h1), if_pos rfl], h⟩
  by_cases h2 : n ≤ 30
  · obtain ⟨N, hN, rfl⟩ : ∃ N, N ≤ 30 ∧ n = nI N := by
      have h0 : ¬ n < 0 := fun q => h1 (Int32.lt_iff_toInt_lt.mpr (by
        have := Int32.lt_iff_toInt_lt.mp q
        rw [show (0 : Int32).toInt = 0 from by decide] at this
        rw [show (1 : Int32).toInt = 1 from by decide]
        omega))
      obtain ⟨v, hv, e⟩ := bd_of (B := 30) h0 h2 (by decide)
      exact ⟨v, by omega, e⟩
    rw [if_neg h1, if_pos h2, if_neg (not_or2 h1 (le_nlt h2)), if_neg n10]
    by_cases hv : v = -1
    · rw [if_pos hv, if_pos hv]
      exact saint_core h hR ht hdy hN (Or.inl hv)
    · rw [if_neg hv, if_neg hv]
      rcases (sis_cases hC hM hn6 ⟨hR.2.1, hR.1.2.2.2.2.2.2.2⟩ v).symm with c | ⟨s, hs, rfl, c⟩
      · exact ⟨-1, Sc, Sm, by rw [c.1, Option.bind_some, if_pos rfl], by rw [c.2, Option.bind_some, if_pos rfl], h⟩
      · rw [c.1, c.2, Option.bind_some, Option.bind_some, if_neg n10, if_neg n10]
        exact saint_core h hR ht hdy hN (Or.inr ⟨s, hs, rfl⟩)
  · exact ⟨-1, Sc, Sm, by rw [if_neg h1, if_neg h2], by rw [if_pos (Or.inr (nle_lt h2)), if_pos rfl], h⟩

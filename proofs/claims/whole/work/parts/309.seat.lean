/-! seat -/
theorem lt_pred6 {p : Int32} {n : Nat} (hn : n ≤ 6) : (nI n - 1 < p) ↔ ¬ p < nI n := by
  have h1 : (1 : Int32) = nI 1 := rfl
  rw [Int32.lt_iff_toInt_lt, Int32.lt_iff_toInt_lt, h1, pk_sub_toInt (by omega) (by omega), nI_toInt (by omega)]
  omega
theorem zk1 : zk 1 = some 1 := rfl
theorem zk0 : zk 0 = some 0 := rfl
theorem tab_cases (p : Int32) : (∃ t, t < 2 ∧ p = nI t ∧ ∀ S, mX8_isTable S p = some (1, S) ∧ mX9_isTable S p = some (1, S)) ∨ (∀ S, mX8_isTable S p = some (0, S) ∧ mX9_isTable S p = some (0, S)) := by
  by_cases h1 : p < 0
  · refine Or.inr (fun S => ⟨by unfold mX8_isTable; rw [if_pos h1], ?_⟩)
    unfold mX9_isTable
    rw [isIn_eq, Option.bind_some, if_pos (Or.inl h1)]
    rfl
  by_cases h2 : 2 ≤ p
  · refine Or.inr (fun S => ⟨by unfold mX8_isTable; rw [if_neg h1, if_pos h2], ?_⟩)
    have h3 : 1 < p := Int32.lt_iff_toInt_lt.mpr (by
      have := Int32.le_iff_toInt_le.mp h2
      rw [show (2 : Int32).toInt = 2 from by decide] at this
      rw [show (1 : Int32).toInt = 1 from by decide]
      omega)
    unfold mX9_isTable
    rw [isIn_eq, Option.bind_some, if_pos (Or.inr h3)]
    rfl
  · have h3 : p ≤ 1 := Int32.le_iff_toInt_le.mpr (by
      have := Int32.lt_iff_toInt_lt.mp (Int32.not_le.mp h2)
      rw [show (2 : Int32).toInt = 2 from by decide] at this
      rw [show (1 : Int32).toInt = 1 from by decide]
      omega)
    obtain ⟨t, ht, e⟩ := bd_of (B := 1) h1 h3 (by decide)
    refine Or.inl ⟨t, by omega, e, fun S => ⟨by unfold mX8_isTable; rw [if_neg h1, if_neg h2], ?_⟩⟩
    unfold mX9_isTable
    rw [isIn_eq, Option.bind_some, if_neg (not_or2 h1 (le_nlt h3))]
    rfl
theorem sis_cases {Sc Sm : xS} (hC : RCr Sc) (hM : RMr Sm) {nS : Nat} (hn : nS ≤ 6) (a2 : gI Sc 1 5 = nI nS ∧ gI Sm 1 0 = nI nS) (p : Int32) : (∃ s, s < nS ∧ p = nI s ∧ mX8_isSister Sc 0 p = some (1, Sc) ∧ mX9_isSister Sm 0 p = some (1, Sm)) ∨ (mX8_isSister Sc 0 p = some (0, Sc) ∧ mX9_isSister Sm 0 p = some (0, Sm)) := by
  unfold mX8_isSister mX9_isSister
  rw [rm_0 hM, Option.bind_some, aI_lit (Y := Ym) (c := 1) (i := 0) 0 rfl (by decide) (by decide), Option.bind_some, isIn_eq, Option.bind_some, a2.2]
  by_cases h1 : p < 0
  · exact Or.inr ⟨by rw [if_pos h1], by rw [if_pos (Or.inl h1)]; rfl⟩
  rw [if_neg h1, rc_0_0 hC, Option.bind_some, a2.1]
  by_cases h2 : nI nS ≤ p
  · exact Or.inr ⟨by rw [if_pos h2], by rw [if_pos (Or.inr ((lt_pred6 hn).mpr (le_nlt h2)))]; rfl⟩
  · obtain ⟨j, hj, e⟩ := nI_of h1
    have hlt : j < nS := by
      have h3 := nle_lt h2
      rw [e] at h3
      exact (nI_ltI hj (by omega)).mp h3
    exact Or.inl ⟨j, hlt, e, by rw [if_neg h2], by rw [if_neg (not_or2 h1 (fun q => (lt_pred6 hn).mp q (nle_lt h2)))]; rfl⟩
theorem seatOf_c {S : xS} (hC : RCr S) {s : Nat} (hs : s < 6) : mX1_seatOf S 1 (nI s) = some (gI S 2 (6 + s), S) := by
  unfold mX1_seatOf
  have e : (6 : Int32) + nI s = nI (6 + s) := nI_add 6 s
  rw [if_neg (nI_pos (by omega)), if_neg (show ¬ (6 : Int32) ≤ nI s from nI_ge (a := s) (b := 6) hs (by decide)), rc_1_0 hC, Option.bind_some, e, aI_nI (Y := Yc) (c := 2) (by show _ < 14; omega) (by decide)]
  rfl
theorem okRow_seat {f g : Nat → Int32} {nS s : Nat} {v : Int32} (h : okRow f nS) (hs : s < nS) (hv : bd v 3) (e : ∀ k, k ≠ 6 + s → g k = f k) (es : g (6 + s) = v) (h6 : nS ≤ 6) : okRow g nS := by
  obtain ⟨⟨d, l, q, h1, h2, h3, h4, h5⟩, ⟨d', l', q', g1, g2, g3, g4, g5⟩, hss, h12, h13⟩ := h
  refine ⟨⟨d, l, q, h1, h2, by rw [e 0 (by omega)]; exact h3, by rw [e 1 (by omega)]; exact h4, by rw [e 2 (by omega)]; exact h5⟩, ⟨d', l', q', g1, g2, by rw [e 3 (by omega)]; exact g3, by rw [e 4 (by omega)]; exact g4, by rw [e 5 (by omega)]; exact g5⟩, fun t ht => ?_, by rw [e 12 (by omega)]; exact h12, by rw [e 13 (by omega)]; exact h13⟩
  by_cases hts : t = s
  · subst hts
    rw [es]
    exact ⟨hv, fun q => absurd q (by omega)⟩
  · rw [e (6 + t) (by omega)]
    exact hss t ht
theorem RV.seat {Sc Sm : xS} {nS nT ns sc nx s : Nat} {v : Int32} (h : RV Sc Sm 1 1 nS nT ns sc nx) (hs : s < nS) (hv : bd v 3) : RV (pI Sc 2 (6 + s) v) (pI Sm 1 (16 + 2 * s + 1) v) 1 1 nS nT ns sc nx := by
  obtain ⟨b1, b2, b3, b4, b5, b6, b7, b8, b9, b10, b11, b12, b13⟩ := h
  have h6 := b1.1
  have b9' : okRow (gI (pI Sc 2 (6 + s) v) (1 + 1)) nS := okRow_seat b9 hs hv (fun k hk => gI_nk _ _ _ _ hk) (gI_eq _ _ _ _) h6
  unfold RV
  simp (disch := omega) only [gI_ne, gI_nk, gI_eq, gIf_ne]
  refine ⟨b1, b2, b3, b4, b5, b6, b7, b8, b9', ⟨b10.1, b10.2.1, fun k hk => ?_⟩, fun t ht => ?_, fun k hk => ?_, fun j hj => ?_⟩
  · simp (disch := omega) only [gI_nk]
    exact b10.2.2 k hk
  · by_cases hts : t = s
    · subst hts
      simp (disch := omega) only [gI_ne, gI_nk, gI_eq]
      exact ⟨(b11 t ht).1, trivial, (b11 t ht).2.2⟩
    · simp (disch := omega) only [gI_ne, gI_nk]
      exact b11 t ht
  · have := b1.2.2.2.1
    try simp (disch := omega) only [gI_ne, gI_nk]
    exact b12 k hk
  · obtain ⟨hs', c1, c2, c3, c4, c5, c6, c7⟩ := b13 j hj
    refine ⟨hs', c1, ?_, ?_, ?_, ?_, fun k hk => ?_, fun t ht => ?_⟩
    all_goals (try simp (disch := omega) only [gI_ne, gI_nk])
    · exact c2
    · exact c3
    · exact c4
    · exact c5
    · exact c6 k hk
    · exact c7 t ht
theorem seat_ok {RT : xS → xS → Nat → Prop} (hRT : RTloc RT) {Sc Sm : xS} (p v : Int32) (h : RelW RT Sc Sm) : ∃ (r : Int32) (Sc' Sm' : xS), mX8_seat Sc 0 p v = some (r, Sc') ∧ mX9_seat Sm 0 p v = some (r, Sm') ∧ RelW RT Sc' Sm' ∧ (r = 0 ∨ r = 1) := by
  have hC := h.1
  have hM := h.2.1
  obtain ⟨nS, nT, ns, sc, nx, nS', nT', ns', sc', nx', hV, hV', hT, hRt⟩ := h.2.2.2.1
  have a1 := hV.1
  have a2 := hV.2.1
  have a11 := hV.2.2.2.2.2.2.2.2.2.2.1
  unfold mX8_seat mX9_seat
  rcases (sis_cases hC hM a1.1 a2 p).symm with ⟨c1, c2⟩ | ⟨s, hs, rfl, c1, c2⟩
  · exact ⟨0, Sc, Sm, by rw [c1, Option.bind_some, if_pos rfl], by rw [c2, Option.bind_some, if_pos rfl], h, Or.inl rfl⟩
  rw [c1, c2, Option.bind_some, Option.bind_some, if_neg n10, if_neg n10, isIn_eq, Option.bind_some]
  by_cases h1 : v < 0
  · exact ⟨0, Sc, Sm, by rw [if_pos h1], by rw [if_pos (Or.inl h1), if_pos rfl], h, Or.inl rfl⟩
  by_cases h2 : 2 < v
  · exact ⟨0, Sc, Sm, by rw [if_neg h1, if_pos h2], by rw [if_pos (Or.inr h2), if_pos rfl], h, Or.inl rfl⟩
  have hb : bd v 3 := bd_of (B := 2) h1 (Int32.not_lt.mp h2) (by decide)
  have eseat : gI Sm 1 (16 + 2 * s + 1) = gI Sc 2 (6 + s) := (a11 s hs).2.1
  rw [if_neg h1, if_neg h2, if_neg (not_or2 h1 h2), if_neg n10, rc_0_0 hC, Option.bind_some, seatOf_c hC (by omega), seatOf_m hM (by omega), Option.bind_some, Option.bind_some]
  dsimp only
  rw [eseat]
  by_cases h3 : gI Sc 2 (6 + s) = v
  · exact ⟨0, Sc, Sm, by rw [if_pos h3], by rw [if_pos h3], h, Or.inl rfl⟩
  obtain ⟨Sc', Sm', k1, k2, k3, ⟨k4, k5, k6⟩, ⟨k7, k8, k9⟩⟩ := keep_ok hRT h
  have e6 : (6 : Int32) + nI s = nI (6 + s) := nI_add 6 s
  have e16 : ((16 : Int32) + (2 * nI s)) + 1 = nI (16 + 2 * s + 1) := by rw [show (2 : Int32) = nI 2 from rfl, show (16 : Int32) = nI 16 from rfl, pk_mul, nI_add, nI_1]
  refine ⟨1, pI Sc' 2 (6 + s) v, pI Sm' 1 (16 + 2 * s + 1) v, ?_, ?_, ?_, Or.inr rfl⟩
  · rw [if_neg h3, rc_0_0 hC, Option.bind_some, k1, Option.bind_some, rc_0_0 k3.1, Option.bind_some, put_eq (i := 6 + nI s) (6 + s) e6 (by omega) (rc_1_0 k3.1) rfl]
    rfl
  · rw [if_neg h3, k2, Option.bind_some, rm_0 k3.2.1, Option.bind_some, e16, sI_nI (Y := Ym) (c := 1) (by show _ < 486; omega) (by decide)]
    rfl
  · refine RelW.now hRT k3 rfl rfl (fun c hc => gIf_ne _ _ _ _ (by omega)) (fun c hc => gIf_ne _ _ _ _ hc) (gI_ne _ _ _ _ (by decide)) (fun mS mT ms mc mx hVm => ⟨mS, ms, mc, mx, ?_⟩)
    have e1 : mS = nS := (nI_eq (by have := hVm.1; omega) (by omega)).mp (hVm.2.1.1.symm.trans ((k6 5 (by decide) (by decide)).trans a2.1))
    subst e1
    exact hVm.seat hs hb
theorem sim_seat_ok {RT : xS → xS → Nat → Prop} (hRT : RTloc RT) : sim_seat (RelW RT) := by
  intro Sc Sm p k h
  obtain ⟨r, Sc', Sm', q1, q2, q3, -⟩ := seat_ok hRT p k h
  exact ⟨r, Sc', Sm', q1, q2, q3⟩

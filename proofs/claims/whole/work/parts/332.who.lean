/-! who -/
theorem nI_any (x : Int32) : ∃ h, x = nI h := by
  have h := pk_and x (m := -1) 32 (by decide)
  exact ⟨_, by rw [← h]; simp⟩
theorem shl_c7 : ∀ i, i < 7 → (1 : Int32) <<< (nI i &&& 31) = nI (2 ^ i) := by decide +kernel
theorem fits_go {Sc Sm : xS} {nS sc w mi : Nat} {sl : Nat → Nat → Nat → Nat} {ea : Nat → Nat → Nat → Nat → Nat → Nat} (hR : RO Sc Sm nS sc w mi sl ea) {t d set h h' : Nat} (ht : t < 2) (hd : d < 1000) (hset : set < 2 ^ nS) : ∀ e i fc fm l S T, e + i = sc → e < fc → e < fm → CE Sc S → ME Sm T → l ≤ 60 → CK 18 S t d l h (w + i) → MK T t d l h' set → ∃ r S' T', (r = 0 ∨ r = 1) ∧ lX2_fitsSeen_2 fc S 17 (nI set) (nI i) = some (r, S') ∧ lX9_canBe_36 fm T 0 (nI i) = some (r, T') ∧ CE Sc S' ∧ ME Sm T' := by
  have hw := hR.2.2.2.1
  have hn6 := hR.1.2.2.2.2.2.2.1
  obtain ⟨s1, s2, s3, s4⟩ := hR.2.2.2.2.2.2.2
  intro e
  induction e with
  | zero =>
    intro i fc fm l S T hi hfc hfm hS hT hl hk1 hk2
    obtain ⟨fc, rfl⟩ : ∃ q, fc = q + 1 := ⟨fc - 1, by omega⟩
    obtain ⟨fm, rfl⟩ : ∃ q, fm = q + 1 := ⟨fm - 1, by omega⟩
    have hi : i = sc := by omega
    subst hi
    refine ⟨1, S, T, Or.inr rfl, ?_, ?_, hS, hT⟩
    · rw [lX2_fitsSeen_2.eq_2, rc_17_0 hS.1, Option.bind_some, hS.2.2.2 1 (by omega), s2, if_pos (nI_le (Nat.le_refl _) (by omega))]
    · rw [lX9_canBe_36.eq_2, rm_0 hT.1, Option.bind_some, aI_lit (Y := Ym) (c := 1) (i := 7) 7 rfl (by decide) (by decide), Option.bind_some, hT.2.1 1 (by omega) (by omega), s3, if_pos (nI_le (Nat.le_refl _) (by omega))]
  | succ e ih =>
    intro i fc fm l S T hi hfc hfm hS hT hl hk1 hk2
    obtain ⟨fc, rfl⟩ : ∃ q, fc = q + 1 := ⟨fc - 1, by omega⟩
    obtain ⟨fm, rfl⟩ : ∃ q, fm = q + 1 := ⟨fm - 1, by omega⟩
    obtain ⟨S5, e5⟩ : ∃ z, z = pI S 18 4 (nI (w + i + 1)) := ⟨_, rfl⟩
    have f5 : FrX 18 S S5 := by rw [e5]; exact FrX.pI
    have hS5 := f5.ce (Or.inr rfl) hS
    obtain ⟨k0, k1, k2, k3, k4⟩ := hk1
    have g : ∀ k, k ≠ 4 → gI S5 18 k = gI S 18 k := fun k hk => by rw [e5]; exact gI_nk _ _ _ _ hk
    obtain ⟨S8, p1, p2, p3, p4, p5⟩ := hR.1.2.2.2.2.1 S5 hS5.cb 18 t d (w + i + 1) l set (Or.inr rfl) ht hd (by omega) hl hset ((g 0 (by decide)).trans k0) ((g 1 (by decide)).trans k1) ((g 2 (by decide)).trans k2) (by rw [e5, gI_eq])
    have hS8 : CE Sc S8 := FrX.ce (q := 18) (Or.inr rfl) ⟨p2, p3⟩ hS5
    obtain ⟨T6, c1, c2, c3⟩ := hR.1.eat_m (w := w + i + 1) hT.mb ht hd hl (by omega) (set64 hset hn6) hk2
    have hT6 := c3.me hT
    obtain ⟨b1, b2⟩ := s4 i (by omega)
    have cstep : lX2_fitsSeen_2 (fc + 1) S 17 (nI set) (nI i) = if (nI (eatN ea set t d (w + i + 1) nS l) = gI Sc 5 i : Prop) then (lX2_fitsSeen_2 fc S8 17 (nI set) (nI (i + 1))) else (some (0, S8)) := by
      rw [lX2_fitsSeen_2.eq_2, rc_17_0 hS.1, Option.bind_some, hS.2.2.2 1 (by omega), s2, if_neg (nI_ge (by omega) (by omega)), if_neg (show ¬ (8 : Int32) ≤ nI i from nI_ge (a := i) (b := 8) (by omega) (by decide)), rc_17_2 hS.1, Option.bind_some, xlet_eq, k4, nI_1, ← e5, rc_17_1 hS5.1, Option.bind_some, rc_17_2 hS5.1, Option.bind_some, p1, Option.bind_some]
      dsimp only
      rw [rc_17_2 hS8.1, Option.bind_some, rc_17_0 hS8.1, Option.bind_some, rc_1_9 hS8.1, Option.bind_some, aI_nI (Y := Yc) (c := 5) (by show _ < 8; omega) (by decide), Option.bind_some, p4, hS8.2.2.2 5 (by omega), nI_1]
    have mstep : lX9_canBe_36 (fm + 1) T 0 (nI i) = if (nI (eatN ea set t d (w + i + 1) nS l) = gI Sc 5 i : Prop) then (lX9_canBe_36 fm T6 0 (nI (i + 1))) else (some (0, T6)) := by
      rw [lX9_canBe_36.eq_2, rm_0 hT.1, Option.bind_some, aI_lit (Y := Ym) (c := 1) (i := 7) 7 rfl (by decide) (by decide), Option.bind_some, hT.2.1 1 (by omega) (by omega), s3, if_neg (nI_ge (by omega) (by omega)), Option.bind_some, aI_lit (Y := Ym) (c := 1) (i := 1) 1 rfl (by decide) (by decide), Option.bind_some, hT.2.1 1 (by omega) (by omega), hw.2.2, nI_1, nI_add, show w + 1 + i = w + i + 1 by omega, c1, Option.bind_some]
      dsimp only
      rw [rm_0 hT6.1, Option.bind_some, show (28 : Int32) + nI i = nI (28 + i) from nI_add 28 i, aI_nI (Y := Ym) (c := 1) (by show _ < 486; omega) (by decide), Option.bind_some, c2.2.2.1, hT6.2.1 1 (by omega) (by omega), b1, nI_1]
    rw [cstep, mstep]
    by_cases hq : nI (eatN ea set t d (w + i + 1) nS l) = gI Sc 5 i
    · rw [if_pos hq, if_pos hq]
      exact ih (i + 1) fc fm _ S8 T6 (by omega) (by omega) (by omega) hS8 hT6 (Nat.le_trans (eatN_le _ _ _ _ _ _ _) hl) ⟨(p5 0 (by decide)).trans ((g 0 (by decide)).trans k0), (p5 1 (by decide)).trans ((g 1 (by decide)).trans k1), p4, (p5 3 (by decide)).trans ((g 3 (by decide)).trans k3), (p5 4 (by decide)).trans (by rw [e5, gI_eq]; rfl)⟩ c2
    · rw [if_neg hq, if_neg hq]
      exact ⟨0, S8, T6, Or.inl rfl, rfl, rfl, hS8, hT6⟩
theorem who_go {Sc Sm : xS} {nS sc w mi : Nat} {sl : Nat → Nat → Nat → Nat} {ea : Nat → Nat → Nat → Nat → Nat → Nat} (hR : RO Sc Sm nS sc w mi sl ea) {t d : Nat} {v3 : Int32} (ht : t < 2) (hd : d < 1000) : ∀ e set fc fm (a : Int32) S T, e + set = 2 ^ nS → e < fc → e < fm → CE Sc S → ME Sm T → ∃ r S' T', lX2_nibblers_44 fc S 17 (nI t) (nI d) v3 (nI (sl t d (w + 1))) (nI (2 ^ nS)) a (nI set) = some (r, S') ∧ lX9_who_27 fm T 0 (nI t) (nI d) v3 a (nI set) = some (r, T') ∧ CE Sc S' ∧ ME Sm T' := by
  have hw := hR.2.2.2.1
  have hn6 := hR.1.2.2.2.2.2.2.1
  have h64 : 2 ^ nS ≤ 64 := (Nat.pow_le_pow_right (by decide) hn6 : 2 ^ nS ≤ 2 ^ 6)
  obtain ⟨dd, l0, k0', hd0, hl0, hk0, hc3, hm3⟩ := hR.tab ht
  intro e
  induction e with
  | zero =>
    intro set fc fm a S T hi hfc hfm hS hT
    obtain ⟨fc, rfl⟩ : ∃ q, fc = q + 1 := ⟨fc - 1, by omega⟩
    obtain ⟨fm, rfl⟩ : ∃ q, fm = q + 1 := ⟨fm - 1, by omega⟩
    have hi : set = 2 ^ nS := by omega
    rw [lX2_nibblers_44.eq_2, hi, if_pos (nI_le (Nat.le_refl _) (by omega)), lX9_who_27.eq_2, rm_0 hT.1, Option.bind_some, aI_lit (Y := Ym) (c := 1) (i := 0) 0 rfl (by decide) (by decide), Option.bind_some, hT.2.1 1 (by omega) (by omega), hR.1.2.2.2.2.2.2.2, shl_c7 nS (by omega), if_pos (nI_le (Nat.le_refl _) (by omega))]
    by_cases hv : v3 = -1
    · rw [if_pos hv, if_pos hv]
      exact ⟨_, _, _, rfl, rfl, hS, hT⟩
    · rw [if_neg hv, if_neg hv]
      exact ⟨_, _, _, rfl, rfl, hS, hT⟩
  | succ e ih =>
    intro set fc fm a S T hi hfc hfm hS hT
    obtain ⟨fc, rfl⟩ : ∃ q, fc = q + 1 := ⟨fc - 1, by omega⟩
    obtain ⟨fm, rfl⟩ : ∃ q, fm = q + 1 := ⟨fm - 1, by omega⟩
    have hset : set < 2 ^ nS := by omega
    -- the class's cake
    obtain ⟨S5, l1, l2, l3⟩ := hR.load (q := 18) (Or.inr rfl) ht hS hc3
    have hS5 := l3.ce (Or.inr rfl) hS
    obtain ⟨S7, e7⟩ : ∃ z, z = pI S5 18 1 (nI d) := ⟨_, rfl⟩
    have f7 : FrX 18 S5 S7 := by rw [e7]; exact FrX.pI
    have hS7 := f7.ce (Or.inr rfl) hS5
    obtain ⟨S9, e9⟩ : ∃ z, z = pI S7 18 2 (nI (sl t d (w + 1))) := ⟨_, rfl⟩
    have f9 : FrX 18 S7 S9 := by rw [e9]; exact FrX.pI
    have hS9 := f9.ce (Or.inr rfl) hS7
    obtain ⟨S11, e11⟩ : ∃ z, z = pI S9 18 3 0 := ⟨_, rfl⟩
    have f11 : FrX 18 S9 S11 := by rw [e11]; exact FrX.pI
    have hS11 := f11.ce (Or.inr rfl) hS9
    have hck : CK 18 S11 t d (sl t d (w + 1)) 0 (w + 0) := by
      refine ⟨?_, ?_, ?_, ?_, ?_⟩
      · rw [e11, gI_nk _ _ _ _ (by decide), e9, gI_nk _ _ _ _ (by decide), e7, gI_nk _ _ _ _ (by decide)]; exact l2.1
      · rw [e11, gI_nk _ _ _ _ (by decide), e9, gI_nk _ _ _ _ (by decide), e7, gI_eq]
      · rw [e11, gI_nk _ _ _ _ (by decide), e9, gI_eq]
      · rw [e11, gI_eq]; rfl
      · rw [e11, gI_nk _ _ _ _ (by decide), e9, gI_nk _ _ _ _ (by decide), e7, gI_nk _ _ _ _ (by decide)]; exact l2.2.2.2.2
    -- the reference's
    obtain ⟨T3, g3⟩ : ∃ z, z = pI (pI (pI T 0 25 (nI t)) 0 26 (nI d)) 0 29 (nI set) := ⟨_, rfl⟩
    have y3 : FrY T T3 := by rw [g3]; exact (FrY.pI (by decide)).trans ((FrY.pI (by decide)).trans (FrY.pI (by decide)))
    have hT3 := y3.me hT
    obtain ⟨T6, q1, q2⟩ := hR.1.2.2.2.1 T3 hT3.mb t d (w + 1) ht hd (by omega)
    obtain ⟨T7, g7⟩ : ∃ z, z = pI T6 0 27 (nI (sl t d (w + 1))) := ⟨_, rfl⟩
    have y7 : FrY T3 T7 := q2.y.trans (by rw [g7]; exact FrY.pI (by decide))
    have hT7 := y7.me hT3
    obtain ⟨h', eh⟩ := nI_any (gI T7 0 28)
    have o6 : ∀ k, gI T6 0 k = gI T3 0 k := fun k => by rw [q2.2.2 0 (by decide) (by decide)]
    have hmk : MK T7 t d (sl t d (w + 1)) h' set := by
      refine ⟨?_, ?_, ?_, eh, ?_⟩
      · rw [g7, gI_nk _ _ _ _ (by decide), o6, g3, gI_nk _ _ _ _ (by decide), gI_nk _ _ _ _ (by decide), gI_eq]
      · rw [g7, gI_nk _ _ _ _ (by decide), o6, g3, gI_nk _ _ _ _ (by decide), gI_eq]
      · rw [g7, gI_eq]
      · rw [g7, gI_nk _ _ _ _ (by decide), o6, g3, gI_eq]
    obtain ⟨r, S12, T12, r0, r1, r2, r3, r4⟩ := fits_go hR ht hd hset sc 0 5000 5000 (sl t d (w + 1)) S11 T7 rfl (by have := hR.2.2.2.2.2.2.2.1; omega) (by have := hR.2.2.2.2.2.2.2.1; omega) hS11 hT7 (hR.1.1 t d (w + 1)).2 hck hmk
    rw [lX2_nibblers_44.eq_2, if_neg (nI_ge hset (by omega)), rc_17_2 hS.1, Option.bind_some, rc_17_0 hS.1, Option.bind_some, l1, Option.bind_some, rc_17_2 hS5.1, Option.bind_some, xlet_eq, ← e7, rc_17_2 hS7.1, Option.bind_some, xlet_eq, ← e9, rc_17_2 hS9.1, Option.bind_some, xlet_eq, ← e11]
    unfold mX2_fitsSeen
    rw [show lX2_fitsSeen_2 5000 S11 17 (nI set) 0 = some (r, S12) from r1, Option.bind_some]
    rw [lX9_who_27.eq_2, rm_0 hT.1, Option.bind_some, aI_lit (Y := Ym) (c := 1) (i := 0) 0 rfl (by decide) (by decide), Option.bind_some, hT.2.1 1 (by omega) (by omega), hR.1.2.2.2.2.2.2.2, shl_c7 nS (by omega), if_neg (nI_ge hset (by omega))]
    unfold mX9_canBe
    rw [xlet_eq, xlet_eq, xlet_eq, ← g3, rm_0 hT3.1, Option.bind_some, aI_lit (Y := Ym) (c := 1) (i := 1) 1 rfl (by decide) (by decide), Option.bind_some, hT3.2.1 1 (by omega) (by omega), hw.2.2, nI_1 w, q1, Option.bind_some, xlet_eq, ← g7, show lX9_canBe_36 5000 T7 0 0 = some (r, T12) from r2, Option.bind_some, nI_1 set]
    dsimp only
    rcases r0 with rfl | rfl
    · rw [if_pos rfl, if_pos rfl]
      exact ih (set + 1) fc fm a S12 T12 (by omega) (by omega) (by omega) r3 r4
    · rw [if_neg n10, if_neg n10]
      by_cases hv : a = v3
      · rw [if_pos hv, if_pos hv]
        exact ⟨_, _, _, rfl, rfl, r3, r4⟩
      · rw [if_neg hv, if_neg hv]
        exact ih (set + 1) fc fm (a + 1) S12 T12 (by omega) (by omega) (by omega) r3 r4
theorem sim_who_ok : sim_who (RelW RTx) := by
  intro Sc Sm p w v h
  have hC := h.1
  have hM := h.2.1
  obtain ⟨hcc, hmm⟩ := h.ce0
  obtain ⟨nS, sc, w0, mi, sl, ea, hR⟩ := h.ro
  have hn6 := hR.1.2.2.2.2.2.2.1
  unfold mX8_who mX9_who
  rcases (tab_cases p).symm with c | ⟨t, ht, rfl, c⟩
  · exact ⟨-1, Sc, Sm, by rw [(c Sc).1, Option.bind_some, if_pos rfl], by rw [(c Sm).2, Option.bind_some, if_pos rfl], h⟩
  rw [(c Sc).1, (c Sm).2, Option.bind_some, Option.bind_some, if_neg n10, if_neg n10]
  dsimp only
  rcases (day_cases w).symm with c | ⟨d, hd, rfl, c⟩
  · exact ⟨-1, Sc, Sm, by rw [(c Sc).1, Option.bind_some, if_pos rfl], by rw [(c Sm).2, Option.bind_some, if_pos rfl], h⟩
  rw [(c Sc).1, (c Sm).2, Option.bind_some, Option.bind_some, if_neg n10, if_neg n10]
  dsimp only
  by_cases hv : -1 ≤ v
  · rw [if_pos hv, if_pos hv, rc_0_4 hC, Option.bind_some]
    unfold mX2_nibblers
    obtain ⟨w1, w2, w3⟩ := hR.2.2.2.1
    obtain ⟨S4, q1, q2⟩ := hR.1.2.2.1 Sc hcc.cb t d (w0 + 1) ht hd (by omega)
    have hS4 := q2.ce hcc
    have h64 : 2 ^ nS ≤ 64 := (Nat.pow_le_pow_right (by decide) hn6 : 2 ^ nS ≤ 2 ^ 6)
    obtain ⟨r, S', T', r1, r2, r3, r4⟩ := who_go hR (v3 := v) ht hd (2 ^ nS) 0 5000 5000 0 S4 Sm rfl (by omega) (by omega) hS4 hmm
    refine ⟨r, S', T', ?_, r2, h.ce r3 r4⟩
    rw [rc_17_1 hC, Option.bind_some, rc_17_0 hC, Option.bind_some, get_eq (i := 12) 12 rfl (by decide) (rc_1_0 hC) rfl, Option.bind_some]
    dsimp only
    rw [w2, nI_1, q1, Option.bind_some]
    dsimp only
    rw [rc_17_0 hS4.1, Option.bind_some, xlet_eq, hS4.2.2.2 1 (by omega), hR.2.1, if_neg (show ¬ (6 : Int32) < nI nS from nI_nlt (a := 6) hn6 (by decide)), shl_c7 nS (by omega)]
    rw [show lX2_nibblers_44 5000 S4 17 (nI t) (nI d) v (nI (sl t d (w0 + 1))) (nI (2 ^ nS)) 0 0 = some (r, S') from r1]
    rfl
  · exact ⟨-1, Sc, Sm, by rw [if_neg hv], by rw [if_neg hv], h⟩

/-! undo: the call -/
theorem undo_spec {S : xS} (hM : RMr S) {m hs nS : Nat} (hm : m < 30) (hh : hs ≤ nS) (hS : nS ≤ 6) (h6 : gI S 1 6 = nI (m + 1)) (h0 : gI S 1 0 = nI nS) (hx : gI S 1 (36 + 15 * m) = nI hs) : ∃ S', mX9_undo S 0 = some (nI m, S') ∧ S'.2 = S.2 ∧ (∀ c, c ≠ 1 → gI S' c = gI S c) ∧ gI S' 1 6 = nI m ∧ gI S' 1 1 = gI S 1 (36 + 15 * m + 1) ∧ gI S' 1 3 = gI S 1 (36 + 15 * m + 2) ∧ (∀ k, k < 6 → gI S' 1 (10 + k) = gI S 1 (36 + 15 * m + 3 + k)) ∧ (∀ s, s < hs → gI S' 1 (16 + 2 * s + 1) = gI S 1 (36 + 15 * m + 9 + s)) ∧ (∀ s, hs ≤ s → s < nS → gI S' 1 (16 + 2 * s + 1) = 2) ∧ (∀ k, k ≠ 1 → k ≠ 3 → k ≠ 6 → (k < 10 ∨ 16 ≤ k) → (∀ s, s < nS → k ≠ 16 + 2 * s + 1) → gI S' 1 k = gI S 1 k) := by
  obtain ⟨x, ex⟩ : ∃ x, x = 36 + 15 * m := ⟨_, rfl⟩
  rw [← ex] at hx ⊢
  have f0 : (36 : Int32) + 15 * nI m = nI x := by rw [ex, show (15 : Int32) = nI 15 from rfl, show (36 : Int32) = nI 36 from rfl, pk_mul, nI_add]
  have f1 : nI x + 1 = nI (x + 1) := nI_1 x
  have f2 : nI x + 2 = nI (x + 2) := nI_add x 2
  have fm : nI (m + 1) - 1 = nI m := nI_pred m
  obtain ⟨S1, e1⟩ : ∃ z, z = pI S 1 6 (nI m) := ⟨_, rfl⟩
  obtain ⟨S2, e2⟩ : ∃ z, z = pI S1 1 1 (gI S1 1 (x + 1)) := ⟨_, rfl⟩
  obtain ⟨S3, e3⟩ : ∃ z, z = pI S2 1 3 (gI S2 1 (x + 2)) := ⟨_, rfl⟩
  have hM1 : RMr S1 := hM.ofR (by rw [e1]; rfl)
  have hM2 : RMr S2 := hM.ofR (by rw [e2, e1]; rfl)
  have hM3 : RMr S3 := hM.ofR (by rw [e3, e2, e1]; rfl)
  have k3 : ∀ k, k ≠ 1 → k ≠ 3 → k ≠ 6 → gI S3 1 k = gI S 1 k := fun k a b c => by rw [e3, gI_nk _ _ _ _ b, e2, gI_nk _ _ _ _ a, e1, gI_nk _ _ _ _ c]
  obtain ⟨S4, g1, g2, g3, g4, g5⟩ := un_tabs (x := x) (by omega) (by omega) 6 0 5000 S3 hM3 rfl (by decide)
  have hM4 : RMr S4 := hM3.ofR (by rw [g2])
  have q6 : gI S4 1 6 = nI m := by rw [g4 6 (by omega), e3, gI_nk _ _ _ _ (by decide), e2, gI_nk _ _ _ _ (by decide), e1, gI_eq]
  obtain ⟨S', p1, p2, p3, p4, p5, p6⟩ := un_seats (x := x) (hs := hs) (nS := nS) (m := m) (by omega) (by omega) hh hS hs 0 5000 S4 hM4 (by rw [g4 x (by omega), k3 x (by omega) (by omega) (by omega)]; exact hx) (by rw [g4 0 (by omega), k3 0 (by decide) (by decide) (by decide)]; exact h0) q6 (by omega) (by omega)
  refine ⟨S', ?_, ?_, fun c hc => ?_, ?_, ?_, ?_, fun k hk => ?_, fun s hs' => ?_, p6, fun k a b c d e => ?_⟩
  · unfold mX9_undo
    rw [rm_0 hM, Option.bind_some, aI_lit (Y := Ym) (c := 1) (i := 6) 6 rfl (by decide) (by decide), Option.bind_some, h6, if_neg (nI_ne0 (by omega) (by omega)), Option.bind_some, aI_lit (Y := Ym) (c := 1) (i := 6) 6 rfl (by decide) (by decide), Option.bind_some, h6, fm, sI_lit (Y := Ym) (c := 1) (i := 6) 6 rfl (by decide) (by decide), Option.bind_some, ← e1, rm_0 hM1, Option.bind_some, aI_lit (Y := Ym) (c := 1) (i := 6) 6 rfl (by decide) (by decide), Option.bind_some, show gI S1 1 6 = nI m from by rw [e1, gI_eq], Option.bind_some, Option.bind_some, f0, f1, aI_nI (Y := Ym) (c := 1) (by show _ < 486; omega) (by decide), Option.bind_some, sI_lit (Y := Ym) (c := 1) (i := 1) 1 rfl (by decide) (by decide), Option.bind_some, ← e2, rm_0 hM2, Option.bind_some, Option.bind_some, f2, aI_nI (Y := Ym) (c := 1) (by show _ < 486; omega) (by decide), Option.bind_some, sI_lit (Y := Ym) (c := 1) (i := 3) 3 rfl (by decide) (by decide), Option.bind_some, ← e3]
    rw [show (0 : Int32) = nI 0 from rfl, g1]
    exact p1
  · rw [p2, g2, e3, e2, e1]; rfl
  · rw [p3 c hc, g3 c hc, e3, gIf_ne _ _ _ _ hc, e2, gIf_ne _ _ _ _ hc, e1, gIf_ne _ _ _ _ hc]
  · rw [p4 6 (by omega)]; exact q6
  · rw [p4 1 (by omega), g4 1 (by omega), e3, gI_nk _ _ _ _ (by decide), e2, gI_eq, e1, gI_nk _ _ _ _ (by omega)]
  · rw [p4 3 (by omega), g4 3 (by omega), e3, gI_eq, e2, gI_nk _ _ _ _ (by omega), e1, gI_nk _ _ _ _ (by omega)]
  · rw [p4 (10 + k) (by omega), g5 k (Nat.zero_le _) hk, k3 _ (by omega) (by omega) (by omega)]
  · rw [p5 s (Nat.zero_le _) hs', g4 _ (by omega), k3 _ (by omega) (by omega) (by omega)]
  · rw [p4 k (fun s _ h2 => e s h2), g4 k (by omega), k3 k a b c]
theorem takeBack_spec {S : xS} (hC : RCr S) {m nx : Nat} (hm : m < 30) (hx : nx < 30) (h2 : gI S 1 2 = nI nx) (h3 : gI S 1 3 = nI (m + 1)) : ∃ S', mX8_undo S 0 = some (nI m, S') ∧ S'.2 = S.2 ∧ (∀ c, c ≠ 1 → c ≠ 2 → gI S' c = gI S c) ∧ (∀ k, k ≠ 2 → k ≠ 3 → gI S' 1 k = gI S 1 k) ∧ gI S' 1 2 = nI ((nx + 29) % 30) ∧ gI S' 1 3 = nI m ∧ (∀ k, k < 14 → gI S' 2 k = gI S 3 ((nx + 29) % 30 * 14 + k)) := by
  obtain ⟨w, ew⟩ : ∃ w, w = (nx + 29) % 30 := ⟨_, rfl⟩
  rw [← ew]
  have hw : w < 30 := by rw [ew]; exact Nat.mod_lt _ (by decide)
  have e14 : nI w * 14 = nI (w * 14) := pk_mul w 14
  have hcp : cpI Yc S 3 (nI w * 14) 2 0 14 = some (fun c => if c = 2 then va_cpy (S.1 3) (S.1 2) (w * 14) 0 14 else S.1 c, S.2) := by
    unfold cpI
    rw [e14, nI_clamp (show w * 14 < 2 ^ 31 by omega), sb_cl0, show ((14 : Int32)).toNatClampNeg = 14 from by decide, if_neg]
    simp only [not_or]
    refine ⟨nI_pos (by omega), by decide, by decide, ?_, by decide⟩
    show ¬ 420 < w * 14 + 14
    omega
  obtain ⟨S5, e5⟩ : ∃ z : xS, z = (fun c => if c = 2 then va_cpy (S.1 3) (S.1 2) (w * 14) 0 14 else S.1 c, S.2) := ⟨_, rfl⟩
  have c5 : ∀ c, c ≠ 2 → gI S5 c = gI S c := fun c hc => by rw [e5]; exact if_neg hc
  have q5 : ∀ k, gI S5 2 k = va_cpy (S.1 3) (S.1 2) (w * 14) 0 14 k := fun k => by
    rw [e5]
    show (if 2 = 2 then va_cpy (S.1 3) (S.1 2) (w * 14) 0 14 else S.1 2) k = _
    rw [if_pos rfl]
  have hj : jX1_takeBack_43 S 1 (nI w) = some (nI m, pI (pI S5 1 2 (nI w)) 1 3 (nI m)) := by
    unfold jX1_takeBack_43
    rw [rc_1_1 hC, Option.bind_some, rc_1_0 hC, Option.bind_some, hcp, Option.bind_some, ← e5, xlet_eq, xlet_eq, show gI (pI S5 1 2 (nI w)) 1 3 = nI (m + 1) from by rw [gI_nk _ _ _ _ (by decide), c5 1 (by decide), h3], nI_pred, gI_eq]
  refine ⟨pI (pI S5 1 2 (nI w)) 1 3 (nI m), ?_, by rw [e5]; rfl, ?_, ?_, ?_, gI_eq _ _ _ _, ?_⟩
  · unfold mX8_undo mX1_takeBack
    rw [rc_0_0 hC, Option.bind_some, h3, if_neg (nI_nle (by omega) (by omega)), h2, if_neg (nI_pos (by omega)), if_pos (show nI nx < (30 : Int32) from nI_lt hx (by decide))]
    by_cases hz : nx = 0
    · subst hz
      rw [if_pos nI_0, show (29 : Int32) = nI w from by rw [ew]; rfl, hj]
      rfl
    · obtain ⟨y, rfl⟩ : ∃ y, nx = y + 1 := ⟨nx - 1, by omega⟩
      rw [if_neg (nI_ne0 (by omega) (by omega)), nI_pred, show y = w from by rw [ew]; omega, hj]
      rfl
  · intro c h1 h2
    rw [gIf_ne _ _ _ _ h1, gIf_ne _ _ _ _ h1, c5 c h2]
  · intro k h1 h2
    rw [gI_nk _ _ _ _ h2, gI_nk _ _ _ _ h1, c5 1 (by decide)]
  · rw [gI_nk _ _ _ _ (by decide), gI_eq]
  · intro k hk
    rw [gI_ne _ _ _ _ (by decide), gI_ne _ _ _ _ (by decide), q5, pk_cpy_in (by omega) (by omega), Nat.sub_zero]
    rfl
theorem sim_undo_ok {RT : xS → xS → Nat → Prop} (hRT : RTloc RT) : sim_undo (RelW RT) := by
  intro Sc Sm h
  have hC := h.1
  have hM := h.2.1
  obtain ⟨nS, nT, ns, sc, nx, nS', nT', ns', sc', nx', hV, hV', hT, hRt⟩ := h.2.2.2.1
  obtain ⟨a1, a2, a3, a4, a5, a6, a7, a8, a9, a10, a11, a12, a13⟩ := id hV
  obtain ⟨n1, n2, n3, n4, n5⟩ := id a1
  rcases Nat.eq_zero_or_pos ns with hz | hz
  · subst hz
    refine ⟨-1, Sc, Sm, ?_, ?_, h⟩
    · unfold mX8_undo mX1_takeBack
      rw [rc_0_0 hC, Option.bind_some, a4.1, if_pos (by decide)]
      rfl
    · unfold mX9_undo
      rw [rm_0 hM, Option.bind_some, aI_lit (Y := Ym) (c := 1) (i := 6) 6 rfl (by decide) (by decide), Option.bind_some, a4.2, if_pos nI_0]
  obtain ⟨m, rfl⟩ : ∃ m, ns = m + 1 := ⟨ns - 1, by omega⟩
  obtain ⟨hs, c1, c2, c3, c4, c5, c6, c7⟩ := a13 m (by omega)
  have hrg : rg nx (m + 1) m = (nx + 29) % 30 := by unfold rg; omega
  rw [hrg] at c3 c4 c5 c6 c7
  obtain ⟨Sc', p1, p2, p3, p4, p5, p6, p7⟩ := takeBack_spec hC (m := m) (by omega) n5 a6 a4.1
  obtain ⟨Sm', q1, q2, q3, q4, q5, q6, q7, q8, q9, q10⟩ := undo_spec hM (m := m) (by omega) c1 n1 a4.2 a2.2 c2
  refine ⟨nI m, Sc', Sm', p1, q1, ?_⟩
  refine RelW.now hRT h (by rw [p2]) (by rw [q2]) (fun c hc => p3 c (by omega) (by omega)) q3 (p4 8 (by decide) (by decide)) (fun mS mT ms mc mx hVm => ?_)
  have e1 : mS = nS := (nI_eq (by have := hVm.1; omega) (by omega)).mp (hVm.2.1.1.symm.trans a2.1)
  have e2 : ms = m + 1 := (nI_eq (by have := hVm.1; omega) (by omega)).mp (hVm.2.2.2.1.1.symm.trans a4.1)
  have e3 : mx = nx := (nI_eq (by have := hVm.1; omega) (by omega)).mp (hVm.2.2.2.2.2.1.symm.trans a6)
  subst e1 e2 e3
  obtain ⟨b1, b2, b3, b4, b5, b6, b7, b8, b9, b10, b11, b12, b13⟩ := hVm
  refine ⟨mS, m, mc, (mx + 29) % 30, ?_⟩
  have lo : ∀ k, k ≠ 1 → k ≠ 3 → k ≠ 6 → (k < 10 ∨ 28 ≤ k) → gI Sm' 1 k = gI Sm 1 k := fun k x1 x2 x3 x4 => q10 k x1 x2 x3 (by omega) (fun s hs' => by omega)
  unfold RV
  rw [p4 5 (by decide) (by decide), p4 7 (by decide) (by decide), p6, p4 10 (by decide) (by decide), p5, p4 6 (by decide) (by decide), p4 8 (by decide) (by decide), q4, lo 0 (by decide) (by decide) (by decide) (by decide), lo 2 (by decide) (by decide) (by decide) (by decide), lo 4 (by decide) (by decide) (by decide) (by decide), lo 5 (by decide) (by decide) (by decide) (by decide), lo 7 (by decide) (by decide) (by decide) (by decide), q5, q6, p3 (1 + 2) (by decide) (by decide), p3 (1 + 3) (by decide) (by decide), p3 (1 + 4) (by decide) (by decide)]
  have hrow : okRow (gI Sc' (1 + 1)) mS := okRow_nS (c3.congr (fun k hk => p7 k hk)) (fun s hs6 hm => by
    show gI Sc' 2 (6 + s) = 2
    rw [p7 _ (by omega)]
    exact (c3.2.2.1 s hs6).2 (by omega))
  refine ⟨⟨n1, b1.2.1, by omega, b1.2.2.2.1, Nat.mod_lt _ (by decide)⟩, b2, b3, ⟨rfl, rfl⟩, b5, rfl, b7, b8, hrow, ⟨?_, ?_, fun k hk => ?_⟩, fun s hs' => ?_, fun k hk => ?_, fun j hj => ?_⟩
  · exact c4.trans (p7 12 (by decide)).symm
  · exact c5.trans (p7 13 (by decide)).symm
  · rw [q7 k hk]
    exact (c6 k hk).trans (p7 k (by omega)).symm
  · refine ⟨?_, ?_, (b11 s hs').2.2⟩
    · rw [q10 _ (by omega) (by omega) (by omega) (by omega) (fun t _ => by omega)]
      exact (b11 s hs').1
    · show gI Sm' 1 (16 + 2 * s + 1) = gI Sc' 2 (6 + s)
      rw [p7 _ (by omega)]
      by_cases hlt : s < hs
      · rw [q8 s hlt, c7 s hlt, Nat.add_assoc]
      · rw [q9 s (by omega) hs']
        exact ((c3.2.2.1 s (by omega)).2 (by omega)).symm
  · rw [lo _ (by omega) (by omega) (by omega) (by omega)]
    exact b12 k hk
  · have hr : rg ((mx + 29) % 30) m j = rg mx (m + 1) j := by unfold rg; omega
    rw [hr]
    obtain ⟨hs2, d1, d2, d3, d4, d5, d6, d7⟩ := b13 j (by omega)
    refine ⟨hs2, d1, ?_, d3, ?_, ?_, fun k hk => ?_, fun t ht => ?_⟩
    · rw [lo _ (by omega) (by omega) (by omega) (by omega)]; exact d2
    · rw [lo _ (by omega) (by omega) (by omega) (by omega)]; exact d4
    · rw [lo _ (by omega) (by omega) (by omega) (by omega)]; exact d5
    · rw [lo _ (by omega) (by omega) (by omega) (by omega)]; exact d6 k hk
    · rw [lo _ (by omega) (by omega) (by omega) (by omega)]; exact d7 t ht

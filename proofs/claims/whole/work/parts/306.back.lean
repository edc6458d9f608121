/-! image, back, by: the calls -/
theorem cpS_ne (S : xS) (a b : Nat) {c : Nat} (h : c ≠ b) : gI (cpS S a b) c = gI S c := if_neg h
theorem cpS_in (S : xS) (a b : Nat) {k : Nat} (h : k < 486) : gI (cpS S a b) b k = gI S a k := by
  show (if b = b then (fun k => if k < 486 then S.1 a k else S.1 b k) else S.1 b) k = S.1 a k
  rw [if_pos rfl, if_pos h]
def RTmono (RT : xS → xS → Nat → Prop) : Prop := ∀ (Sc Sm : xS) (k k' : Nat), k' ≤ k → RT Sc Sm k → RT Sc Sm k'
theorem RCr.law {S : xS} (h : RCr S) (v : Option Nat) : RCr (pR S 12 3 v) := by
  unfold RCr at h ⊢
  simp only [gR_pR]
  exact h
theorem textAt_none {S : xS} : mX8_textAt S 0 (-1) = some (none, S) := by
  unfold mX8_textAt
  rw [if_pos (by decide)]
theorem textAt_some {S : xS} (hC : RCr S) {t : Nat} (ht : t < 4) : mX8_textAt S 0 (nI t) = some (some (26 + 6 * t), S) := by
  unfold mX8_textAt
  rw [if_neg (nI_pos (by omega)), if_neg (show ¬ (4 : Int32) ≤ nI t from nI_ge ht (by decide)), rc_0_2 hC, Option.bind_some]
  unfold aR
  rw [if_neg (show ¬ (nI t < 0 ∨ xn Yc 11 ≤ (nI t).toNatClampNeg) from nI_in ht (by decide)), nI_clamp (by omega), Option.bind_some]
  rcases (show t = 0 ∨ t = 1 ∨ t = 2 ∨ t = 3 by omega) with rfl | rfl | rfl | rfl
  · rw [rt_0 hC]
  · rw [rt_1 hC]
  · rw [rt_2 hC]
  · rw [rt_3 hC]
theorem sim_image_ok {RT : xS → xS → Nat → Prop} (hRT : RTloc RT) : sim_image (RelW RT) := by
  intro Sc Sm h
  obtain ⟨hC, hM, hK, ⟨nS, nT, ns, sc, nx, nS', nT', ns', sc', nx', hV, hV', hT, hRt⟩, hTp, hF⟩ := id h
  obtain ⟨S', e1, e2, e3, e4, e5, e6, e7, e8⟩ := copyFrom_61 hC
  have hC' : RCr S' := hC.ofR (by rw [e2])
  have hM' : RMr (cpS Sm 1 2) := hM.ofR rfl
  refine ⟨gI Sm 1 1, S', cpS Sm 1 2, ?_, ?_, hC', hM', ?_, ⟨nS, nT, ns, sc, nx, nS, nT, ns, sc, nx, hV.congr (fun i hi => e3 _ (by omega)) (cpS_ne _ _ _ (by decide)), hV.move e4 e5 e6 e7 e8 (fun k hk => cpS_in _ _ _ hk), Nat.le_refl _, hRT _ _ _ _ _ (fun c hc => e3 _ (by omega)) (cpS_ne _ _ _ (by decide)) hRt⟩, hTp.congr (congrFun (e3 23 (by omega)) 1) (congrFun (cpS_ne _ _ _ (by decide)) 4) (e3 24 (by omega)) (cpS_ne _ _ _ (by decide)), ?_⟩
  · unfold mX8_image
    rw [rc_0_1 hC, Option.bind_some, rc_0_0 hC, Option.bind_some, e1, Option.bind_some, rc_0_0 hC', Option.bind_some, get_eq (i := 12) 12 rfl (by decide) (rc_1_0 hC') rfl]
    show some (gI S' 2 12, S') = _
    rw [e3 2 (by omega)]
    exact congrArg (fun z => some (z, S')) hV.2.2.2.2.2.2.2.2.2.1.1.symm
  · unfold mX9_image
    rw [rm_0 hM, Option.bind_some, rm_1 hM, Option.bind_some, copy_spec Sm 1 2 (by decide) rfl rfl, Option.bind_some, rm_0 hM', Option.bind_some, aI_lit (Y := Ym) (c := 1) (i := 1) 1 rfl (by decide) (by decide), cpS_ne _ _ _ (by decide)]
    rfl
  · unfold RKd gR at hK ⊢
    rw [e3 1 (by omega), e2]
    exact hK
  · unfold RFt at hF ⊢
    rw [e3 25 (by omega), cpS_ne _ _ _ (by decide)]
    exact hF
theorem sim_back_ok {RT : xS → xS → Nat → Prop} (hRT : RTloc RT) (hRTm : RTmono RT) : sim_back (RelW RT) := by
  intro Sc Sm h
  obtain ⟨hC, hM, hK, ⟨nS, nT, ns, sc, nx, nS', nT', ns', sc', nx', hV, hV', hT, hRt⟩, hTp, hF⟩ := id h
  obtain ⟨S', e1, e2, e3, e4, e5, e6, e7, e8⟩ := copyFrom_16 hC
  have hC' : RCr S' := hC.ofR (by rw [e2])
  have hM' : RMr (cpS Sm 2 1) := hM.ofR rfl
  have e48 : gI S' 1 8 = gI Sc 6 8 := e4 8 (by decide) (by decide) (by decide) (by decide) (by decide)
  obtain ⟨v, ht, hKd⟩ : ∃ v, mX8_textAt S' 0 (gI S' 1 8) = some (v, S') ∧ RKd (pR S' 12 3 v) := by
    have hch : (gR (pR S' 12 3 none) 17 5 = some 21 ∧ gR (pR S' 12 3 none) 17 6 = some 22) ∨ (gR (pR S' 12 3 none) 17 5 = some 22 ∧ gR (pR S' 12 3 none) 17 6 = some 21) := by
      have := hK.2
      unfold gR at this ⊢
      rw [← e2] at this
      exact this
    rcases hV'.2.2.2.2.2.2.2.1 with ⟨q1, q2 | ⟨t, q2, q3⟩⟩
    · refine ⟨none, ?_, Or.inl ⟨?_, ?_⟩, hch⟩
      · rw [e48, q1, q2]; exact textAt_none
      · rw [gI_pR, e48, q1, q2]
      · rw [gR_pR, if_pos ⟨rfl, rfl⟩]
    · have := hV'.1
      refine ⟨some (26 + 6 * t), ?_, Or.inr ⟨t, by omega, ?_, ?_⟩, hch⟩
      · rw [e48, q1, q3]; exact textAt_some hC' (by omega)
      · rw [gI_pR, e48, q1, q3]
      · rw [gR_pR, if_pos ⟨rfl, rfl⟩]
  have hC2 : RCr (pR S' 12 3 v) := hC'.law v
  refine ⟨gI Sm 2 1, pR S' 12 3 v, cpS Sm 2 1, ?_, ?_, hC2, hM', hKd, ⟨nS', nT', ns', sc', nx', nS', nT', ns', sc', nx', hV'.move e4 e5 e6 e7 e8 (fun k hk => cpS_in _ _ _ hk), hV'.congr (fun i hi => e3 _ (by omega)) (cpS_ne _ _ _ (by decide)), Nat.le_refl _, hRTm _ _ _ _ hT (hRT _ _ _ _ _ (fun c hc => e3 _ (by omega)) (cpS_ne _ _ _ (by decide)) hRt)⟩, hTp.congr (congrFun (e3 23 (by omega)) 1) (congrFun (cpS_ne _ _ _ (by decide)) 4) (e3 24 (by omega)) (cpS_ne _ _ _ (by decide)), ?_⟩
  · unfold mX8_back
    rw [rc_0_0 hC, Option.bind_some, rc_0_1 hC, Option.bind_some, e1, Option.bind_some, rc_0_3 hC', Option.bind_some, rc_0_0 hC', Option.bind_some, ht, Option.bind_some, xlet_eq, rc_0_0 hC2, Option.bind_some, get_eq (i := 12) 12 rfl (by decide) (rc_1_0 hC2) rfl]
    show some (gI S' 2 12, pR S' 12 3 v) = _
    rw [e5 12 (by decide)]
    exact congrArg (fun z => some (z, pR S' 12 3 v)) hV'.2.2.2.2.2.2.2.2.2.1.1.symm
  · unfold mX9_back
    rw [rm_1 hM, Option.bind_some, rm_0 hM, Option.bind_some, copy_spec Sm 2 1 (by decide) rfl rfl, Option.bind_some, rm_0 hM', Option.bind_some, aI_lit (Y := Ym) (c := 1) (i := 1) 1 rfl (by decide) (by decide), cpS_in _ _ _ (by decide)]
    rfl
  · unfold RFt at hF ⊢
    simp only [gI_pR]
    rw [e3 25 (by omega), cpS_ne _ _ _ (by decide)]
    exact hF
theorem lt_pred {p : Int32} {n : Nat} (hn : n ≤ 4) : (nI n - 1 < p) ↔ ¬ p < nI n := by
  have h1 : (1 : Int32) = nI 1 := rfl
  rw [Int32.lt_iff_toInt_lt, Int32.lt_iff_toInt_lt, h1, pk_sub_toInt (by omega) (by omega), nI_toInt (by omega)]
  omega
theorem sim_by_ok {RT : xS → xS → Nat → Prop} (hRT : RTloc RT) : sim_by (RelW RT) := by
  intro Sc Sm p h
  have hC := h.1
  have hM := h.2.1
  have hK := h.2.2.1
  obtain ⟨nS, nT, ns, sc, nx, nS', nT', ns', sc', nx', hV, hV', hT, hRt⟩ := h.2.2.2.1
  obtain ⟨a1, a2, a3, a4, a5, a6, a7, a8, a9, a10, a11, a12, a13⟩ := id hV
  have hn4 := a1.2.1
  unfold mX8_by mX9_by
  rw [rm_0 hM, Option.bind_some, aI_lit (Y := Ym) (c := 1) (i := 4) 4 rfl (by decide) (by decide), Option.bind_some, isIn_eq, Option.bind_some, a3.2]
  by_cases h1 : p < -1
  · exact ⟨0, Sc, Sm, by rw [if_pos h1], by rw [if_pos (Or.inl h1), if_pos rfl], h⟩
  rw [if_neg h1, rc_0_0 hC, Option.bind_some, a3.1]
  by_cases h2' : ¬ p < nI nT
  · exact ⟨0, Sc, Sm, by rw [if_neg h2'], by rw [if_pos (Or.inr ((lt_pred hn4).mpr h2')), if_pos rfl], h⟩
  have h2 : p < nI nT := Decidable.of_not_not h2'
  rw [if_pos h2, if_neg (not_or2 h1 (fun q => (lt_pred hn4).mp q h2)), if_neg n10]
  have hC' : RCr (pI Sc 1 8 p) := hC.ofR rfl
  have hp : p = -1 ∨ bd p nT := by
    by_cases h0 : p < 0
    · refine Or.inl ?_
      have g1 := Int32.lt_iff_toInt_lt.mp h0
      have g2 : ¬ p.toInt < (-1 : Int32).toInt := fun q => h1 (Int32.lt_iff_toInt_lt.mpr q)
      have g3 : (-1 : Int32).toInt = -1 := by decide
      have g4 : (0 : Int32).toInt = 0 := by decide
      rw [g3] at g2
      rw [g4] at g1
      exact Int32.toInt_inj.mp (by rw [g3]; omega)
    · obtain ⟨j, hj, e⟩ := nI_of h0
      refine Or.inr ⟨j, ?_, e⟩
      rw [e] at h2
      exact (nI_ltI hj (by omega)).mp h2
  obtain ⟨v, ht, hKd⟩ : ∃ v, mX8_textAt (pI Sc 1 8 p) 0 p = some (v, pI Sc 1 8 p) ∧ RKd (pR (pI Sc 1 8 p) 12 3 v) := by
    rcases hp with rfl | ⟨t, q2, rfl⟩
    · refine ⟨none, textAt_none, Or.inl ⟨?_, ?_⟩, hK.2⟩
      · rw [gI_pR, gI_eq]
      · rw [gR_pR, if_pos ⟨rfl, rfl⟩]
    · refine ⟨some (26 + 6 * t), textAt_some hC' (by omega), Or.inr ⟨t, by omega, ?_, ?_⟩, hK.2⟩
      · rw [gI_pR, gI_eq]
      · rw [gR_pR, if_pos ⟨rfl, rfl⟩]
  refine ⟨1, pR (pI Sc 1 8 p) 12 3 v, pI Sm 1 5 p, ?_, ?_, ?_⟩
  · rw [Option.bind_some, xlet_eq, rc_0_3 hC', Option.bind_some, ht]
    rfl
  · rw [rm_0 hM, Option.bind_some, sI_lit (Y := Ym) (c := 1) (i := 5) 5 rfl (by decide) (by decide)]
    rfl
  · refine RelW.upd hRT h (hC'.law v) (hM.ofR rfl) hKd (fun c hc => gIf_ne Sc 1 8 p (by omega)) (fun c hc => gIf_ne Sm 1 5 p (by omega)) (gI_ne (c' := 23) (k' := 1) Sc 1 8 p (by decide)) (fun k _ => gI_ne (c' := 25) (k' := k) Sc 1 8 p (by decide)) (fun k _ => gI_ne (c' := 0) (k' := k) Sm 1 5 p (by decide)) (fun mS mT ms mc mx hVm => ⟨mS, ms, mc, mx, ?_⟩)
    have hmT : mT = nT := (nI_eq (by have := hVm.1; omega) (by omega)).mp (hVm.2.2.1.1.symm.trans a3.1)
    subst hmT
    obtain ⟨b1, b2, b3, b4, b5, b6, b7, b8, b9, b10, b11, b12, b13⟩ := hVm
    have key : RV (pI Sc 1 8 p) (pI Sm 1 5 p) 1 1 mS mT ms mc mx := by
      unfold RV
      simp (disch := omega) only [gI_ne, gI_nk, gI_eq, gIf_ne]
      exact ⟨b1, b2, b3, b4, b5, b6, b7, ⟨trivial, hp⟩, b9, b10, b11, b12, b13⟩
    exact key

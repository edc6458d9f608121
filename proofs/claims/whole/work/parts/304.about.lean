/-! about, sister -/
theorem sim_about_ok {RT : xS → xS → Nat → Prop} : sim_about (RelW RT) := by
  intro Sc Sm p h
  have hC := h.1
  have hM := h.2.1
  obtain ⟨nS, nT, ns, sc, nx, nS', nT', ns', sc', nx', hV, hV', hT, hRt⟩ := h.2.2.2.1
  obtain ⟨a1, a2, a3, a4, a5, a6, a7, a8, a9, a10, a11, a12, a13⟩ := id hV
  obtain ⟨len, g1, g2, g3, g4⟩ := h.2.2.2.2.1
  have e12 : gI Sm 1 1 = gI Sc 2 12 := a10.1
  have e13 : gI Sm 1 3 = gI Sc 2 13 := a10.2.1
  unfold mX8_about mX9_about
  rw [isIn_eq, Option.bind_some]
  by_cases c0 : p = 0
  · subst c0
    refine ⟨nI nS, Sc, Sm, ?_, ?_, h⟩
    · rw [if_pos rfl, rc_0_0 hC, Option.bind_some, a2.1]
    · rw [if_neg (show ¬ ((0 : Int32) < 0 ∨ (7 : Int32) < 0) by decide), if_neg n10, rm_0 hM, Option.bind_some, aI_lit (Y := Ym) (c := 1) (i := 0) 0 rfl (by decide) (by decide), Option.bind_some, a2.2]
  by_cases c1 : p = 1
  · subst c1
    refine ⟨gI Sm 1 1, Sc, Sm, ?_, ?_, h⟩
    · rw [if_neg (show ¬ (1 : Int32) = 0 by decide), if_pos rfl, rc_0_0 hC, Option.bind_some, get_eq (i := 12) 12 rfl (by decide) (rc_1_0 hC) rfl, e12]; rfl
    · rw [if_neg (show ¬ ((1 : Int32) < 0 ∨ (7 : Int32) < 1) by decide), if_neg n10, rm_0 hM, Option.bind_some, aI_lit (Y := Ym) (c := 1) (i := 1) 1 rfl (by decide) (by decide)]; rfl
  by_cases c2 : p = 2
  · subst c2
    refine ⟨gI Sm 1 2, Sc, Sm, ?_, ?_, h⟩
    · rw [if_neg (show ¬ (2 : Int32) = 0 by decide), if_neg (show ¬ (2 : Int32) = 1 by decide), if_pos rfl, rc_0_0 hC, Option.bind_some, a7.1]
    · rw [if_neg (show ¬ ((2 : Int32) < 0 ∨ (7 : Int32) < 2) by decide), if_neg n10, rm_0 hM, Option.bind_some, aI_lit (Y := Ym) (c := 1) (i := 2) 2 rfl (by decide) (by decide)]; rfl
  by_cases c3 : p = 3
  · subst c3
    refine ⟨gI Sm 1 3, Sc, Sm, ?_, ?_, h⟩
    · rw [if_neg (show ¬ (3 : Int32) = 0 by decide), if_neg (show ¬ (3 : Int32) = 1 by decide), if_neg (show ¬ (3 : Int32) = 2 by decide), if_pos rfl, rc_0_0 hC, Option.bind_some, get_eq (i := 13) 13 rfl (by decide) (rc_1_0 hC) rfl, e13]; rfl
    · rw [if_neg (show ¬ ((3 : Int32) < 0 ∨ (7 : Int32) < 3) by decide), if_neg n10, rm_0 hM, Option.bind_some, aI_lit (Y := Ym) (c := 1) (i := 3) 3 rfl (by decide) (by decide)]; rfl
  by_cases c4 : p = 4
  · subst c4
    refine ⟨nI nT, Sc, Sm, ?_, ?_, h⟩
    · rw [if_neg (show ¬ (4 : Int32) = 0 by decide), if_neg (show ¬ (4 : Int32) = 1 by decide), if_neg (show ¬ (4 : Int32) = 2 by decide), if_neg (show ¬ (4 : Int32) = 3 by decide), if_pos rfl, rc_0_0 hC, Option.bind_some, a3.1]
    · rw [if_neg (show ¬ ((4 : Int32) < 0 ∨ (7 : Int32) < 4) by decide), if_neg n10, rm_0 hM, Option.bind_some, aI_lit (Y := Ym) (c := 1) (i := 4) 4 rfl (by decide) (by decide), Option.bind_some, a3.2]
  by_cases c5 : p = 5
  · subst c5
    refine ⟨gI Sm 1 5, Sc, Sm, ?_, ?_, h⟩
    · rw [if_neg (show ¬ (5 : Int32) = 0 by decide), if_neg (show ¬ (5 : Int32) = 1 by decide), if_neg (show ¬ (5 : Int32) = 2 by decide), if_neg (show ¬ (5 : Int32) = 3 by decide), if_neg (show ¬ (5 : Int32) = 4 by decide), if_pos rfl, rc_0_0 hC, Option.bind_some, a8.1]
    · rw [if_neg (show ¬ ((5 : Int32) < 0 ∨ (7 : Int32) < 5) by decide), if_neg n10, rm_0 hM, Option.bind_some, aI_lit (Y := Ym) (c := 1) (i := 5) 5 rfl (by decide) (by decide)]; rfl
  by_cases c6 : p = 6
  · subst c6
    refine ⟨nI ns, Sc, Sm, ?_, ?_, h⟩
    · rw [if_neg (show ¬ (6 : Int32) = 0 by decide), if_neg (show ¬ (6 : Int32) = 1 by decide), if_neg (show ¬ (6 : Int32) = 2 by decide), if_neg (show ¬ (6 : Int32) = 3 by decide), if_neg (show ¬ (6 : Int32) = 4 by decide), if_neg (show ¬ (6 : Int32) = 5 by decide), if_pos rfl, rc_0_0 hC, Option.bind_some, a4.1]
    · rw [if_neg (show ¬ ((6 : Int32) < 0 ∨ (7 : Int32) < 6) by decide), if_neg n10, rm_0 hM, Option.bind_some, aI_lit (Y := Ym) (c := 1) (i := 6) 6 rfl (by decide) (by decide), Option.bind_some, a4.2]
  by_cases c7 : p = 7
  · subst c7
    refine ⟨nI sc, Sc, Sm, ?_, ?_, h⟩
    · rw [if_neg (show ¬ (7 : Int32) = 0 by decide), if_neg (show ¬ (7 : Int32) = 1 by decide), if_neg (show ¬ (7 : Int32) = 2 by decide), if_neg (show ¬ (7 : Int32) = 3 by decide), if_neg (show ¬ (7 : Int32) = 4 by decide), if_neg (show ¬ (7 : Int32) = 5 by decide), if_neg (show ¬ (7 : Int32) = 6 by decide), if_pos rfl, rc_0_0 hC, Option.bind_some, a5.1]
    · rw [if_neg (show ¬ ((7 : Int32) < 0 ∨ (7 : Int32) < 7) by decide), if_neg n10, rm_0 hM, Option.bind_some, aI_lit (Y := Ym) (c := 1) (i := 7) 7 rfl (by decide) (by decide), Option.bind_some, a5.2]
  by_cases c8 : p = 8
  · subst c8
    exact ⟨nI len, Sc, Sm, by rw [if_neg (show ¬ (8 : Int32) = 0 by decide), if_neg (show ¬ (8 : Int32) = 1 by decide), if_neg (show ¬ (8 : Int32) = 2 by decide), if_neg (show ¬ (8 : Int32) = 3 by decide), if_neg (show ¬ (8 : Int32) = 4 by decide), if_neg (show ¬ (8 : Int32) = 5 by decide), if_neg (show ¬ (8 : Int32) = 6 by decide), if_neg (show ¬ (8 : Int32) = 7 by decide), if_pos rfl, rc_0_5 hC, Option.bind_some, g2], by rw [if_pos (show ((8 : Int32) < 0 ∨ (7 : Int32) < 8) by decide), if_pos rfl, if_pos rfl, g3], h⟩
  have hno : p < 0 ∨ 7 < p := by
    by_cases h1 : p < 0
    · exact Or.inl h1
    by_cases h2 : 7 < p
    · exact Or.inr h2
    obtain ⟨v, hv, e⟩ := bd_of (B := 7) h1 (Int32.not_lt.mp h2) (by decide)
    rcases (show v = 0 ∨ v = 1 ∨ v = 2 ∨ v = 3 ∨ v = 4 ∨ v = 5 ∨ v = 6 ∨ v = 7 by omega) with rfl | rfl | rfl | rfl | rfl | rfl | rfl | rfl
    · exact absurd e c0
    · exact absurd e c1
    · exact absurd e c2
    · exact absurd e c3
    · exact absurd e c4
    · exact absurd e c5
    · exact absurd e c6
    · exact absurd e c7
  exact ⟨-2, Sc, Sm, by rw [if_neg c0, if_neg c1, if_neg c2, if_neg c3, if_neg c4, if_neg c5, if_neg c6, if_neg c7, if_neg c8], by rw [if_pos hno, if_pos rfl, if_neg c8], h⟩
theorem okRow_nS {f : Nat → Int32} {nS m : Nat} (h : okRow f nS) (hm : ∀ s, s < 6 → m ≤ s → f (6 + s) = 2) : okRow f m := ⟨h.1, h.2.1, fun s hs => ⟨(h.2.2.1 s hs).1, hm s hs⟩, h.2.2.2⟩
theorem sim_sister_ok {RT : xS → xS → Nat → Prop} (hRT : RTloc RT) : sim_sister (RelW RT) := by
  intro Sc Sm p h
  have hC := h.1
  have hM := h.2.1
  obtain ⟨nS, nT, ns, sc, nx, nS', nT', ns', sc', nx', hV, hV', hT, hRt⟩ := h.2.2.2.1
  obtain ⟨a1, a2, a3, a4, a5, a6, a7, a8, a9, a10, a11, a12, a13⟩ := id hV
  unfold mX8_sister mX9_sister mX1_tellSister
  rw [isIn_eq, Option.bind_some]
  by_cases h1 : p < 0
  · exact ⟨-1, Sc, Sm, by rw [if_pos h1], by rw [if_pos (Or.inl h1), if_pos rfl], h⟩
  by_cases h2' : ¬ p ≤ 9
  · exact ⟨-1, Sc, Sm, by rw [if_neg h1, if_neg h2'], by rw [if_pos (Or.inr (nle_lt h2')), if_pos rfl], h⟩
  have h2 : p ≤ 9 := Decidable.of_not_not h2'
  have hb : bd p 10 := bd_of h1 h2 (by decide)
  rw [if_neg h1, if_pos h2, if_neg (not_or2 h1 (le_nlt h2)), if_neg n10, rc_0_0 hC, Option.bind_some]
  simp only [rm_0 hM, Option.bind_some, a2.1, aI_lit (Y := Ym) (c := 1) (i := 0) 0 rfl (by decide) (by decide), a2.2]
  rw [if_neg (nI_pos (by omega))]
  by_cases h6 : nS = 6
  · refine ⟨-1, Sc, Sm, ?_, ?_, h⟩
    · rw [h6, if_neg (by decide)]; rfl
    · rw [h6, if_pos (by decide)]
  have hlt : nS < 6 := by omega
  have e16 : (16 : Int32) + 2 * nI nS = nI (16 + 2 * nS) := by rw [show (2 : Int32) = nI 2 from rfl, show (16 : Int32) = nI 16 from rfl, pk_mul, nI_add]
  have e17 : nI (16 + 2 * nS) + 1 = nI (16 + 2 * nS + 1) := nI_1 _
  have e6 : (6 : Int32) + nI nS = nI (6 + nS) := nI_add 6 nS
  have em : nI (nS + 1) - 1 = nI nS := nI_pred nS
  refine ⟨nI nS, pI (pI (pI Sc 4 nS p) 2 (6 + nS) 2) 1 5 (nI (nS + 1)), pI (pI (pI Sm 1 (16 + 2 * nS) p) 1 (16 + 2 * nS + 1) 2) 1 0 (nI (nS + 1)), ?_, ?_, ?_⟩
  · rw [if_pos (show nI nS < (6 : Int32) from nI_lt hlt (by decide)), rc_1_4 hC, Option.bind_some, sI_nI (Y := Yc) (c := 4) hlt (by decide), Option.bind_some, rc_1_0 (hC.ofR (S' := pI Sc 4 nS p) rfl), Option.bind_some, gI_ne _ _ _ _ (by decide), a2.1, e6, sI_nI (Y := Yc) (c := 2) (by show 6 + nS < 14; omega) (by decide), Option.bind_some, xlet_eq]
    rw [gI_ne (pI Sc 4 nS p) 2 _ _ (by decide), gI_ne Sc 4 _ _ (by decide), a2.1, nI_1, gI_eq, em]
    rfl
  · rw [if_neg (show ¬ nI nS = (6 : Int32) from fun q => h6 ((nI_eq (by omega) (by decide)).mp q)), e16, sI_nI (Y := Ym) (c := 1) (by show 16 + 2 * nS < 486; omega) (by decide), Option.bind_some]
    simp only [rm_0 (hM.ofR (S' := pI Sm 1 (16 + 2 * nS) p) rfl), Option.bind_some, aI_lit (Y := Ym) (c := 1) (i := 0) 0 rfl (by decide) (by decide)]
    rw [gI_nk _ _ _ _ (by omega), a2.2, e16, e17, sI_nI (Y := Ym) (c := 1) (by show 16 + 2 * nS + 1 < 486; omega) (by decide), Option.bind_some]
    simp only [rm_0 (hM.ofR (S' := pI (pI Sm 1 (16 + 2 * nS) p) 1 (16 + 2 * nS + 1) 2) rfl), Option.bind_some, aI_lit (Y := Ym) (c := 1) (i := 0) 0 rfl (by decide) (by decide)]
    rw [gI_nk _ _ _ _ (by omega), gI_nk _ _ _ _ (by omega), a2.2, nI_1, sI_lit (Y := Ym) (c := 1) (i := 0) 0 rfl (by decide) (by decide), Option.bind_some]
    simp only [rm_0 (hM.ofR (S' := pI (pI (pI Sm 1 (16 + 2 * nS) p) 1 (16 + 2 * nS + 1) 2) 1 0 (nI (nS + 1))) rfl), Option.bind_some, aI_lit (Y := Ym) (c := 1) (i := 0) 0 rfl (by decide) (by decide), gI_eq, em]
  · have ec : ∀ c, 6 ≤ c → gI (pI (pI (pI Sc 4 nS p) 2 (6 + nS) 2) 1 5 (nI (nS + 1))) c = gI Sc c := fun c hc => by rw [gIf_ne _ _ _ _ (by omega), gIf_ne _ _ _ _ (by omega), gIf_ne _ _ _ _ (by omega)]
    have emm : ∀ c, c ≠ 1 → gI (pI (pI (pI Sm 1 (16 + 2 * nS) p) 1 (16 + 2 * nS + 1) 2) 1 0 (nI (nS + 1))) c = gI Sm c := fun c hc => by rw [gIf_ne _ _ _ _ hc, gIf_ne _ _ _ _ hc, gIf_ne _ _ _ _ hc]
    refine RelW.now hRT h rfl rfl ec emm (by rw [gI_nk _ _ _ _ (by decide), gI_ne _ _ _ _ (by decide), gI_ne _ _ _ _ (by decide)]) (fun mS mT ms mc mx hVm => ?_)
    have hmS : mS = nS := (nI_eq (by have := hVm.1; omega) (by omega)).mp (hVm.2.1.1.symm.trans a2.1)
    subst hmS
    obtain ⟨b1, b2, b3, b4, b5, b6, b7, b8, b9, b10, b11, b12, b13⟩ := hVm
    refine ⟨mS + 1, ms, mc, mx, ?_⟩
    have hrow : ∀ k, gI (pI (pI (pI Sc 4 mS p) 2 (6 + mS) 2) 1 5 (nI (mS + 1))) 2 k = gI Sc 2 k := by
      intro k
      rw [gI_ne _ _ _ _ (by decide), gI_pI]
      by_cases hk : k = 6 + mS
      · rw [if_pos ⟨rfl, hk⟩, hk]
        exact ((b9.2.2.1 mS hlt).2 (Nat.le_refl _)).symm
      · rw [if_neg (fun q => hk q.2), gI_ne _ _ _ _ (by decide)]
    have b9' : okRow (gI (pI (pI (pI Sc 4 mS p) 2 (6 + mS) 2) 1 5 (nI (mS + 1))) (1 + 1)) (mS + 1) := okRow_nS (b9.congr (fun k _ => hrow k)) (fun s hs hm => by rw [hrow]; exact (b9.2.2.1 s hs).2 (by omega))
    unfold RV
    simp (disch := omega) only [gI_ne, gI_nk, gI_eq, gIf_ne]
    refine ⟨⟨by omega, b1.2⟩, ⟨trivial, trivial⟩, b3, b4, b5, b6, b7, b8, b9', ⟨b10.1, b10.2.1, fun k hk => ?_⟩, fun s hs => ?_, fun k hk => ?_, fun j hj => ?_⟩
    · simp (disch := omega) only [gI_ne, gI_nk]
      exact b10.2.2 k hk
    · by_cases hsm : s = mS
      · subst hsm
        simp (disch := omega) only [gI_ne, gI_nk, gI_eq]
        exact ⟨trivial, trivial, hb⟩
      · simp (disch := omega) only [gI_ne, gI_nk]
        exact b11 s (by omega)
    · try simp (disch := omega) only [gI_ne, gI_nk]
      exact b12 k hk
    · obtain ⟨hs, c1, c2, c3, c4, c5, c6, c7⟩ := b13 j hj
      refine ⟨hs, by omega, ?_, ?_, ?_, ?_, fun k hk => ?_, fun t ht => ?_⟩
      all_goals (try simp (disch := omega) only [gI_ne, gI_nk])
      · exact c2
      · exact c3
      · exact c4
      · exact c5
      · exact c6 k hk
      · exact c7 t ht

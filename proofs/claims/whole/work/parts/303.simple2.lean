/-! feed, seen, about, sister -/
def stC (S : xS) (len : Nat) (b : Int32) : xS := pI (pI S 24 len b) 23 1 (nI (len + 1))
def stM (S : xS) (len : Nat) (b : Int32) : xS := pI (pI S 4 len b) 0 4 (nI (len + 1))
theorem add_step {S : xS} (hC : RCr S) {n len : Nat} {w v : Int32} (hv : ¬ v < 0) (hl : gI S 23 1 = nI len) (hlen : len < 300) : lX7_addWord_3 (n + 1) S 23 w v = lX7_addWord_3 n (stC S len ((w >>> (v &&& 31)) &&& 255)) 23 w (v + (-8)) := by
  rw [lX7_addWord_3.eq_2, if_neg hv, hl, if_neg (nI_pos (by omega)), if_neg (show ¬ (300 : Int32) ≤ nI len from nI_ge hlen (by decide)), rc_23_0 hC, Option.bind_some, sI_nI (Y := Yc) (c := 24) hlen (by decide), Option.bind_some, xlet_eq, gI_ne _ _ _ _ (by decide), hl, nI_1]
  rfl
theorem four_step {S : xS} (hM : RMr S) {n len : Nat} {w v : Int32} (hv : ¬ v < 0) (hl : gI S 0 4 = nI len) (hlen : len < 300) : lX9_four_3 (n + 1) S 0 w v = lX9_four_3 n (stM S len ((w >>> (v &&& 31)) &&& 255)) 0 w (v + (-8)) := by
  rw [lX9_four_3.eq_2, if_neg hv, hl, rm_3 hM, Option.bind_some, sI_nI (Y := Ym) (c := 4) hlen (by decide), Option.bind_some, xlet_eq, gI_ne _ _ _ _ (by decide), hl, nI_1]
  rfl
theorem bd255 (x : Int32) : bd (x &&& 255) 256 := by
  obtain ⟨j, h1, h2⟩ := pk_andE x (m := 255) 8 (by decide)
  exact ⟨j, by omega, h2⟩
theorem feed_step {RT : xS → xS → Nat → Prop} (hRT : RTloc RT) {Sc Sm : xS} (h : RelW RT Sc Sm) {len : Nat} {b : Int32} (g2 : gI Sc 23 1 = nI len) (hlen : len < 300) (hb : bd b 256) : RelW RT (stC Sc len b) (stM Sm len b) ∧ gI (stC Sc len b) 23 1 = nI (len + 1) ∧ gI (stM Sm len b) 0 4 = nI (len + 1) := by
  obtain ⟨hC, hM, hK, ⟨nS, nT, ns, sc, nx, nS', nT', ns', sc', nx', hV, hV', hT, hRt⟩, ⟨len', k1, k2, k3, k4⟩, hF⟩ := h
  have hll : len' = len := (nI_eq (by omega) (by omega)).mp (k2.symm.trans g2)
  subst hll
  have ec : ∀ c, c ≠ 23 → c ≠ 24 → gI (stC Sc len' b) c = gI Sc c := fun c h1 h2 => by unfold stC; rw [gIf_ne _ _ _ _ h1, gIf_ne _ _ _ _ h2]
  have em : ∀ c, c ≠ 0 → c ≠ 4 → gI (stM Sm len' b) c = gI Sm c := fun c h1 h2 => by unfold stM; rw [gIf_ne _ _ _ _ h1, gIf_ne _ _ _ _ h2]
  have e1 : gI (stC Sc len' b) 23 1 = nI (len' + 1) := gI_eq _ _ _ _
  have e2 : gI (stM Sm len' b) 0 4 = nI (len' + 1) := gI_eq _ _ _ _
  refine ⟨⟨hC.ofR rfl, hM.ofR rfl, ?_, ⟨nS, nT, ns, sc, nx, nS', nT', ns', sc', nx', hV.congr (fun i hi => ec _ (by omega) (by omega)) (em _ (by decide) (by decide)), hV'.congr (fun i hi => ec _ (by omega) (by omega)) (em _ (by decide) (by decide)), hT, hRT _ _ _ _ _ (fun c hc => ec _ (by omega) (by omega)) (em _ (by decide) (by decide)) hRt⟩, ⟨len' + 1, by omega, e1, e2, fun k hk => ?_⟩, ?_⟩, e1, e2⟩
  · unfold RKd at hK ⊢
    rw [ec 1 (by decide) (by decide)]
    exact hK
  · have f1 : gI (stC Sc len' b) 24 k = if k = len' then b else gI Sc 24 k := by
      unfold stC
      rw [gI_ne _ _ _ _ (by decide), gI_pI]
      by_cases hk2 : k = len'
      · rw [if_pos ⟨rfl, hk2⟩, if_pos hk2]
      · rw [if_neg (fun q => hk2 q.2), if_neg hk2]
    have f2 : gI (stM Sm len' b) 4 k = if k = len' then b else gI Sm 4 k := by
      unfold stM
      rw [gI_ne _ _ _ _ (by decide), gI_pI]
      by_cases hk2 : k = len'
      · rw [if_pos ⟨rfl, hk2⟩, if_pos hk2]
      · rw [if_neg (fun q => hk2 q.2), if_neg hk2]
    rw [f1, f2]
    by_cases hk2 : k = len'
    · rw [if_pos hk2, if_pos hk2]
      exact ⟨rfl, hb⟩
    · rw [if_neg hk2, if_neg hk2]
      exact k4 k (by omega)
  · unfold RFt at hF ⊢
    have q5 : gI (stM Sm len' b) 0 5 = gI Sm 0 5 := by unfold stM; rw [gI_nk _ _ _ _ (by decide), gI_ne _ _ _ _ (by decide)]
    have q6 : gI (stM Sm len' b) 0 6 = gI Sm 0 6 := by unfold stM; rw [gI_nk _ _ _ _ (by decide), gI_ne _ _ _ _ (by decide)]
    rw [ec 25 (by decide) (by decide), q5, q6]
    exact hF
theorem four_ok {RT : xS → xS → Nat → Prop} (hRT : RTloc RT) {Sc Sm : xS} (h : RelW RT Sc Sm) {len : Nat} (w : Int32) (g2 : gI Sc 23 1 = nI len) (g3 : gI Sm 0 4 = nI len) (hlen : len + 4 ≤ 300) : ∃ Sc' Sm', mX7_addWord Sc 23 w = some Sc' ∧ mX9_four Sm 0 w = some Sm' ∧ RelW RT Sc' Sm' ∧ gI Sc' 23 1 = nI (len + 4) ∧ gI Sm' 0 4 = nI (len + 4) := by
  obtain ⟨h1, a1, b1⟩ := feed_step hRT h (b := (w >>> ((24 : Int32) &&& 31)) &&& 255) g2 (by omega) (bd255 _)
  obtain ⟨h2, a2, b2⟩ := feed_step hRT h1 (b := (w >>> ((24 + (-8) : Int32) &&& 31)) &&& 255) a1 (by omega) (bd255 _)
  obtain ⟨h3, a3, b3⟩ := feed_step hRT h2 (b := (w >>> ((24 + (-8) + (-8) : Int32) &&& 31)) &&& 255) a2 (by omega) (bd255 _)
  obtain ⟨h4, a4, b4⟩ := feed_step hRT h3 (b := (w >>> ((24 + (-8) + (-8) + (-8) : Int32) &&& 31)) &&& 255) a3 (by omega) (bd255 _)
  refine ⟨_, _, ?_, ?_, h4, a4, b4⟩
  · unfold mX7_addWord
    rw [show (5000 : Nat) = 4995 + 1 + 1 + 1 + 1 + 1 from rfl, add_step h.1 (by decide) g2 (by omega), add_step h1.1 (by decide) a1 (by omega), add_step h2.1 (by decide) a2 (by omega), add_step h3.1 (by decide) a3 (by omega), lX7_addWord_3.eq_2, if_pos (by decide)]
  · unfold mX9_four
    rw [show (5000 : Nat) = 4995 + 1 + 1 + 1 + 1 + 1 from rfl, four_step h.2.1 (by decide) g3 (by omega), four_step h1.2.1 (by decide) b1 (by omega), four_step h2.2.1 (by decide) b2 (by omega), four_step h3.2.1 (by decide) b3 (by omega), lX9_four_3.eq_2, if_pos (by decide)]
theorem sim_feed_ok {RT : xS → xS → Nat → Prop} (hRT : RTloc RT) : sim_feed (RelW RT) := by
  intro Sc Sm p1 p2 p3 p4 p5 h
  obtain ⟨len, g1, g2, g3, g4⟩ := h.2.2.2.2.1
  unfold mX8_feed mX9_feed
  rw [rc_0_5 h.1, Option.bind_some, g2, g3]
  have e : nI len + 20 = nI (len + 20) := nI_add len 20
  by_cases hl : len + 20 ≤ 300
  · have hc : nI len + 20 ≤ 300 := by rw [e]; exact nI_le hl (by decide)
    obtain ⟨Sc1, Sm1, c1, m1, h1, a1, b1⟩ := four_ok hRT h p1 g2 g3 (by omega)
    obtain ⟨Sc2, Sm2, c2, m2, h2, a2, b2⟩ := four_ok hRT h1 p2 a1 b1 (by omega)
    obtain ⟨Sc3, Sm3, c3, m3, h3, a3, b3⟩ := four_ok hRT h2 p3 a2 b2 (by omega)
    obtain ⟨Sc4, Sm4, c4, m4, h4, a4, b4⟩ := four_ok hRT h3 p4 a3 b3 (by omega)
    obtain ⟨Sc5, Sm5, c5, m5, h5, a5, b5⟩ := four_ok hRT h4 p5 a4 b4 (by omega)
    refine ⟨nI (len + 4 + 4 + 4 + 4 + 4), Sc5, Sm5, ?_, ?_, h5⟩
    · rw [if_pos hc]
      simp only [Option.bind_some, c1, c2, c3, c4, c5, rc_0_5 h1.1, rc_0_5 h2.1, rc_0_5 h3.1, rc_0_5 h4.1, rc_0_5 h5.1, a5]
    · rw [if_pos hc]
      simp only [Option.bind_some, m1, m2, m3, m4, m5, b5]
  · have hc : ¬ nI len + 20 ≤ 300 := by rw [e]; exact nI_ge (a := 300) (b := len + 20) (by omega) (by omega)
    exact ⟨-1, Sc, Sm, by rw [if_neg hc], by rw [if_neg hc], h⟩
/-- two writings of the reference, or of the class, one behind the other -/
theorem gI2 (S : xS) {c k : Nat} {v : Int32} {c' k' : Nat} (h : ¬ (c' = c ∧ k' = k)) : gI (pI S c k v) c' k' = gI S c' k' := by rw [gI_pI, if_neg h]
theorem m1_neg : ¬ (-1 : Int32) = 0 := by decide
theorem sim_seen_ok {RT : xS → xS → Nat → Prop} (hRT : RTloc RT) : sim_seen (RelW RT) := by
  intro Sc Sm p h
  have hC := h.1
  have hM := h.2.1
  obtain ⟨nS, nT, ns, sc, nx, nS', nT', ns', sc', nx', hV, hV', hT, hRt⟩ := h.2.2.2.1
  obtain ⟨a1, a2, a3, a4, a5, a6, a7, a8, a9, a10, a11, a12, a13⟩ := id hV
  unfold mX8_seen mX9_seen
  by_cases h0 : p = -1
  · refine ⟨0, pI Sc 1 10 0, pI Sm 1 7 0, ?_, ?_, ?_⟩
    · rw [if_pos h0, rc_0_0 hC]; rfl
    · rw [if_pos h0, rm_0 hM, Option.bind_some, sI_lit (Y := Ym) (c := 1) (i := 7) 7 rfl (by decide) (by decide)]; rfl
    · refine RelW.now hRT h rfl rfl (fun c hc => gIf_ne _ _ _ _ (by omega)) (fun c hc => gIf_ne _ _ _ _ hc) (gI_nk _ _ _ _ (by decide)) (fun nS nT ns sc nx hV => ⟨nS, ns, 0, nx, ?_⟩)
      obtain ⟨a1, a2, a3, a4, a5, a6, a7, a8, a9, a10, a11, a12, a13⟩ := hV
      unfold RV
      simp (disch := omega) only [gI_ne, gI_nk, gI_eq, gIf_ne]
      refine ⟨⟨a1.1, a1.2.1, a1.2.2.1, Nat.zero_le _, a1.2.2.2.2⟩, a2, a3, a4, ⟨rfl, rfl⟩, a6, a7, a8, a9, a10, a11, fun k hk => absurd hk (Nat.not_lt_zero k), a13⟩
  rw [if_neg h0, if_neg h0, isIn_eq, Option.bind_some]
  by_cases h1 : p < 0
  · exact ⟨-2, Sc, Sm, by rw [if_pos h1], by rw [if_pos (Or.inl h1), if_pos rfl], h⟩
  by_cases h2 : 60 < p
  · exact ⟨-2, Sc, Sm, by rw [if_neg h1, if_pos h2], by rw [if_pos (Or.inr h2), if_pos rfl], h⟩
  rw [if_neg h1, if_neg h2, if_neg (not_or2 h1 h2), if_neg n10]
  simp only [rc_0_0 hC, rm_0 hM, Option.bind_some, a5.1, aI_lit (Y := Ym) (c := 1) (i := 7) 7 rfl (by decide) (by decide), a5.2]
  rw [if_neg (nI_pos (by omega))]
  by_cases h3 : sc = 8
  · refine ⟨-2, Sc, Sm, ?_, ?_, h⟩
    · rw [h3, if_neg (by decide)]
    · rw [h3, if_pos (by decide)]
  · have hlt : sc < 8 := by omega
    have hb : bd p 61 := bd_of h1 (Int32.not_lt.mp h2) (by decide)
    have e28 : (28 : Int32) + nI sc = nI (28 + sc) := nI_add 28 sc
    refine ⟨nI (sc + 1), pI (pI Sc 5 sc p) 1 10 (nI (sc + 1)), pI (pI Sm 1 (28 + sc) p) 1 7 (nI (sc + 1)), ?_, ?_, ?_⟩
    · rw [if_pos (show nI sc < (8 : Int32) from nI_lt hlt (by decide))]
      simp only [rc_1_9 hC, Option.bind_some, sI_nI (Y := Yc) (c := 5) hlt (by decide)]
      rw [rc_0_0 (hC.ofR (S' := pI Sc 5 sc p) rfl), Option.bind_some, xlet_eq, gI_ne _ _ _ _ (by decide), a5.1, nI_1, rc_0_0 (hC.ofR (S' := pI (pI Sc 5 sc p) 1 10 (nI (sc + 1))) rfl), Option.bind_some, gI_eq]
    · rw [if_neg (show ¬ nI sc = (8 : Int32) from fun q => h3 ((nI_eq (by omega) (by decide)).mp q)), e28, sI_nI (Y := Ym) (c := 1) (by show 28 + sc < 486; omega) (by decide), Option.bind_some]
      simp only [rm_0 (hM.ofR (S' := pI Sm 1 (28 + sc) p) rfl), Option.bind_some, aI_lit (Y := Ym) (c := 1) (i := 7) 7 rfl (by decide) (by decide)]
      rw [gI_nk _ _ _ _ (by omega), a5.2, nI_1, sI_lit (Y := Ym) (c := 1) (i := 7) 7 rfl (by decide) (by decide), Option.bind_some]
      simp only [rm_0 (hM.ofR (S' := pI (pI Sm 1 (28 + sc) p) 1 7 (nI (sc + 1))) rfl), Option.bind_some, aI_lit (Y := Ym) (c := 1) (i := 7) 7 rfl (by decide) (by decide), gI_eq]
    · refine RelW.now hRT h rfl rfl (fun c hc => by rw [show (pI (pI Sc 5 sc p) 1 10 (nI (sc + 1))).1 c = gI (pI (pI Sc 5 sc p) 1 10 (nI (sc + 1))) c from rfl, gIf_ne _ _ _ _ (by omega), gIf_ne _ _ _ _ (by omega)]; rfl) (fun c hc => by rw [show (pI (pI Sm 1 (28 + sc) p) 1 7 (nI (sc + 1))).1 c = gI (pI (pI Sm 1 (28 + sc) p) 1 7 (nI (sc + 1))) c from rfl, gIf_ne _ _ _ _ hc, gIf_ne _ _ _ _ hc]; rfl) (by rw [gI_nk _ _ _ _ (by decide), gI_ne _ _ _ _ (by decide)]) (fun mS mT ms mc mx hVm => ?_)
      have hm3 : mc = sc := (nI_eq (by have := hVm.1; omega) (by omega)).mp (hVm.2.2.2.2.1.1.symm.trans a5.1)
      subst hm3
      obtain ⟨b1, b2, b3, b4, b5, b6, b7, b8, b9, b10, b11, b12, b13⟩ := hVm
      refine ⟨mS, ms, mc + 1, mx, ?_⟩
      unfold RV
      simp (disch := omega) only [gI_ne, gI_nk, gI_eq, gIf_ne]
      refine ⟨⟨b1.1, b1.2.1, b1.2.2.1, by omega, b1.2.2.2.2⟩, b2, b3, b4, ⟨trivial, trivial⟩, b6, b7, b8, b9, ⟨b10.1, b10.2.1, fun k hk => by rw [gI_nk _ _ _ _ (by omega)]; exact b10.2.2 k hk⟩, fun s hs => ?_, fun k hk => ?_, b13⟩
      · have := b1.1
        rw [gI_nk _ _ _ _ (by omega), gI_nk _ _ _ _ (by omega)]
        exact b11 s hs
      · have hk : k < mc + 1 := hk
        by_cases hkn : k = mc
        · subst hkn
          rw [gI_eq, gI_eq]
          exact ⟨rfl, hb⟩
        · rw [gI_nk _ _ _ _ (by omega), gI_nk _ _ _ _ hkn]
          exact b12 k (by omega)

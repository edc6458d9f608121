/-! FORESIGHT: the ground; slices, sisterOf, comes -/
def K5 (S : xS) : Prop := (gR S 17 5 = some 21 ∧ gR S 17 6 = some 22) ∨ (gR S 17 5 = some 22 ∧ gR S 17 6 = some 21)
def CE (Sc S : xS) : Prop := RCr S ∧ gR S 12 3 = gR Sc 12 3 ∧ K5 S ∧ ∀ c, c ≤ 11 ∨ 23 ≤ c → gI S c = gI Sc c
def ME (Sm S : xS) : Prop := RMr S ∧ (∀ c, 1 ≤ c → c ≤ 4 → gI S c = gI Sm c) ∧ ∀ k, k = 4 ∨ k = 5 ∨ k = 6 → gI S 0 k = gI Sm 0 k
theorem RelW.ce {Sc Sm S S' : xS} (h : RelW RTx Sc Sm) (hc : CE Sc S) (hm : ME Sm S') : RelW RTx S S' := RelW.scr RTx_loc h hc.1 hm.1 hc.2.1 hc.2.2.1 hc.2.2.2 hm.2.1 hm.2.2
theorem RelW.ce0 {Sc Sm : xS} (h : RelW RTx Sc Sm) : CE Sc Sc ∧ ME Sm Sm := ⟨⟨h.1, rfl, h.2.2.1.2, fun _ _ => rfl⟩, h.2.1, fun _ _ _ => rfl, fun _ _ => rfl⟩
theorem CE.cb {Sc S : xS} (h : CE Sc S) : CB Sc S := ⟨h.1, h.2.1, h.2.2.2 4 (by omega), fun c hc => h.2.2.2 c (by omega)⟩
theorem ME.mb {Sm S : xS} (h : ME Sm S) : MB Sm S := ⟨h.1, h.2.1 3 (by omega) (by omega), by rw [h.2.1 1 (by omega) (by omega)], by rw [h.2.1 1 (by omega) (by omega)], fun s hs => by rw [h.2.1 1 (by omega) (by omega)]⟩
theorem CE.go {Sc S S' : xS} (h : CE Sc S) (hr : S'.2.2 = S.2.2) (hc : ∀ c, c ≤ 11 ∨ 23 ≤ c → gI S' c = gI S c) : CE Sc S' := by
  have e : ∀ c k, gR S' c k = gR S c k := fun c k => by unfold gR; rw [hr]
  refine ⟨h.1.ofR hr, (e _ _).trans h.2.1, ?_, fun c q => (hc c q).trans (h.2.2.2 c q)⟩
  unfold K5
  rw [e, e]
  exact h.2.2.1
theorem ME.go {Sm S S' : xS} (h : ME Sm S) (hr : S'.2.2 = S.2.2) (hc : ∀ c, 1 ≤ c → c ≤ 4 → gI S' c = gI S c) (hk : ∀ k, k = 4 ∨ k = 5 ∨ k = 6 → gI S' 0 k = gI S 0 k) : ME Sm S' := ⟨h.1.ofR hr, fun c a b => (hc c a b).trans (h.2.1 c a b), fun k q => (hk k q).trans (h.2.2 k q)⟩
theorem FrX.ce {q : Nat} {Sc S S' : xS} (hq : q = 13 ∨ q = 18) (h : FrX q S S') (hB : CE Sc S) : CE Sc S' := hB.go (by rw [h.1]) (fun c hc => h.2 c (by omega) (by omega) (by omega))
theorem FrY.me {Sm S S' : xS} (h : FrY S S') (hB : ME Sm S) : ME Sm S' := hB.go h.1 (fun c a b => h.2.2.1 c (by omega) (by omega) (by omega)) (fun k hk => h.2.2.2 k (by omega))
/-- what the calls of foresight need of a related pair -/
def RO (Sc Sm : xS) (nS sc w mi : Nat) (sl : Nat → Nat → Nat → Nat) (ea : Nat → Nat → Nat → Nat → Nat → Nat) : Prop := LW Sc Sm nS sl ea ∧ gI Sc 1 5 = nI nS ∧ okRow (gI Sc 2) nS ∧ (w < 1000 ∧ gI Sc 2 12 = nI w ∧ gI Sm 1 1 = nI w) ∧ (∀ k, k < 6 → gI Sm 1 (10 + k) = gI Sc 2 k) ∧ (∀ s, s < nS → gI Sm 1 (16 + 2 * s + 1) = gI Sc 2 (6 + s)) ∧ (mi < 11 ∧ gI Sc 1 6 = nI mi ∧ gI Sm 1 2 = nI mi) ∧ (sc ≤ 8 ∧ gI Sc 1 10 = nI sc ∧ gI Sm 1 7 = nI sc ∧ ∀ k, k < sc → gI Sm 1 (28 + k) = gI Sc 5 k ∧ bd (gI Sc 5 k) 61)
theorem RelW.ro {Sc Sm : xS} (h : RelW RTx Sc Sm) : ∃ nS sc w mi sl ea, RO Sc Sm nS sc w mi sl ea := by
  obtain ⟨nS, nT, ns, sc, nx, nS', nT', ns', sc', nx', hV, hV', hT, hRt⟩ := h.2.2.2.1
  obtain ⟨sl, ea, hL⟩ := h.law hV
  obtain ⟨a1, a2, a3, a4, a5, a6, a7, a8, a9, a10, a11, a12, a13⟩ := hV
  obtain ⟨w, w1, w2⟩ := a9.2.2.2.1
  obtain ⟨mi, m1, m2⟩ := a7.2
  exact ⟨nS, sc, w, mi, sl, ea, hL, a2.1, a9, ⟨w1, w2, a10.1.trans w2⟩, a10.2.2, fun s hs => (a11 s hs).2.1, ⟨m1, a7.1.trans m2, m2⟩, a1.2.2.2.1, a5.1, a5.2, a12⟩
/-- the cake of a table -/
theorem RO.tab {Sc Sm : xS} {nS sc w mi t : Nat} {sl : Nat → Nat → Nat → Nat} {ea : Nat → Nat → Nat → Nat → Nat → Nat} (h : RO Sc Sm nS sc w mi sl ea) (ht : t < 2) : ∃ d l q, d < 1000 ∧ l ≤ 60 ∧ q ≤ 60 ∧ (gI Sc 2 (3 * t) = nI d ∧ gI Sc 2 (3 * t + 1) = nI l ∧ gI Sc 2 (3 * t + 2) = nI q) ∧ (gI Sm 1 (10 + 3 * t) = nI d ∧ gI Sm 1 (10 + 3 * t + 1) = nI l ∧ gI Sm 1 (10 + 3 * t + 2) = nI q) := by
  obtain ⟨d, l, q, h1, h2, h3, h4, h5⟩ := tab_at h.2.2.1 ht
  exact ⟨d, l, q, h1, by omega, by omega, ⟨h3, h4, h5⟩, (h.2.2.2.2.1 (3 * t) (by omega)).trans h3, (h.2.2.2.2.1 (3 * t + 1) (by omega)).trans h4, (h.2.2.2.2.1 (3 * t + 2) (by omega)).trans h5⟩
/-- who sits there -/
def sitS (Sc : xS) (nS t : Nat) : Nat := sitP (fun s => gI Sc 2 (6 + s)) (nI t) nS
theorem load_c {S : xS} (hC : RCr S) {q t d l h w : Nat} (hq : q = 13 ∨ q = 18) (ht : t < 2) (h0 : gI S 2 (3 * t) = nI d) (h1 : gI S 2 (3 * t + 1) = nI l) (h2 : gI S 2 (3 * t + 2) = nI h) (h3 : gI S 2 12 = nI w) : ∃ S', mX0_loadFrom S q 1 (nI t) = some S' ∧ CK q S' t d l h w ∧ FrX q S S' := by
  refine ⟨pI (pI (pI (pI (pI S q 0 (nI t)) q 1 (nI d)) q 2 (nI l)) q 3 (nI h)) q 4 (nI w), ?_, ⟨?_, ?_, ?_, ?_, gI_eq _ _ _ _⟩, FrX.pI.trans (FrX.pI.trans (FrX.pI.trans (FrX.pI.trans FrX.pI)))⟩
  · unfold mX0_loadFrom
    have n2 : (2 : Nat) ≠ q := by omega
    obtain ⟨S1, e1⟩ : ∃ z, z = pI S q 0 (nI t) := ⟨_, rfl⟩
    obtain ⟨S2, e2⟩ : ∃ z, z = pI S1 q 1 (nI d) := ⟨_, rfl⟩
    obtain ⟨S3, e3⟩ : ∃ z, z = pI S2 q 2 (nI l) := ⟨_, rfl⟩
    obtain ⟨S4, e4⟩ : ∃ z, z = pI S3 q 3 (nI h) := ⟨_, rfl⟩
    have c1 : RCr S1 := hC.ofR (by rw [e1]; rfl)
    have c2 : RCr S2 := c1.ofR (by rw [e2]; rfl)
    have c3 : RCr S3 := c2.ofR (by rw [e3]; rfl)
    have c4 : RCr S4 := c3.ofR (by rw [e4]; rfl)
    have g1 : gI S1 2 = gI S 2 := by rw [e1, gIf_ne _ _ _ _ n2]
    have g2 : gI S2 2 = gI S 2 := by rw [e2, gIf_ne _ _ _ _ n2, g1]
    have g3 : gI S3 2 = gI S 2 := by rw [e3, gIf_ne _ _ _ _ n2, g2]
    have g4 : gI S4 2 = gI S 2 := by rw [e4, gIf_ne _ _ _ _ n2, g3]
    rw [xlet_eq, ← e1, dayAt_eq ht, Option.bind_some]
    dsimp only
    rw [get_eq (3 * t) rfl (by omega) (rc_1_0 c1) rfl, Option.bind_some, xlet_eq]
    dsimp only
    rw [g1, h0, ← e2, leftAt_eq ht, Option.bind_some]
    dsimp only
    rw [get_eq (3 * t + 1) rfl (by omega) (rc_1_0 c2) rfl, Option.bind_some, xlet_eq]
    dsimp only
    rw [g2, h1, ← e3, hiddenAt_eq ht, Option.bind_some]
    dsimp only
    rw [get_eq (3 * t + 2) rfl (by omega) (rc_1_0 c3) rfl, Option.bind_some, xlet_eq]
    dsimp only
    rw [g3, h2, ← e4, get_eq (i := 12) 12 rfl (by omega) (rc_1_0 c4) rfl, Option.bind_some, xlet_eq]
    dsimp only
    rw [g4, h3]
  · rw [gI_nk _ _ _ _ (by decide), gI_nk _ _ _ _ (by decide), gI_nk _ _ _ _ (by decide), gI_nk _ _ _ _ (by decide), gI_eq]
  · rw [gI_nk _ _ _ _ (by decide), gI_nk _ _ _ _ (by decide), gI_nk _ _ _ _ (by decide), gI_eq]
  · rw [gI_nk _ _ _ _ (by decide), gI_nk _ _ _ _ (by decide), gI_eq]
  · rw [gI_nk _ _ _ _ (by decide), gI_eq]
theorem set_m {S : xS} (hM : RMr S) {nS t d l h : Nat} (hn : nS ≤ 6) (hs : gI S 1 0 = nI nS) (ht : t < 2) (h0 : gI S 1 (10 + 3 * t) = nI d) (h1 : gI S 1 (10 + 3 * t + 1) = nI l) (h2 : gI S 1 (10 + 3 * t + 2) = nI h) : ∃ S', mX9_setTable S 0 (nI t) = some S' ∧ MK S' t d l h (sitP (fun s => gI S 1 (16 + 2 * s + 1)) (nI t) nS) ∧ FrY S S' := by
  refine ⟨pI (pI (pI (pI (pI S 0 25 (nI t)) 0 26 (nI d)) 0 27 (nI l)) 0 28 (nI h)) 0 29 (nI (sitP (fun s => gI S 1 (16 + 2 * s + 1)) (nI t) nS)), ?_, ⟨?_, ?_, ?_, ?_, gI_eq _ _ _ _⟩, (FrY.pI (by decide)).trans ((FrY.pI (by decide)).trans ((FrY.pI (by decide)).trans ((FrY.pI (by decide)).trans (FrY.pI (by decide)))))⟩
  · unfold mX9_setTable
    have n1 : (1 : Nat) ≠ 0 := by decide
    rw [xlet_eq, gR_pI, rm_0 hM, Option.bind_some, ix0, aI_nI (Y := Ym) (c := 1) (by show _ < 486; omega) (by decide), Option.bind_some, xlet_eq, gI_ne _ _ _ _ n1, h0, gR_pI, gR_pI, rm_0 hM, Option.bind_some, show nI (10 + 3 * t) + 1 = nI (10 + 3 * t + 1) from nI_1 _, aI_nI (Y := Ym) (c := 1) (by show _ < 486; omega) (by decide), Option.bind_some, xlet_eq, gI_ne _ _ _ _ n1, gI_ne _ _ _ _ n1, h1, gR_pI, gR_pI, gR_pI, rm_0 hM, Option.bind_some, show nI (10 + 3 * t) + 2 = nI (10 + 3 * t + 2) from nI_add _ 2, aI_nI (Y := Ym) (c := 1) (by show _ < 486; omega) (by decide), Option.bind_some, xlet_eq, gI_ne _ _ _ _ n1, gI_ne _ _ _ _ n1, gI_ne _ _ _ _ n1, h2, sitting_m (S := pI (pI (pI (pI S 0 25 (nI t)) 0 26 (nI d)) 0 27 (nI l)) 0 28 (nI h)) (hM.ofR rfl) hn (by rw [gI_ne _ _ _ _ n1, gI_ne _ _ _ _ n1, gI_ne _ _ _ _ n1, gI_ne _ _ _ _ n1]; exact hs), Option.bind_some, xlet_eq]
    have e : ∀ s, gI (pI (pI (pI (pI S 0 25 (nI t)) 0 26 (nI d)) 0 27 (nI l)) 0 28 (nI h)) 1 s = gI S 1 s := fun s => by rw [gI_ne _ _ _ _ n1, gI_ne _ _ _ _ n1, gI_ne _ _ _ _ n1, gI_ne _ _ _ _ n1]
    simp only [e]
  · rw [gI_nk _ _ _ _ (by decide), gI_nk _ _ _ _ (by decide), gI_nk _ _ _ _ (by decide), gI_nk _ _ _ _ (by decide), gI_eq]
  · rw [gI_nk _ _ _ _ (by decide), gI_nk _ _ _ _ (by decide), gI_nk _ _ _ _ (by decide), gI_eq]
  · rw [gI_nk _ _ _ _ (by decide), gI_nk _ _ _ _ (by decide), gI_eq]
  · rw [gI_nk _ _ _ _ (by decide), gI_eq]
theorem lose_c {S : xS} {q t d l h w : Nat} (hl : l ≤ 60) (hk : CK q S t d l h w) : ∃ S', mX0_loseSlice S q = some (if l = 0 then 0 else 1, S') ∧ CK q S' t d (l - 1) h w ∧ FrX q S S' := by
  unfold mX0_loseSlice
  rw [hk.2.2.1]
  by_cases hz : l = 0
  · subst hz
    exact ⟨S, by rw [if_neg (by decide)]; rfl, hk, FrX.rfl'⟩
  · refine ⟨pI S q 2 (nI (l - 1)), ?_, ⟨?_, ?_, gI_eq _ _ _ _, ?_, ?_⟩, FrX.pI⟩
    · rw [if_pos (show (0 : Int32) < nI l from nI_lt (a := 0) (by omega) (by omega)), xlet_eq, show (1 : Int32) = nI 1 from rfl, pk_sub (by omega), if_neg hz]
    · rw [gI_nk _ _ _ _ (by decide)]; exact hk.1
    · rw [gI_nk _ _ _ _ (by decide)]; exact hk.2.1
    · rw [gI_nk _ _ _ _ (by decide)]; exact hk.2.2.2.1
    · rw [gI_nk _ _ _ _ (by decide)]; exact hk.2.2.2.2
/-- a cake of the Foresight, a table of the reference, as the convent stands -/
theorem RO.load {Sc Sm S : xS} {nS sc w mi t q : Nat} {sl : Nat → Nat → Nat → Nat} {ea : Nat → Nat → Nat → Nat → Nat → Nat} (h : RO Sc Sm nS sc w mi sl ea) (hq : q = 13 ∨ q = 18) (ht : t < 2) (hS : CE Sc S) {d l k : Nat} (e : gI Sc 2 (3 * t) = nI d ∧ gI Sc 2 (3 * t + 1) = nI l ∧ gI Sc 2 (3 * t + 2) = nI k) : ∃ S', mX0_loadFrom S q 1 (nI t) = some S' ∧ CK q S' t d l k w ∧ FrX q S S' := by
  have e2 : gI S 2 = gI Sc 2 := hS.2.2.2 2 (by omega)
  exact load_c hS.1 hq ht (by rw [e2]; exact e.1) (by rw [e2]; exact e.2.1) (by rw [e2]; exact e.2.2) (by rw [e2]; exact h.2.2.2.1.2.1)
theorem RO.sit {Sc Sm S : xS} {nS sc w mi : Nat} {sl : Nat → Nat → Nat → Nat} {ea : Nat → Nat → Nat → Nat → Nat → Nat} (h : RO Sc Sm nS sc w mi sl ea) (hS : CE Sc S) (t : Nat) : mX1_sitters S 1 (nI t) = some (nI (sitS Sc nS t), S) := by
  rw [sitters_c hS.1 h.1.2.2.2.2.2.2.1 (by rw [hS.2.2.2 1 (by omega)]; exact h.2.1), hS.2.2.2 2 (by omega)]
  rfl
theorem RO.setT {Sc Sm S : xS} {nS sc w mi t : Nat} {sl : Nat → Nat → Nat → Nat} {ea : Nat → Nat → Nat → Nat → Nat → Nat} (h : RO Sc Sm nS sc w mi sl ea) (ht : t < 2) (hS : ME Sm S) {d l k : Nat} (e : gI Sm 1 (10 + 3 * t) = nI d ∧ gI Sm 1 (10 + 3 * t + 1) = nI l ∧ gI Sm 1 (10 + 3 * t + 2) = nI k) : ∃ S', mX9_setTable S 0 (nI t) = some S' ∧ MK S' t d l k (sitS Sc nS t) ∧ FrY S S' := by
  have e1 : gI S 1 = gI Sm 1 := hS.2.1 1 (by omega) (by omega)
  obtain ⟨S', q1, q2, q3⟩ := set_m hS.1 h.1.2.2.2.2.2.2.1 (by rw [e1]; exact h.1.2.2.2.2.2.2.2) ht (by rw [e1]; exact e.1) (by rw [e1]; exact e.2.1) (by rw [e1]; exact e.2.2)
  refine ⟨S', q1, ?_, q3⟩
  have e3 : sitP (fun s => gI S 1 (16 + 2 * s + 1)) (nI t) nS = sitS Sc nS t := sitP_congr nS (fun s hs => by rw [e1]; exact h.2.2.2.2.2.1 s hs)
  rw [e3] at q2
  exact q2
theorem RO.sit_lt {Sc Sm : xS} {nS sc w mi t : Nat} {sl : Nat → Nat → Nat → Nat} {ea : Nat → Nat → Nat → Nat → Nat → Nat} (h : RO Sc Sm nS sc w mi sl ea) : sitS Sc nS t < 2 ^ nS ∧ sitS Sc nS t < 64 := ⟨sitP_lt _ _ _, sitP_lt64 h.1.2.2.2.2.2.2.1⟩
theorem day_cases (p : Int32) : (∃ d, d < 1000 ∧ p = nI d ∧ ∀ S, mX8_isDay S p = some (1, S) ∧ mX9_isDay S p = some (1, S)) ∨ (∀ S, mX8_isDay S p = some (0, S) ∧ mX9_isDay S p = some (0, S)) := by
  by_cases h1 : p < 0
  · refine Or.inr (fun S => ⟨by unfold mX8_isDay; rw [if_pos h1], ?_⟩)
    unfold mX9_isDay
    rw [isIn_eq, Option.bind_some, if_pos (Or.inl h1)]
    rfl
  by_cases h2 : 999 < p
  · refine Or.inr (fun S => ⟨by unfold mX8_isDay; rw [if_neg h1, if_pos h2], ?_⟩)
    unfold mX9_isDay
    rw [isIn_eq, Option.bind_some, if_pos (Or.inr h2)]
    rfl
  · obtain ⟨d, hd, e⟩ := bd_of (B := 999) h1 (Int32.not_lt.mp h2) (by decide)
    refine Or.inl ⟨d, by omega, e, fun S => ⟨by unfold mX8_isDay; rw [if_neg h1, if_neg h2], ?_⟩⟩
    unfold mX9_isDay
    rw [isIn_eq, Option.bind_some, if_neg (not_or2 h1 h2)]
    rfl
theorem FrC.ce {Sc S S' : xS} (h : FrC S S') (hB : CE Sc S) : CE Sc S' := hB.go (by rw [h.1]) (fun c hc => h.2 c (by omega) (by omega))
theorem sim_slices_ok : sim_slices (RelW RTx) := by
  intro Sc Sm p w h
  have hC := h.1
  have hM := h.2.1
  obtain ⟨hcc, hmm⟩ := h.ce0
  obtain ⟨nS, sc, w0, mi, sl, ea, hR⟩ := h.ro
  unfold mX8_slices mX9_slices
  rcases (tab_cases p).symm with c | ⟨t, ht, rfl, c⟩
  · exact ⟨-1, Sc, Sm, by rw [(c Sc).1, Option.bind_some, if_pos rfl], by rw [(c Sm).2, Option.bind_some, if_pos rfl], h⟩
  rw [(c Sc).1, (c Sm).2, Option.bind_some, Option.bind_some, if_neg n10, if_neg n10]
  dsimp only
  rcases (day_cases w).symm with c | ⟨d, hd, rfl, c⟩
  · exact ⟨-1, Sc, Sm, by rw [(c Sc).1, Option.bind_some, if_pos rfl], by rw [(c Sm).2, Option.bind_some, if_pos rfl], h⟩
  rw [(c Sc).1, (c Sm).2, Option.bind_some, Option.bind_some, if_neg n10, if_neg n10]
  dsimp only
  obtain ⟨w1, w2, w3⟩ := hR.2.2.2.1
  obtain ⟨Sc', q1, q2⟩ := hR.1.2.2.1 Sc hcc.cb t d w0 ht hd (by omega)
  obtain ⟨Sm', r1, r2⟩ := hR.1.2.2.2.1 Sm hmm.mb t d w0 ht hd (by omega)
  refine ⟨nI (sl t d w0), Sc', Sm', ?_, ?_, h.ce (q2.ce hcc) (r2.y.me hmm)⟩
  · rw [rc_0_3 hC, Option.bind_some, rc_0_0 hC, Option.bind_some, get_eq (i := 12) 12 rfl (by decide) (rc_1_0 hC) rfl, Option.bind_some]
    dsimp only
    rw [w2, q1]
    rfl
  · rw [rm_0 hM, Option.bind_some, aI_lit (Y := Ym) (c := 1) (i := 1) 1 rfl (by decide) (by decide), Option.bind_some, w3, r1]
    rfl

/-! TEXT: what is read is what both work -/
theorem LAWs.tl {q : Nat} {S T : xS} {n L W s m : Nat} {t : Bool} (h : LAWs q S T n L W s m t) (hq : q < 4) (hn : n ≤ 24) (hm : m ≤ 6) (hL : L ≤ 300) (hW : W ≤ 301) : TLaw S T q n s m := by
  rcases h with ⟨_, h2, h4⟩ | ⟨_, k, fr, to, f, c, fM, g1, g2, g3, g4, g5, g6, g7, g8, g9, g10, g11, g12, g13, g14⟩
  · exact Or.inl ⟨h2, h4⟩
  · exact Or.inr ⟨k, fr, to, f, g1, g2, g3, g4, g5, g6, by omega, cw_of hq g8 (by decide) g6 (by omega), mw_of hq (by omega) hm g9 g13 g14 g11 g12 (by omega)⟩
theorem TLaw.loc {Sc Sm Sc' Sm' : xS} {t n sort m : Nat} (h : TLaw Sc Sm t n sort m) (hn : n ≤ 24) (hc : ∀ c, 26 + 6 * t ≤ c → c < 26 + 6 * t + 6 → gI Sc' c = gI Sc c) (hm : ∀ i, 680 * t ≤ i → i < 680 * t + 680 → gI Sm' 3 i = gI Sm 3 i) : TLaw Sc' Sm' t n sort m := by
  rcases h with ⟨h1, h2⟩ | ⟨k, fr, to, f, h1, h2, h3, h4, h5, h6, h7, h8, h9⟩
  · exact Or.inl ⟨fun k hk => by rw [hm _ (by omega) (by omega)]; exact h1 k hk, by rw [hc _ (by omega) (by omega)]; exact h2⟩
  · exact Or.inr ⟨k, fr, to, f, h1, fun j hj => by rw [hm _ (by omega) (by omega)]; exact h2 j hj, by rw [hm _ (by omega) (by omega)]; exact h3, by rw [hc _ (by omega) (by omega)]; exact h4, by rw [hc _ (by omega) (by omega)]; exact h5, h6, h7, h8.congr (hc _ (by omega) (by omega)) (hc _ (by omega) (by omega)), h9.loc hm⟩
theorem RTx.next {len : Nat} {b : Nat → Nat} {q : Nat} {Sc Sm S T : xS} {n L W onc κ st v bh : Nat} (h : RTx Sc Sm q) (hc : CLS len b q S T n L W onc κ st v bh) (hS : ∀ c, 26 ≤ c → c < 26 + 6 * q → gI S c = gI Sc c) (hT : ∀ i, i < 680 * q → gI T 3 i = gI Sm 3 i) : RTx S T (q + 1) := by
  intro t ht
  by_cases htq : t = q
  · subst htq
    obtain ⟨⟨hC, hM, hTP, hTK, hq⟩, ⟨g1, g4, g5⟩, ⟨a2, a10, a24⟩, ⟨b12, b14, b3, b18, b21, b4⟩, ⟨hL, hW⟩, hcl, l0, l1⟩ := hc
    have hlen := hTP.1
    have hbl := hTK.2.2.1
    exact ⟨n, a24, a10, b3, hcl, l0.tl hq a24 (by decide) (by omega) (by omega), l1.tl hq a24 (by decide) (by omega) (by omega)⟩
  · have htl : t < q := by omega
    obtain ⟨n, h1, h2, h3, h4, h5, h6⟩ := h t htl
    have hc' : ∀ c, 26 + 6 * t ≤ c → c < 26 + 6 * t + 6 → gI S c = gI Sc c := fun c x y => hS c (by omega) (by omega)
    have hm' : ∀ i, 680 * t ≤ i → i < 680 * t + 680 → gI T 3 i = gI Sm 3 i := fun i x y => hT i (by omega)
    refine ⟨n, h1, by rw [hc' _ (by omega) (by omega)]; exact h2, by rw [hm' _ (by omega) (by omega)]; exact h3, fun k hk => ?_, h5.loc h1 hc' hm', h6.loc h1 hc' hm'⟩
    obtain ⟨s, i1, i2, i3, i4, i5⟩ := h4 k hk
    exact ⟨s, i1, by rw [hc' _ (by omega) (by omega)]; exact i2, by rw [hm' _ (by omega) (by omega)]; exact i3, fun x => by rw [hc' _ (by omega) (by omega), hm' _ (by omega) (by omega)]; exact i4 x, fun x y => by rw [hc' _ (by omega) (by omega), hm' _ (by omega) (by omega)]; exact i5 x y⟩
theorem RTx.keep {q : Nat} {Sc Sm S T : xS} (h : RTx Sc Sm q) (hS : ∀ c, 26 ≤ c → c < 26 + 6 * q → gI S c = gI Sc c) (hT : ∀ i, i < 680 * q → gI T 3 i = gI Sm 3 i) : RTx S T q := by
  intro t htl
  obtain ⟨n, h1, h2, h3, h4, h5, h6⟩ := h t htl
  have hc' : ∀ c, 26 + 6 * t ≤ c → c < 26 + 6 * t + 6 → gI S c = gI Sc c := fun c x y => hS c (by omega) (by omega)
  have hm' : ∀ i, 680 * t ≤ i → i < 680 * t + 680 → gI T 3 i = gI Sm 3 i := fun i x y => hT i (by omega)
  refine ⟨n, h1, by rw [hc' _ (by omega) (by omega)]; exact h2, by rw [hm' _ (by omega) (by omega)]; exact h3, fun k hk => ?_, h5.loc h1 hc' hm', h6.loc h1 hc' hm'⟩
  obtain ⟨s, i1, i2, i3, i4, i5⟩ := h4 k hk
  exact ⟨s, i1, by rw [hc' _ (by omega) (by omega)]; exact i2, by rw [hm' _ (by omega) (by omega)]; exact i3, fun x => by rw [hc' _ (by omega) (by omega), hm' _ (by omega) (by omega)]; exact i4 x, fun x y => by rw [hc' _ (by omega) (by omega), hm' _ (by omega) (by omega)]; exact i5 x y⟩
theorem RV.text {Sc Sm : xS} {nS nT ns sc nx : Nat} (h : RV Sc Sm 1 1 nS nT ns sc nx) (hT : nT < 4) : RV (pI Sc 1 7 (nI (nT + 1))) (pI Sm 1 4 (nI (nT + 1))) 1 1 nS (nT + 1) ns sc nx := by
  obtain ⟨a1, a2, a3, a4, a5, a6, a7, a8, a9, a10, a11, a12, a13⟩ := h
  have c : ∀ c, c ≠ 1 → gI (pI Sc 1 7 (nI (nT + 1))) c = gI Sc c := fun c hc => gIf_ne _ _ _ _ hc
  have m : ∀ k, k ≠ 4 → gI (pI Sm 1 4 (nI (nT + 1))) 1 k = gI Sm 1 k := fun k hk => gI_nk _ _ _ _ hk
  have k : ∀ k, k ≠ 7 → gI (pI Sc 1 7 (nI (nT + 1))) 1 k = gI Sc 1 k := fun k hk => gI_nk _ _ _ _ hk
  refine ⟨⟨a1.1, by omega, a1.2.2⟩, ?_, ⟨gI_eq _ _ _ _, gI_eq _ _ _ _⟩, ?_, ?_, ?_, ?_, ?_, ?_, ?_, ?_, ?_, ?_⟩
  · rw [k 5 (by decide), m 0 (by decide)]; exact a2
  · rw [k 3 (by decide), m 6 (by decide)]; exact a4
  · rw [k 10 (by decide), m 7 (by decide)]; exact a5
  · rw [k 2 (by decide)]; exact a6
  · rw [k 6 (by decide), m 2 (by decide)]; exact a7
  · rw [k 8 (by decide), m 5 (by decide)]
    exact ⟨a8.1, a8.2.imp id (fun ⟨j, h1, h2⟩ => ⟨j, by omega, h2⟩)⟩
  · rw [c 2 (by decide)]; exact a9
  · rw [c 2 (by decide), m 1 (by decide), m 3 (by decide)]
    exact ⟨a10.1, a10.2.1, fun j hj => by rw [m _ (by omega)]; exact a10.2.2 j hj⟩
  · intro s hs
    rw [c 2 (by decide), c 4 (by decide), m _ (by omega), m _ (by omega)]
    exact a11 s hs
  · intro j hj
    rw [c 5 (by decide), m _ (by omega)]
    exact a12 j hj
  · intro j hj
    obtain ⟨hs, i1, i2, i3, i4, i5, i6, i7⟩ := a13 j hj
    refine ⟨hs, i1, by rw [m _ (by omega)]; exact i2, by rw [c 3 (by decide)]; exact i3, by rw [c 3 (by decide), m _ (by omega)]; exact i4, by rw [c 3 (by decide), m _ (by omega)]; exact i5, fun x hx => by rw [c 3 (by decide), m _ (by omega)]; exact i6 x hx, fun x hx => by rw [c 3 (by decide), m _ (by omega)]; exact i7 x hx⟩
theorem sim_text_ok : sim_text (RelW RTx) := by
  intro Sc Sm h
  obtain ⟨hC, hM, hK, ⟨nS, nT, ns, sc, nx, nS', nT', ns', sc', nx', hV, hV', hT, hRt⟩, hTp, hF⟩ := id h
  have a3 := hV.2.2.1
  have hT4 := hV.1.2.1
  unfold mX8_text mX9_text
  rw [rc_0_0 hC, Option.bind_some, a3.1, rm_0 hM, Option.bind_some, aI_lit (Y := Ym) (c := 1) (i := 4) 4 rfl (by decide) (by decide), Option.bind_some, a3.2]
  by_cases hfull : nT = 4
  · subst hfull
    refine ⟨-1, Sc, Sm, ?_, ?_, h⟩
    · unfold mX8_textAt
      rw [if_neg (by decide), if_pos (by decide), Option.bind_some, if_pos rfl]
    · rw [if_pos (by decide)]
  · have hq : nT < 4 := by omega
    obtain ⟨len, b, S', T', f, e1, e2, w3, w4, w5, w6, w7⟩ := read_ok hC hM hTp hq a3.2
    rw [textAt_some hC hq, Option.bind_some, if_neg (by simp), rc_0_6 hC, Option.bind_some, e1, Option.bind_some, if_neg (show ¬ nI nT = (4 : Int32) from fun e => hfull ((nI_eq (a := nT) (b := 4) (by omega) (by decide)).mp e)), e2, Option.bind_some]
    dsimp only
    have hr : S'.2.2 = (pR Sc 25 1 (some (26 + 6 * nT))).2.2 := by rw [w3.1]; rfl
    have hC' : RCr S' := (hC.out (some (26 + 6 * nT))).ofR hr
    have hM' : RMr T' := hM.ofR w4.1
    have scf : ∀ c, c ≠ 23 → c ≠ 25 → c < 26 + 6 * nT ∨ 26 + 6 * nT + 6 ≤ c → gI S' c = gI Sc c := fun c h1 h2 h3 => by rw [w3.2.1 c h1 h2 (by omega), rdC_c h1 h2 (by omega)]
    have tc : ∀ c, c ≠ 0 → c ≠ 3 → c ≠ 5 → gI T' c = gI Sm c := w4.2.1
    have gr : ∀ c k, c ≠ 25 → gR S' c k = gR Sc c k := fun c k hc => by
      have : gR S' c k = gR (pR Sc 25 1 (some (26 + 6 * nT))) c k := by unfold gR; rw [hr]
      rw [this, gR_pR, if_neg (fun e => hc e.1)]
    have hK' : ∀ S'' : xS, S''.2.2 = S'.2.2 → gI S'' 1 8 = gI Sc 1 8 → RKd S'' := fun S'' e1 e2 => by
      have g : ∀ c k, c ≠ 25 → gR S'' c k = gR Sc c k := fun c k hc => by rw [← gr c k hc]; unfold gR; rw [e1]
      unfold RKd at hK ⊢
      rw [e2, g 12 3 (by decide), g 17 5 (by decide), g 17 6 (by decide)]
      exact hK
    have hF3 : gI S' 25 3 = 1 := by rw [w3.2.2.2]; exact rdC_25.1
    rw [rc_0_5 hC', Option.bind_some, xlet_eq, xlet_eq]
    rcases w7 with ⟨z1, z2⟩ | ⟨z1, z2, n, L, W, onc, κ, st, v, bh, z3⟩
    · -- a FAULT
      have hf0 := nI_ne0 (n := f) (Nat.pos_of_ne_zero z1) (by omega)
      refine ⟨-1, pI S' 23 1 0, pI (pI (pI T' 0 5 (nI f)) 0 6 (gI T' 0 8)) 0 4 0, ?_, ?_, hC'.ofR rfl, hM'.ofR rfl, hK' _ rfl ?_, ⟨nS, nT, ns, sc, nx, nS', nT', ns', sc', nx', hV.congr (fun i hi => ?_) ?_, hV'.congr (fun i hi => ?_) ?_, hT, ?_⟩, ⟨0, by omega, gI_eq _ _ _ _, gI_eq _ _ _ _, fun k hk => absurd hk (by omega)⟩, Or.inr ⟨?_, ?_, ?_⟩⟩
      · rw [if_neg z1, if_pos rfl]
      · rw [gI_eq, if_neg hf0, gI_nk _ _ _ _ (by decide)]
        unfold jX9_text_36
        rw [xlet_eq, xlet_eq, gI_nk _ _ _ _ (by decide), gI_nk _ _ _ _ (by decide), gI_eq, if_neg hf0]
      · rw [gI_ne _ _ _ _ (by decide), scf 1 (by decide) (by decide) (by omega)]
      · exact (gIf_ne _ _ _ _ (by omega)).trans (scf _ (by omega) (by omega) (by omega))
      · show gI _ 1 = gI Sm 1
        rw [gIf_ne _ _ _ _ (by decide), gIf_ne _ _ _ _ (by decide), gIf_ne _ _ _ _ (by decide)]
        exact tc 1 (by decide) (by decide) (by decide)
      · exact (gIf_ne _ _ _ _ (by omega)).trans (scf _ (by omega) (by omega) (by omega))
      · show gI _ 2 = gI Sm 2
        rw [gIf_ne _ _ _ _ (by decide), gIf_ne _ _ _ _ (by decide), gIf_ne _ _ _ _ (by decide)]
        exact tc 2 (by decide) (by decide) (by decide)
      · refine hRt.keep (fun c h1 h2 => ?_) (fun i hi => ?_)
        · rw [gIf_ne _ _ _ _ (by omega)]
          exact scf c (by omega) (by omega) (by omega)
        · rw [gI_ne _ _ _ _ (by decide), gI_ne _ _ _ _ (by decide), gI_ne _ _ _ _ (by decide)]
          exact w4.2.2.2 i (by omega)
      · rw [gI_ne _ _ _ _ (by decide)]; exact hF3
      · rw [gI_ne _ _ _ _ (by decide), gI_nk _ _ _ _ (by decide), gI_nk _ _ _ _ (by decide), gI_eq]; exact w6
      · rw [gI_ne _ _ _ _ (by decide), gI_nk _ _ _ _ (by decide), gI_eq]; exact z2
    · -- a text
      subst z1
      have s17 : gI S' 1 7 = nI nT := by rw [scf 1 (by decide) (by decide) (by omega)]; exact a3.1
      have t14 : gI T' 1 4 = nI nT := by rw [tc 1 (by decide) (by decide) (by decide)]; exact a3.2
      obtain ⟨Sa, ea⟩ : ∃ z, z = pI S' 23 1 0 := ⟨_, rfl⟩
      obtain ⟨Ta, eb⟩ : ∃ z, z = pI (pI (pI T' 0 5 (nI 0)) 0 6 (-1)) 0 4 0 := ⟨_, rfl⟩
      have ca : ∀ c, c ≠ 23 → gI Sa c = gI S' c := fun c hc => by rw [ea, gIf_ne _ _ _ _ hc]
      have cb : ∀ c, c ≠ 0 → gI Ta c = gI T' c := fun c hc => by rw [eb, gIf_ne _ _ _ _ hc, gIf_ne _ _ _ _ hc, gIf_ne _ _ _ _ hc]
      have hCa : RCr Sa := hC'.ofR (by rw [ea]; rfl)
      have hMb : RMr Ta := hM'.ofR (by rw [eb]; rfl)
      have hVa : RV Sa Ta 1 1 nS nT ns sc nx := hV.congr (fun i hi => (ca _ (by omega)).trans (scf _ (by omega) (by omega) (by omega))) ((cb 1 (by decide)).trans (tc 1 (by decide) (by decide) (by decide)))
      have hVa' : RV Sa Ta 6 2 nS' nT' ns' sc' nx' := hV'.congr (fun i hi => (ca _ (by omega)).trans (scf _ (by omega) (by omega) (by omega))) ((cb 2 (by decide)).trans (tc 2 (by decide) (by decide) (by decide)))
      have hRn : RTx S' T' (nT + 1) := hRt.next z3 (fun c h1 h2 => scf c (by omega) (by omega) (by omega)) (fun i hi => w4.2.2.2 i (by omega))
      refine ⟨nI nT, pI Sa 1 7 (nI (nT + 1)), pI Ta 1 4 (nI (nT + 1)), ?_, ?_, hCa.ofR rfl, hMb.ofR rfl, hK' _ (by rw [ea]; rfl) ?_, ⟨nS, nT + 1, ns, sc, nx, nS', nT', ns', sc', nx', hVa.text hq, hVa'.congr (fun i hi => gIf_ne _ _ _ _ (by omega)) (gIf_ne _ _ _ _ (by decide)), by omega, RTx_loc _ _ _ _ _ (fun c hc => (gIf_ne _ _ _ _ (by omega)).trans (ca c (by omega))) ((gIf_ne _ _ _ _ (by decide)).trans (cb 3 (by decide))) hRn⟩, ⟨0, by omega, ?_, ?_, fun k hk => absurd hk (by omega)⟩, Or.inr ⟨?_, ?_, ?_⟩⟩
      · rw [if_pos rfl, if_neg n10, ← ea, rc_0_0 hCa, Option.bind_some, xlet_eq, ca 1 (by decide), s17, nI_1, gR_pI, rc_0_0 hCa, Option.bind_some, gI_eq, show (1 : Int32) = nI 1 from rfl, pk_sub (by omega), show nT + 1 - 1 = nT by omega]
      · rw [gI_eq, if_pos (show nI 0 = (0 : Int32) from rfl)]
        unfold jX9_text_36
        rw [xlet_eq, xlet_eq, ← eb]
        have h5 : gI Ta 0 5 = 0 := by rw [eb, gI_nk _ _ _ _ (by decide), gI_nk _ _ _ _ (by decide), gI_eq]; rfl
        rw [if_pos h5, rm_0 hMb, Option.bind_some, aI_lit (Y := Ym) (c := 1) (i := 4) 4 rfl (by decide) (by decide), Option.bind_some, cb 1 (by decide), t14, nI_1, sI_lit (Y := Ym) (c := 1) (i := 4) 4 rfl (by decide) (by decide), Option.bind_some, gR_pI, rm_0 hMb, Option.bind_some, aI_lit (Y := Ym) (c := 1) (i := 4) 4 rfl (by decide) (by decide), Option.bind_some, gI_eq, show (1 : Int32) = nI 1 from rfl, pk_sub (by omega), show nT + 1 - 1 = nT by omega]
      · rw [gI_nk _ _ _ _ (by decide), ca 1 (by decide), scf 1 (by decide) (by decide) (by omega)]
      · rw [gI_ne _ _ _ _ (by decide), ea, gI_eq]; rfl
      · rw [gI_ne _ _ _ _ (by decide), eb, gI_eq]; rfl
      · rw [gI_ne _ _ _ _ (by decide), ca 25 (by decide)]; exact hF3
      · rw [gI_ne _ _ _ _ (by decide), ca 25 (by decide), gI_ne _ _ _ _ (by decide), eb, gI_nk _ _ _ _ (by decide), gI_nk _ _ _ _ (by decide), gI_eq]; exact w6
      · rw [gI_ne _ _ _ _ (by decide), ca 25 (by decide), gI_ne _ _ _ _ (by decide), eb, gI_nk _ _ _ _ (by decide), gI_eq]; exact z2

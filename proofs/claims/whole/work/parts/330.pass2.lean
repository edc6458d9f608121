/-! pass, played -/
theorem RV.row {Sc Sm Sf T : xS} {nS nT ns sc nx : Nat} (h : RV Sc Sm 1 1 nS nT ns sc nx) (hc : ∀ c, c = 1 ∨ c = 3 ∨ c = 4 ∨ c = 5 → gI Sf c = gI Sc c) (hok : okRow (gI Sf 2) nS) (hs : ∀ s, s < 6 → gI Sf 2 (6 + s) = gI Sc 2 (6 + s)) (h12 : gI T 1 1 = gI Sf 2 12) (h13 : gI T 1 3 = gI Sf 2 13) (ht : ∀ k, k < 6 → gI T 1 (10 + k) = gI Sf 2 k) (hm : ∀ j, j ≠ 1 → j ≠ 3 → (j < 10 ∨ 16 ≤ j) → gI T 1 j = gI Sm 1 j) : RV Sf T 1 1 nS nT ns sc nx := by
  obtain ⟨a1, a2, a3, a4, a5, a6, a7, a8, a9, a10, a11, a12, a13⟩ := h
  have e1 := hc 1 (by omega)
  have e3 : gI Sf (1 + 2) = gI Sc (1 + 2) := hc 3 (by omega)
  have e4 : gI Sf (1 + 3) = gI Sc (1 + 3) := hc 4 (by omega)
  have e5 : gI Sf (1 + 4) = gI Sc (1 + 4) := hc 5 (by omega)
  unfold RV
  rw [e1, e3, e4, e5, hm 0 (by omega) (by omega) (by omega), hm 4 (by omega) (by omega) (by omega), hm 6 (by omega) (by omega) (by omega), hm 7 (by omega) (by omega) (by omega), hm 2 (by omega) (by omega) (by omega), hm 5 (by omega) (by omega) (by omega)]
  refine ⟨a1, a2, a3, a4, a5, a6, a7, a8, hok, ⟨h12, h13, ht⟩, fun s hs' => ?_, fun k hk => ?_, fun j hj => ?_⟩
  · rw [hm _ (by omega) (by omega) (by omega), hm _ (by omega) (by omega) (by omega)]
    have := a11 s hs'
    exact ⟨this.1, this.2.1.trans (hs s (by omega)).symm, this.2.2⟩
  · rw [hm _ (by omega) (by omega) (by omega)]
    exact a12 k hk
  · obtain ⟨q, c1, c2, c3, c4, c5, c6, c7⟩ := a13 j hj
    refine ⟨q, c1, ?_, c3, ?_, ?_, fun k hk => ?_, fun s hs' => ?_⟩
    · rw [hm _ (by omega) (by omega) (by omega)]; exact c2
    · rw [hm _ (by omega) (by omega) (by omega)]; exact c4
    · rw [hm _ (by omega) (by omega) (by omega)]; exact c5
    · rw [hm _ (by omega) (by omega) (by omega)]; exact c6 k hk
    · rw [hm _ (by omega) (by omega) (by omega)]; exact c7 s hs'
theorem pa_sum {sl : Nat → Nat → Nat → Nat} (hsl : ∀ t d w, 1 ≤ sl t d w ∧ sl t d w ≤ 60) {ea : Nat → Nat → Nat → Nat → Nat → Nat} {nS set t d l k w mi x : Nat} (h : l + k ≤ 60) : paL mi x (dawnL sl ea nS set t d l k w) + k ≤ 60 ∧ paE mi x (bakeL sl t d l k w) (dawnL sl ea nS set t d l k w) ≤ 61 := by
  have h1 : dawnL sl ea nS set t d l k w ≤ bakeL sl t d l k w := eatN_le _ _ _ _ _ _ _
  have h2 : bakeL sl t d l k w + k ≤ 60 := by
    unfold bakeL
    split
    · next q =>
      have := (hsl t (d + 1) w).2
      omega
    · exact h
  have h3 : paL mi x (dawnL sl ea nS set t d l k w) ≤ dawnL sl ea nS set t d l k w := by
    unfold paL
    split <;> omega
  refine ⟨by omega, ?_⟩
  unfold paE
  split
  · omega
  · split <;> omega
theorem RelW.weak {RT : xS → xS → Nat → Prop} (hX : ∀ a b k, RT a b k → RTx a b k) {Sc Sm : xS} (h : RelW RT Sc Sm) : RelW RTx Sc Sm := by
  obtain ⟨h1, h2, h3, ⟨nS, nT, ns, sc, nx, nS', nT', ns', sc', nx', hV, hV', hT, hRt⟩, h5, h6⟩ := h
  exact ⟨h1, h2, h3, ⟨nS, nT, ns, sc, nx, nS', nT', ns', sc', nx', hV, hV', hT, hX _ _ _ hRt⟩, h5, h6⟩
theorem pass_one {RT : xS → xS → Nat → Prop} (hRT : RTloc RT) (hX : ∀ a b k, RT a b k → RTx a b k) {Sc Sm : xS} (h : RelW RT Sc Sm) {w : Nat} (hw : gI Sc 2 12 = nI w) (hw9 : w < 999) : ∃ e Sc' Sm', e ≤ 122 ∧ mX3_dawnForAll Sc 12 = some (nI e, Sc') ∧ mX9_passOne Sm 0 = some (nI e, Sm') ∧ RelW RT Sc' Sm' ∧ gI Sc' 2 12 = nI (w + 1) := by
  obtain ⟨Sc1, Sm1, k1, k2, k3, ⟨k4, k5, k6⟩, ⟨k7, k8, k9⟩⟩ := keep_ok hRT h
  have hC := h.1
  have hM := h.2.1
  obtain ⟨nS, nT, ns, sc, nx, nS', nT', ns', sc', nx', hV, hV', hT, hRt⟩ := id k3.2.2.2.1
  obtain ⟨sl, ea, hL⟩ := (k3.weak hX).law hV
  obtain ⟨a1, a2, a3, a4, a5, a6, a7, a8, a9, a10, a11, a12, a13⟩ := id hV
  obtain ⟨hcc, hmm⟩ := (k3.weak hX).ce0
  have w1 : gI Sc1 2 12 = nI w := (congrFun (k5 2 (by decide) (by decide)) 12).trans hw
  obtain ⟨x, hx, ex⟩ : bd (gI Sc1 2 13) 30089 := a9.2.2.2.2
  obtain ⟨mi, hmi, emi⟩ := a7.2
  have exm : gI Sm1 1 3 = nI x := a10.2.1.trans ex
  have w1m : gI Sm1 1 1 = nI w := a10.1.trans w1
  obtain ⟨d0, l0, q0, hd0, hq0, t00, t01, t02⟩ : ∃ d l q, d < 1000 ∧ l + q ≤ 60 ∧ gI Sc1 2 0 = nI d ∧ gI Sc1 2 1 = nI l ∧ gI Sc1 2 2 = nI q := a9.1
  obtain ⟨d1, l1, q1, hd1, hq1, t10, t11, t12⟩ : ∃ d l q, d < 1000 ∧ l + q ≤ 60 ∧ gI Sc1 2 3 = nI d ∧ gI Sc1 2 4 = nI l ∧ gI Sc1 2 5 = nI q := a9.2.1
  have m0 : gI Sm1 1 10 = nI d0 := (a10.2.2 0 (by omega)).trans t00
  have m1 : gI Sm1 1 11 = nI l0 := (a10.2.2 1 (by omega)).trans t01
  have m2 : gI Sm1 1 12 = nI q0 := (a10.2.2 2 (by omega)).trans t02
  have m3 : gI Sm1 1 13 = nI d1 := (a10.2.2 3 (by omega)).trans t10
  have m4 : gI Sm1 1 14 = nI l1 := (a10.2.2 4 (by omega)).trans t11
  have m5 : gI Sm1 1 15 = nI q1 := (a10.2.2 5 (by omega)).trans t12
  obtain ⟨set0, hset0⟩ : ∃ z, z = sitP (fun s => gI Sc1 2 (6 + s)) (nI 0) nS := ⟨_, rfl⟩
  obtain ⟨set1, hset1⟩ : ∃ z, z = sitP (fun s => gI Sc1 2 (6 + s)) (nI 1) nS := ⟨_, rfl⟩
  -- the class
  obtain ⟨S2, s1, s2, s3, s4, s5, s6, s7⟩ := pass_c hL (n := 4999) (a := 0) (v2 := nI w) hcc.cb a2.1 (a7.1.trans emi) hmi ex hx w1 (by omega) (t := 0) (by decide) hd0 (show l0 ≤ 60 by omega) (show q0 ≤ 60 by omega) t00 t01 t02 hset0.symm
  have hS2 : CB Sc1 S2 := hcc.cb.step (by rw [s2]) (fun c hc => s3 c (by omega) (by omega) (by omega) (by omega))
  obtain ⟨S3, u1, u2, u3, u4, u5, u6, u7⟩ := pass_c hL (n := 4998) (a := 0 + paE mi x (bakeL sl 0 d0 l0 q0 (w + 1)) (dawnL sl ea nS set0 0 d0 l0 q0 (w + 1))) (v2 := nI w) hS2 (by rw [s3 1 (by decide) (by decide) (by decide) (by decide)]; exact a2.1) (by rw [s3 1 (by decide) (by decide) (by decide) (by decide)]; exact a7.1.trans emi) hmi s6 (nxt_lt x) ((s7 12 (by decide) (by decide) (by decide)).trans w1) (by omega) (t := 1) (by decide) hd1 (show l1 ≤ 60 by omega) (show q1 ≤ 60 by omega) ((s7 3 (by decide) (by decide) (by decide)).trans t10) ((s7 4 (by decide) (by decide) (by decide)).trans t11) ((s7 5 (by decide) (by decide) (by decide)).trans t12) (set := set1) (by rw [hset1]; exact sitP_congr nS (fun s hs => s7 (6 + s) (by omega) (by omega) (by omega)))
  -- the reference
  obtain ⟨T1, eT1⟩ : ∃ z, z = pI Sm1 1 1 (nI (w + 1)) := ⟨_, rfl⟩
  have j1 : ∀ j, j ≠ 1 → gI T1 1 j = gI Sm1 1 j := fun j hj => by rw [eT1]; exact gI_nk _ _ _ _ hj
  have o1 : ∀ c, c ≠ 1 → gI T1 c = gI Sm1 c := fun c hc => by rw [eT1]; exact gIf_ne _ _ _ _ hc
  have r1 : T1.2 = Sm1.2 := by rw [eT1]; rfl
  have hT1 : MB Sm1 T1 := ⟨k3.2.1.ofR (by rw [r1]), o1 3 (by decide), j1 5 (by decide), j1 0 (by decide), fun s hs => j1 _ (by omega)⟩
  obtain ⟨T2, p1, p2, p3, p4, p5, p6, p7, p8⟩ := pass_m hL (n := 4999) (a := 0) hT1 (w := w + 1) ((j1 2 (by decide)).trans emi) hmi ((j1 3 (by decide)).trans exm) hx (by rw [eT1, gI_eq]) (by omega) (t := 0) (by decide) hd0 (show l0 ≤ 60 by omega) (show q0 ≤ 60 by omega) ((j1 10 (by decide)).trans m0) ((j1 11 (by decide)).trans m1) ((j1 12 (by decide)).trans m2) (set := set0) (by rw [hset0]; exact sitP_congr nS (fun s hs => (j1 _ (by omega)).trans (a11 s hs).2.1))
  have hT2 : MB Sm1 T2 := ⟨hT1.1.ofR p2, (p3 3 (by decide) (by decide) (by decide) (by decide)).trans hT1.2.1, (p8 5 (by decide) (by decide) (by decide)).trans hT1.2.2.1, (p8 0 (by decide) (by decide) (by decide)).trans hT1.2.2.2.1, fun s hs => (p8 _ (by omega) (by omega) (by omega)).trans (hT1.2.2.2.2 s hs)⟩
  obtain ⟨T3, v1, v2, v3, v4, v5, v6, v7, v8⟩ := pass_m hL (n := 4998) (a := 0 + paE mi x (bakeL sl 0 d0 l0 q0 (w + 1)) (dawnL sl ea nS set0 0 d0 l0 q0 (w + 1))) hT2 (w := w + 1) ((p8 2 (by decide) (by decide) (by decide)).trans ((j1 2 (by decide)).trans emi)) hmi p7 (nxt_lt x) ((p8 1 (by decide) (by decide) (by decide)).trans (by rw [eT1, gI_eq])) (by omega) (t := 1) (by decide) hd1 (show l1 ≤ 60 by omega) (show q1 ≤ 60 by omega) ((p8 13 (by decide) (by decide) (by decide)).trans ((j1 13 (by decide)).trans m3)) ((p8 14 (by decide) (by decide) (by decide)).trans ((j1 14 (by decide)).trans m4)) ((p8 15 (by decide) (by decide) (by decide)).trans ((j1 15 (by decide)).trans m5)) (set := set1) (by rw [hset1]; exact sitP_congr nS (fun s hs => (p8 _ (by omega) (by omega) (by omega)).trans ((j1 _ (by omega)).trans (a11 s hs).2.1)))
  obtain ⟨E0, hE0⟩ : ∃ z, z = paE mi x (bakeL sl 0 d0 l0 q0 (w + 1)) (dawnL sl ea nS set0 0 d0 l0 q0 (w + 1)) := ⟨_, rfl⟩
  obtain ⟨E1, hE1⟩ : ∃ z, z = paE mi (nxt x) (bakeL sl 1 d1 l1 q1 (w + 1)) (dawnL sl ea nS set1 1 d1 l1 q1 (w + 1)) := ⟨_, rfl⟩
  have b0 := pa_sum hL.1 (ea := ea) (nS := nS) (set := set0) (t := 0) (d := d0) (w := w + 1) (mi := mi) (x := x) hq0
  have b1 := pa_sum hL.1 (ea := ea) (nS := nS) (set := set1) (t := 1) (d := d1) (w := w + 1) (mi := mi) (x := nxt x) hq1
  rw [← hE0] at s1 p1
  rw [← hE0, ← hE1] at u1 v1
  have hC3 : RCr S3 := hS2.1.ofR (by rw [u2])
  have cS : ∀ c, c ≠ 2 → c ≠ 13 → c ≠ 15 → c ≠ 16 → gI (pI S3 2 12 (nI (w + 1))) c = gI Sc1 c := fun c c1 c2 c3 c4 => (gIf_ne _ _ _ _ c1).trans ((u3 c c1 c2 c3 c4).trans (s3 c c1 c2 c3 c4))
  have cT : ∀ c, c ≠ 0 → c ≠ 1 → c ≠ 6 → c ≠ 8 → gI T3 c = gI Sm1 c := fun c c1 c2 c3 c4 => (v3 c c1 c2 c3 c4).trans ((p3 c c1 c2 c3 c4).trans (o1 c c2))
  have rS : (pI S3 2 12 (nI (w + 1))).2 = Sc1.2 := u2.trans s2
  have rT : T3.2.2 = Sm1.2.2 := v2.trans (p2.trans (by rw [r1]))
  -- the row behind it
  have z0 : gI S3 2 0 = nI (bakeD d0 l0 q0) := (u7 0 (by decide) (by decide) (by decide)).trans s4
  have z1 : gI S3 2 1 = nI (paL mi x (dawnL sl ea nS set0 0 d0 l0 q0 (w + 1))) := (u7 1 (by decide) (by decide) (by decide)).trans s5
  have z2 : gI S3 2 2 = nI q0 := (u7 2 (by decide) (by decide) (by decide)).trans ((s7 2 (by decide) (by decide) (by decide)).trans t02)
  have z5 : gI S3 2 5 = nI q1 := (u7 5 (by decide) (by decide) (by decide)).trans ((s7 5 (by decide) (by decide) (by decide)).trans t12)
  have y0 : gI T3 1 10 = nI (bakeD d0 l0 q0) := (v8 10 (by decide) (by decide) (by decide)).trans p5
  have y1 : gI T3 1 11 = nI (paL mi x (dawnL sl ea nS set0 0 d0 l0 q0 (w + 1))) := (v8 11 (by decide) (by decide) (by decide)).trans p6
  have y2 : gI T3 1 12 = nI q0 := (v8 12 (by decide) (by decide) (by decide)).trans ((p8 12 (by decide) (by decide) (by decide)).trans ((j1 12 (by decide)).trans m2))
  have y5 : gI T3 1 15 = nI q1 := (v8 15 (by decide) (by decide) (by decide)).trans ((p8 15 (by decide) (by decide) (by decide)).trans ((j1 15 (by decide)).trans m5))
  have y12 : gI T3 1 1 = nI (w + 1) := (v8 1 (by decide) (by decide) (by decide)).trans ((p8 1 (by decide) (by decide) (by decide)).trans (by rw [eT1, gI_eq]))
  refine ⟨E0 + E1, pI S3 2 12 (nI (w + 1)), T3, by omega, ?_, ?_, ?_, gI_eq _ _ _ _⟩
  · unfold mX3_dawnForAll
    rw [rc_12_0 hC, Option.bind_some, k1, Option.bind_some, rc_12_0 k3.1, Option.bind_some, get_eq (i := 12) 12 rfl (by decide) (rc_1_0 k3.1) rfl, Option.bind_some]
    dsimp only
    rw [w1, show lX3_dawnForAll_21 5000 Sc1 12 0 (nI w) 0 = _ from s1, u1, lX3_dawnForAll_21.eq_2, if_pos (by decide), rc_12_0 hC3, Option.bind_some, nI_1, put_eq (i := 12) 12 rfl (by decide) (rc_1_0 hC3) rfl, Option.bind_some, show 0 + E0 + E1 = E0 + E1 by omega]
  · unfold mX9_passOne
    rw [k2, Option.bind_some, rm_0 k3.2.1, Option.bind_some, aI_lit (Y := Ym) (c := 1) (i := 1) 1 rfl (by decide) (by decide), Option.bind_some, w1m, nI_1, sI_lit (Y := Ym) (c := 1) (i := 1) 1 rfl (by decide) (by decide), Option.bind_some, ← eT1, show lX9_passOne_18 5000 T1 0 0 0 = _ from p1, v1, lX9_passOne_18.eq_2, if_pos (by decide), show 0 + E0 + E1 = E0 + E1 by omega]
  · refine RelW.upd hRT k3 (k3.1.ofR (by rw [rS])) (k3.2.1.ofR rT) ?_ (fun c hc => cS c (by omega) (by omega) (by omega) (by omega)) (fun c hc => cT c (by omega) (by omega) (by omega) (by omega)) (congrFun (cS 23 (by decide) (by decide) (by decide) (by decide)) 1) (fun k _ => congrFun (cS 25 (by decide) (by decide) (by decide) (by decide)) k) (fun k hk => (v4 k (by omega)).trans ((p4 k (by omega)).trans (by rw [o1 0 (by decide)]))) (fun mS mT ms mc mx hVm => ⟨mS, ms, mc, mx, ?_⟩)
    · have hK := k3.2.2.1
      have e : ∀ c k, gR (pI S3 2 12 (nI (w + 1))) c k = gR Sc1 c k := fun c k => by unfold gR; rw [rS]
      unfold RKd at hK ⊢
      rw [cS 1 (by decide) (by decide) (by decide) (by decide), e, e, e]
      exact hK
    · have hmS : mS = nS := (nI_eq (by have := hVm.1; omega) (by omega)).mp (hVm.2.1.1.symm.trans a2.1)
      subst hmS
      refine hVm.row (fun c hc => cS c (by omega) (by omega) (by omega) (by omega)) ?_ (fun s hs => ?_) ?_ ?_ (fun k hk => ?_) (fun j h1 h2 h3 => (v8 j (by omega) (by omega) h2).trans ((p8 j (by omega) (by omega) h2).trans (j1 j h1)))
      · refine ⟨⟨_, _, q0, bakeD_lt (l := l0) (h := q0) hd0, b0.1, ?_, ?_, ?_⟩, ⟨_, _, q1, bakeD_lt (l := l1) (h := q1) hd1, b1.1, ?_, ?_, ?_⟩, fun s hs => ?_, ⟨w + 1, by omega, gI_eq _ _ _ _⟩, ⟨nxt (nxt x), nxt_lt _, ?_⟩⟩
        · rw [gI_nk _ _ _ _ (by decide)]; exact z0
        · rw [gI_nk _ _ _ _ (by decide)]; exact z1
        · rw [gI_nk _ _ _ _ (by decide)]; exact z2
        · rw [gI_nk _ _ _ _ (by decide)]; exact u4
        · rw [gI_nk _ _ _ _ (by decide)]; exact u5
        · rw [gI_nk _ _ _ _ (by decide)]; exact z5
        · rw [gI_nk _ _ _ _ (by omega), u7 _ (by omega) (by omega) (by omega), s7 _ (by omega) (by omega) (by omega)]
          exact a9.2.2.1 s hs
        · rw [gI_nk _ _ _ _ (by decide)]; exact u6
      · rw [gI_nk _ _ _ _ (by omega), u7 _ (by omega) (by omega) (by omega), s7 _ (by omega) (by omega) (by omega)]
      · rw [gI_eq]; exact y12
      · rw [gI_nk _ _ _ _ (by decide)]; exact v7.trans u6.symm
      · rw [gI_nk _ _ _ _ (by omega)]
        rcases (show k = 0 ∨ k = 1 ∨ k = 2 ∨ k = 3 ∨ k = 4 ∨ k = 5 by omega) with rfl | rfl | rfl | rfl | rfl | rfl
        · exact y0.trans z0.symm
        · exact y1.trans z1.symm
        · exact y2.trans z2.symm
        · exact v5.trans u4.symm
        · exact v6.trans u5.symm
        · exact y5.trans z5.symm
theorem pass_go {RT : xS → xS → Nat → Prop} (hRT : RTloc RT) (hX : ∀ a b k, RT a b k → RTx a b k) {N w : Nat} (hw : w + N ≤ 999) (hN : N ≤ 99) : ∀ e i fc fm a Sc Sm, e + i = N → e < fc → e < fm → RelW RT Sc Sm → gI Sc 2 12 = nI (w + i) → a ≤ 122 * i → ∃ r Sc' Sm', r ≤ 122 * N ∧ lX8_pass_34 fc Sc 0 (nI N) (nI a) (nI i) = some (nI r, Sc') ∧ lX9_pass_30 fm Sm 0 (nI N) (nI a) (nI i) = some (nI r, Sm') ∧ RelW RT Sc' Sm' := by
  intro e
  induction e with
  | zero =>
    intro i fc fm a Sc Sm hi hfc hfm h hd ha
    obtain ⟨fc, rfl⟩ : ∃ q, fc = q + 1 := ⟨fc - 1, by omega⟩
    obtain ⟨fm, rfl⟩ : ∃ q, fm = q + 1 := ⟨fm - 1, by omega⟩
    have hi : i = N := by omega
    subst hi
    exact ⟨a, Sc, Sm, ha, by rw [lX8_pass_34.eq_2, if_pos (nI_le (Nat.le_refl _) (by omega))], by rw [lX9_pass_30.eq_2, if_pos (nI_le (Nat.le_refl _) (by omega))], h⟩
  | succ e ih =>
    intro i fc fm a Sc Sm hi hfc hfm h hd ha
    obtain ⟨fc, rfl⟩ : ∃ q, fc = q + 1 := ⟨fc - 1, by omega⟩
    obtain ⟨fm, rfl⟩ : ∃ q, fm = q + 1 := ⟨fm - 1, by omega⟩
    obtain ⟨e1, Sc1, Sm1, q0, q1, q2, q3, q4⟩ := pass_one hRT hX h hd (by omega)
    obtain ⟨r, Sc', Sm', r0, r1, r2, r3⟩ := ih (i + 1) fc fm (a + e1) Sc1 Sm1 (by omega) (by omega) (by omega) q3 q4 (by omega)
    refine ⟨r, Sc', Sm', r0, ?_, ?_, r3⟩
    · rw [lX8_pass_34.eq_2, if_neg (nI_ge (by omega) (by omega)), rc_0_3 h.1, Option.bind_some, q1, Option.bind_some, nI_add, nI_1]
      exact r1
    · rw [lX9_pass_30.eq_2, if_neg (nI_ge (by omega) (by omega)), q2, Option.bind_some, nI_add, nI_1]
      exact r2
theorem pass_ok {RT : xS → xS → Nat → Prop} (hRT : RTloc RT) (hX : ∀ a b k, RT a b k → RTx a b k) {Sc Sm : xS} (p : Int32) (h : RelW RT Sc Sm) : ∃ (r : Int32) (Sc' Sm' : xS), mX8_pass Sc 0 p = some (r, Sc') ∧ mX9_pass Sm 0 p = some (r, Sm') ∧ RelW RT Sc' Sm' ∧ (r = -1 ∨ ∃ v, v < 100000 ∧ r = nI v) := by
  have hC := h.1
  have hM := h.2.1
  obtain ⟨nS, sc, w0, mi, sl, ea, hR⟩ := (h.weak hX).ro
  obtain ⟨w1, w2, w3⟩ := hR.2.2.2.1
  unfold mX8_pass mX9_pass
  rw [isIn_eq, Option.bind_some]
  by_cases h1 : p < 1
  · exact ⟨-1, Sc, Sm, by rw [if_pos h1], by rw [if_pos (Or.inl h1), if_pos rfl], h, Or.inl rfl⟩
  by_cases h2 : 99 < p
  · exact ⟨-1, Sc, Sm, by rw [if_neg h1, if_pos h2], by rw [if_pos (Or.inr h2), if_pos rfl], h, Or.inl rfl⟩
  obtain ⟨N, hN, rfl⟩ : ∃ N, N ≤ 99 ∧ p = nI N := by
    have h0 : ¬ p < 0 := fun q => h1 (Int32.lt_iff_toInt_lt.mpr (by
      have := Int32.lt_iff_toInt_lt.mp q
      rw [show (0 : Int32).toInt = 0 from by decide] at this
      rw [show (1 : Int32).toInt = 1 from by decide]
      omega))
    obtain ⟨v, hv, e⟩ := bd_of (B := 99) h0 (Int32.not_lt.mp h2) (by decide)
    exact ⟨v, by omega, e⟩
  rw [if_neg h1, if_neg h2, if_neg (not_or2 h1 h2), if_neg n10, rc_0_0 hC, Option.bind_some, get_eq (i := 12) 12 rfl (by decide) (rc_1_0 hC) rfl, Option.bind_some]
  dsimp only
  rw [w2, rm_0 hM, Option.bind_some, aI_lit (Y := Ym) (c := 1) (i := 1) 1 rfl (by decide) (by decide), Option.bind_some, w3, nI_add]
  by_cases h3 : w0 + N ≤ 999
  · obtain ⟨r, Sc', Sm', r0, r1, r2, r3⟩ := pass_go hRT hX h3 hN N 0 5000 5000 0 Sc Sm rfl (by omega) (by omega) h w2 (by omega)
    exact ⟨nI r, Sc', Sm', by rw [if_pos (show nI (w0 + N) ≤ (999 : Int32) from nI_le h3 (by decide))]; exact r1, by rw [if_pos (show nI (w0 + N) ≤ (999 : Int32) from nI_le h3 (by decide))]; exact r2, r3, Or.inr ⟨r, by omega, rfl⟩⟩
  · have hc : ¬ nI (w0 + N) ≤ (999 : Int32) := nI_ge (a := 999) (b := w0 + N) (by omega) (by omega)
    exact ⟨-1, Sc, Sm, by rw [if_neg hc], by rw [if_neg hc], h, Or.inl rfl⟩
theorem sim_pass_ok : sim_pass (RelW RTx) := by
  intro Sc Sm p h
  obtain ⟨r, Sc', Sm', q1, q2, q3, -⟩ := pass_ok RTx_loc (fun _ _ _ h => h) p h
  exact ⟨r, Sc', Sm', q1, q2, q3⟩

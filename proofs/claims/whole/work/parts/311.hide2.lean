/-! hide, give: the calls -/
theorem ix1 (t : Nat) : ((10 : Int32) + (3 * nI t)) + 1 = nI (10 + 3 * t + 1) := by rw [show (3 : Int32) = nI 3 from rfl, show (10 : Int32) = nI 10 from rfl, pk_mul, nI_add, nI_1]
theorem ix2 (t : Nat) : ((10 : Int32) + (3 * nI t)) + 2 = nI (10 + 3 * t + 2) := by rw [show (3 : Int32) = nI 3 from rfl, show (10 : Int32) = nI 10 from rfl, show (2 : Int32) = nI 2 from rfl, pk_mul, nI_add, nI_add]
theorem move_no {S : xS} (hM : RMr S) {t : Nat} (ht : t < 2) {p : Int32} (hno : gI S 1 (10 + 3 * t + 1) < p ∨ ¬ -p ≤ gI S 1 (10 + 3 * t + 2)) : mX9_move S 0 (nI t) p = some (-1, S) := by
  unfold mX9_move
  rw [rm_0 hM, Option.bind_some, ix1, ix2, aI_nI (Y := Ym) (c := 1) (by show _ < 486; omega) (by decide), Option.bind_some, Option.bind_some, aI_nI (Y := Ym) (c := 1) (by show _ < 486; omega) (by decide), Option.bind_some]
  by_cases h1 : gI S 1 (10 + 3 * t + 1) < p
  · rw [if_pos h1]
  · rw [if_neg h1, if_neg (hno.elim (fun q => absurd q h1) id)]
theorem move_yes {S S' : xS} (hM : RMr S) (hM' : RMr S') {t : Nat} (ht : t < 2) {p : Int32} (h1 : ¬ gI S 1 (10 + 3 * t + 1) < p) (h2 : -p ≤ gI S 1 (10 + 3 * t + 2)) (hk : mX9_keep S 0 = some S') : mX9_move S 0 (nI t) p = some (gI S' 1 (10 + 3 * t + 1) - p, pI (pI S' 1 (10 + 3 * t + 1) (gI S' 1 (10 + 3 * t + 1) - p)) 1 (10 + 3 * t + 2) (gI S' 1 (10 + 3 * t + 2) + p)) := by
  unfold mX9_move
  have hM2 : RMr (pI S' 1 (10 + 3 * t + 1) (gI S' 1 (10 + 3 * t + 1) - p)) := hM'.ofR rfl
  have hM3 : RMr (pI (pI S' 1 (10 + 3 * t + 1) (gI S' 1 (10 + 3 * t + 1) - p)) 1 (10 + 3 * t + 2) (gI S' 1 (10 + 3 * t + 2) + p)) := hM'.ofR rfl
  rw [rm_0 hM, Option.bind_some, ix1, ix2, aI_nI (Y := Ym) (c := 1) (by show _ < 486; omega) (by decide), Option.bind_some, if_neg h1, Option.bind_some, aI_nI (Y := Ym) (c := 1) (by show _ < 486; omega) (by decide), Option.bind_some, if_pos h2, hk, Option.bind_some, rm_0 hM', Option.bind_some, aI_nI (Y := Ym) (c := 1) (by show _ < 486; omega) (by decide), Option.bind_some, sI_nI (Y := Ym) (c := 1) (by show _ < 486; omega) (by decide), Option.bind_some, rm_0 hM2, Option.bind_some, aI_nI (Y := Ym) (c := 1) (by show _ < 486; omega) (by decide), Option.bind_some, sI_nI (Y := Ym) (c := 1) (by show _ < 486; omega) (by decide), Option.bind_some, gI_nk S' 1 _ _ (by omega), rm_0 hM3, Option.bind_some, aI_nI (Y := Ym) (c := 1) (by show _ < 486; omega) (by decide), Option.bind_some, gI_nk _ _ _ _ (by omega), gI_eq]
theorem k19 {k : Int32} (h1 : ¬ k < 1) (h2 : ¬ 9 < k) : ∃ v, 1 ≤ v ∧ v ≤ 9 ∧ k = nI v := by
  have h0 : ¬ k < 0 := fun q => h1 (Int32.lt_iff_toInt_lt.mpr (by
    have := Int32.lt_iff_toInt_lt.mp q
    rw [show (0 : Int32).toInt = 0 from by decide] at this
    rw [show (1 : Int32).toInt = 1 from by decide]
    omega))
  obtain ⟨v, hv, e⟩ := bd_of (B := 9) h0 (Int32.not_lt.mp h2) (by decide)
  refine ⟨v, ?_, by omega, e⟩
  rcases Nat.eq_zero_or_pos v with z | z
  · subst z
    exact absurd (show k < 1 by rw [e]; decide) h1
  · exact z
theorem neg_le {k q : Nat} (hk : k ≤ 9) (hq : q ≤ 60) : -(nI k) ≤ nI q := by
  rw [Int32.le_iff_toInt_le, sb_negT (by omega), nI_toInt (by omega)]
  omega
theorem not_lt_neg {k l : Nat} (hk : k ≤ 9) (hl : l ≤ 60) : ¬ nI l < -(nI k) := by
  intro h
  have := Int32.lt_iff_toInt_lt.mp h
  rw [sb_negT (by omega), nI_toInt (by omega)] at this
  omega
theorem hide_ok {RT : xS → xS → Nat → Prop} (hRT : RTloc RT) {Sc Sm : xS} (p k : Int32) (h : RelW RT Sc Sm) : ∃ (r : Int32) (Sc' Sm' : xS), mX8_hide Sc 0 p k = some (r, Sc') ∧ mX9_hide Sm 0 p k = some (r, Sm') ∧ RelW RT Sc' Sm' ∧ (r = -1 ∨ ∃ v, v ≤ 60 ∧ r = nI v) := by
  have hC := h.1
  have hM := h.2.1
  obtain ⟨nS, nT, ns, sc, nx, nS', nT', ns', sc', nx', hV, hV', hT, hRt⟩ := h.2.2.2.1
  have a9 := hV.2.2.2.2.2.2.2.2.1
  have a10 := hV.2.2.2.2.2.2.2.2.2.1
  unfold mX8_hide mX9_hide
  rcases (tab_cases p).symm with c | ⟨t, ht, rfl, c⟩
  · exact ⟨-1, Sc, Sm, by rw [(c Sc).1, Option.bind_some, if_pos rfl], by rw [(c Sm).2, Option.bind_some, if_pos rfl], h, Or.inl rfl⟩
  obtain ⟨d, l, q, hd, hlq, e0, e1, e2⟩ := tab_at a9 ht
  have e1 : gI Sc 2 (3 * t + 1) = nI l := e1
  have e2 : gI Sc 2 (3 * t + 2) = nI q := e2
  have f1 : gI Sm 1 (10 + 3 * t + 1) = nI l := (a10.2.2 (3 * t + 1) (by omega)).trans e1
  have f2 : gI Sm 1 (10 + 3 * t + 2) = nI q := (a10.2.2 (3 * t + 2) (by omega)).trans e2
  rw [(c Sc).1, (c Sm).2, Option.bind_some, Option.bind_some, if_neg n10, if_neg n10, leftAt_eq ht, Option.bind_some]
  dsimp only
  rw [hiddenAt_eq ht, Option.bind_some, isIn_eq, Option.bind_some]
  dsimp only
  by_cases h1 : k < 1
  · exact ⟨-1, Sc, Sm, by rw [moved_no hC (by omega) e1 (Or.inl h1), Option.bind_some, if_pos rfl], by rw [if_pos (Or.inl h1), if_pos rfl], h, Or.inl rfl⟩
  by_cases h2 : 9 < k
  · exact ⟨-1, Sc, Sm, by rw [moved_no hC (by omega) e1 (Or.inr (Or.inl h2)), Option.bind_some, if_pos rfl], by rw [if_pos (Or.inr h2), if_pos rfl], h, Or.inl rfl⟩
  rw [if_neg (not_or2 h1 h2), if_neg n10]
  by_cases h3' : ¬ k ≤ nI l
  · refine ⟨-1, Sc, Sm, by rw [moved_no hC (by omega) e1 (Or.inr (Or.inr h3')), Option.bind_some, if_pos rfl], ?_, h, Or.inl rfl⟩
    rw [move_no hM ht (Or.inl (by rw [f1]; exact nle_lt h3'))]
    rfl
  have h3 : k ≤ nI l := Decidable.of_not_not h3'
  obtain ⟨v, v1, v2, rfl⟩ := k19 h1 h2
  have hvl : v ≤ l := (nI_leI (by omega) (by omega)).mp h3
  obtain ⟨Sc', Sm', k1, k2, k3, ⟨k4, k5, k6⟩, ⟨k7, k8, k9⟩⟩ := keep_ok hRT h
  have r1 : gI Sc' 2 (3 * t + 1) = nI l := (congrFun (k5 2 (by decide) (by decide)) _).trans e1
  have r2 : gI Sc' 2 (3 * t + 2) = nI q := (congrFun (k5 2 (by decide) (by decide)) _).trans e2
  have r0 : gI Sc' 2 (3 * t) = nI d := (congrFun (k5 2 (by decide) (by decide)) _).trans e0
  have s0 : gI Sm' 1 (10 + 3 * t) = nI d := (k9 _ (by omega) (by omega)).trans ((a10.2.2 (3 * t) (by omega)).trans e0)
  have s1 : gI Sm' 1 (10 + 3 * t + 1) = nI l := (k9 _ (by omega) (by omega)).trans f1
  have s2 : gI Sm' 1 (10 + 3 * t + 2) = nI q := (k9 _ (by omega) (by omega)).trans f2
  have g1 : nI l - nI v = nI (l - v) := pk_sub hvl
  have g2 : nI q + nI v = nI (q + v) := nI_add q v
  refine ⟨nI (l - v), pI (pI Sc' 2 (3 * t + 1) (nI (l - v))) 2 (3 * t + 2) (nI (q + v)), pI (pI Sm' 1 (10 + 3 * t + 1) (nI (l - v))) 1 (10 + 3 * t + 2) (nI (q + v)), ?_, ?_, ?_, Or.inr ⟨l - v, by omega, rfl⟩⟩
  · rw [moved_yes hC k3.1 (by omega) (by omega) (by omega) e1 h1 h2 h3 k1, Option.bind_some, if_neg n10]
    dsimp only
    rw [r1, r2, g1, g2, rc_0_0 (k3.1.ofR (S' := pI (pI Sc' 2 (3 * t + 1) (nI (l - v))) 2 (3 * t + 2) (nI (q + v))) rfl), Option.bind_some, leftAt_eq ht, Option.bind_some]
    dsimp only
    rw [get_eq (3 * t + 1) rfl (by omega) (rc_1_0 (k3.1.ofR (S' := pI (pI Sc' 2 (3 * t + 1) (nI (l - v))) 2 (3 * t + 2) (nI (q + v))) rfl)) rfl, gI_nk _ _ _ _ (by omega), gI_eq]
    rfl
  · rw [move_yes hM k3.2.1 ht (by rw [f1]; exact le_nlt h3) (by rw [f2]; exact neg_le v2 (by omega)) k2, s1, s2, g1, g2]
    rfl
  · refine RelW.now hRT k3 rfl rfl (fun c hc => by show gI (pI (pI Sc' 2 _ _) 2 _ _) c = gI Sc' c; rw [gIf_ne _ _ _ _ (by omega), gIf_ne _ _ _ _ (by omega)]) (fun c hc => by show gI (pI (pI Sm' 1 _ _) 1 _ _) c = gI Sm' c; rw [gIf_ne _ _ _ _ hc, gIf_ne _ _ _ _ hc]) (by rw [gI_ne _ _ _ _ (by decide), gI_ne _ _ _ _ (by decide)]) (fun mS mT ms mc mx hVm => ⟨mS, ms, mc, mx, ?_⟩)
    refine hVm.tab (t := t) (d := d) (l := l - v) (q := q + v) ht hd (by omega) (fun c hc => by rw [gIf_ne _ _ _ _ hc, gIf_ne _ _ _ _ hc]) (by rw [gI_nk _ _ _ _ (by omega), gI_nk _ _ _ _ (by omega)]; exact r0) (by rw [gI_nk _ _ _ _ (by omega), gI_eq]) (gI_eq _ _ _ _) (fun j _ j1 j2 => by rw [gI_nk _ _ _ _ j2, gI_nk _ _ _ _ j1]) (by rw [gI_nk _ _ _ _ (by omega), gI_nk _ _ _ _ (by omega)]; exact s0) (by rw [gI_nk _ _ _ _ (by omega), gI_eq]) (gI_eq _ _ _ _) (fun j _ j1 j2 => by rw [gI_nk _ _ _ _ j2, gI_nk _ _ _ _ j1])
theorem sim_hide_ok {RT : xS → xS → Nat → Prop} (hRT : RTloc RT) : sim_hide (RelW RT) := by
  intro Sc Sm p k h
  obtain ⟨r, Sc', Sm', q1, q2, q3, -⟩ := hide_ok hRT p k h
  exact ⟨r, Sc', Sm', q1, q2, q3⟩
theorem give_ok {RT : xS → xS → Nat → Prop} (hRT : RTloc RT) {Sc Sm : xS} (p k : Int32) (h : RelW RT Sc Sm) : ∃ (r : Int32) (Sc' Sm' : xS), mX8_give Sc 0 p k = some (r, Sc') ∧ mX9_give Sm 0 p k = some (r, Sm') ∧ RelW RT Sc' Sm' ∧ (r = -1 ∨ ∃ v, v ≤ 60 ∧ r = nI v) := by
  have hC := h.1
  have hM := h.2.1
  obtain ⟨nS, nT, ns, sc, nx, nS', nT', ns', sc', nx', hV, hV', hT, hRt⟩ := h.2.2.2.1
  have a9 := hV.2.2.2.2.2.2.2.2.1
  have a10 := hV.2.2.2.2.2.2.2.2.2.1
  unfold mX8_give mX9_give
  rcases (tab_cases p).symm with c | ⟨t, ht, rfl, c⟩
  · exact ⟨-1, Sc, Sm, by rw [(c Sc).1, Option.bind_some, if_pos rfl], by rw [(c Sm).2, Option.bind_some, if_pos rfl], h, Or.inl rfl⟩
  obtain ⟨d, l, q, hd, hlq, e0, e1, e2⟩ := tab_at a9 ht
  have e1 : gI Sc 2 (3 * t + 1) = nI l := e1
  have e2 : gI Sc 2 (3 * t + 2) = nI q := e2
  have f1 : gI Sm 1 (10 + 3 * t + 1) = nI l := (a10.2.2 (3 * t + 1) (by omega)).trans e1
  have f2 : gI Sm 1 (10 + 3 * t + 2) = nI q := (a10.2.2 (3 * t + 2) (by omega)).trans e2
  rw [(c Sc).1, (c Sm).2, Option.bind_some, Option.bind_some, if_neg n10, if_neg n10, hiddenAt_eq ht, Option.bind_some]
  dsimp only
  rw [leftAt_eq ht, Option.bind_some, isIn_eq, Option.bind_some]
  dsimp only
  by_cases h1 : k < 1
  · exact ⟨-1, Sc, Sm, by rw [moved_no hC (by omega) e2 (Or.inl h1), Option.bind_some, if_pos rfl], by rw [if_pos (Or.inl h1), if_pos rfl], h, Or.inl rfl⟩
  by_cases h2 : 9 < k
  · exact ⟨-1, Sc, Sm, by rw [moved_no hC (by omega) e2 (Or.inr (Or.inl h2)), Option.bind_some, if_pos rfl], by rw [if_pos (Or.inr h2), if_pos rfl], h, Or.inl rfl⟩
  rw [if_neg (not_or2 h1 h2), if_neg n10]
  obtain ⟨v, v1, v2, rfl⟩ := k19 h1 h2
  by_cases h3' : ¬ nI v ≤ nI q
  · refine ⟨-1, Sc, Sm, by rw [moved_no hC (by omega) e2 (Or.inr (Or.inr h3')), Option.bind_some, if_pos rfl], ?_, h, Or.inl rfl⟩
    rw [move_no hM ht (Or.inr (by rw [f2, Int32.neg_neg]; exact h3'))]
    rfl
  have h3 : nI v ≤ nI q := Decidable.of_not_not h3'
  have hvq : v ≤ q := (nI_leI (by omega) (by omega)).mp h3
  obtain ⟨Sc', Sm', k1, k2, k3, ⟨k4, k5, k6⟩, ⟨k7, k8, k9⟩⟩ := keep_ok hRT h
  have r1 : gI Sc' 2 (3 * t + 1) = nI l := (congrFun (k5 2 (by decide) (by decide)) _).trans e1
  have r2 : gI Sc' 2 (3 * t + 2) = nI q := (congrFun (k5 2 (by decide) (by decide)) _).trans e2
  have r0 : gI Sc' 2 (3 * t) = nI d := (congrFun (k5 2 (by decide) (by decide)) _).trans e0
  have s0 : gI Sm' 1 (10 + 3 * t) = nI d := (k9 _ (by omega) (by omega)).trans ((a10.2.2 (3 * t) (by omega)).trans e0)
  have s1 : gI Sm' 1 (10 + 3 * t + 1) = nI l := (k9 _ (by omega) (by omega)).trans f1
  have s2 : gI Sm' 1 (10 + 3 * t + 2) = nI q := (k9 _ (by omega) (by omega)).trans f2
  have g1 : nI l + nI v = nI (l + v) := nI_add l v
  have g2 : nI q - nI v = nI (q - v) := pk_sub hvq
  refine ⟨nI (l + v), pI (pI Sc' 2 (3 * t + 2) (nI (q - v))) 2 (3 * t + 1) (nI (l + v)), pI (pI Sm' 1 (10 + 3 * t + 1) (nI (l + v))) 1 (10 + 3 * t + 2) (nI (q - v)), ?_, ?_, ?_, Or.inr ⟨l + v, by omega, rfl⟩⟩
  · rw [moved_yes hC k3.1 (by omega) (by omega) (by omega) e2 h1 h2 h3 k1, Option.bind_some, if_neg n10]
    dsimp only
    rw [r1, r2, g1, g2, rc_0_0 (k3.1.ofR (S' := pI (pI Sc' 2 (3 * t + 2) (nI (q - v))) 2 (3 * t + 1) (nI (l + v))) rfl), Option.bind_some, leftAt_eq ht, Option.bind_some]
    dsimp only
    rw [get_eq (3 * t + 1) rfl (by omega) (rc_1_0 (k3.1.ofR (S' := pI (pI Sc' 2 (3 * t + 2) (nI (q - v))) 2 (3 * t + 1) (nI (l + v))) rfl)) rfl, gI_eq]
    rfl
  · rw [move_yes hM k3.2.1 ht (by rw [f1]; exact not_lt_neg v2 (by omega)) (by rw [f2, Int32.neg_neg]; exact h3) k2, s1, s2, i_sub_neg, i_add_neg, g1, g2]
    rfl
  · refine RelW.now hRT k3 rfl rfl (fun c hc => by show gI (pI (pI Sc' 2 _ _) 2 _ _) c = gI Sc' c; rw [gIf_ne _ _ _ _ (by omega), gIf_ne _ _ _ _ (by omega)]) (fun c hc => by show gI (pI (pI Sm' 1 _ _) 1 _ _) c = gI Sm' c; rw [gIf_ne _ _ _ _ hc, gIf_ne _ _ _ _ hc]) (by rw [gI_ne _ _ _ _ (by decide), gI_ne _ _ _ _ (by decide)]) (fun mS mT ms mc mx hVm => ⟨mS, ms, mc, mx, ?_⟩)
    refine hVm.tab (t := t) (d := d) (l := l + v) (q := q - v) ht hd (by omega) (fun c hc => by rw [gIf_ne _ _ _ _ hc, gIf_ne _ _ _ _ hc]) (by rw [gI_nk _ _ _ _ (by omega), gI_nk _ _ _ _ (by omega)]; exact r0) (gI_eq _ _ _ _) (by rw [gI_nk _ _ _ _ (by omega), gI_eq]) (fun j _ j1 j2 => by rw [gI_nk _ _ _ _ j1, gI_nk _ _ _ _ j2]) (by rw [gI_nk _ _ _ _ (by omega), gI_nk _ _ _ _ (by omega)]; exact s0) (by rw [gI_nk _ _ _ _ (by omega), gI_eq]) (gI_eq _ _ _ _) (fun j _ j1 j2 => by rw [gI_nk _ _ _ _ j2, gI_nk _ _ _ _ j1])
theorem sim_give_ok {RT : xS → xS → Nat → Prop} (hRT : RTloc RT) : sim_give (RelW RT) := by
  intro Sc Sm p k h
  obtain ⟨r, Sc', Sm', q1, q2, q3, -⟩ := give_ok hRT p k h
  exact ⟨r, Sc', Sm', q1, q2, q3⟩

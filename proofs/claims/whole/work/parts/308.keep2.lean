/-! keep: the oldest step goes; remember; the two are alike -/
theorem keep_shift : ∀ (d i n : Nat) (S : xS), RMr S → d + i = 435 → d < n → ∃ S', lX9_keep_14 n S 0 (nI i) = lX9_keep_14 (n - d) S' 0 (nI 435) ∧ S'.2 = S.2 ∧ (∀ c, c ≠ 1 → gI S' c = gI S c) ∧ (∀ k, (k < 36 + i ∨ 471 ≤ k) → gI S' 1 k = gI S 1 k) ∧ (∀ t, i ≤ t → t < 435 → gI S' 1 (36 + t) = gI S 1 (51 + t)) := by
  intro d
  induction d with
  | zero =>
    intro i n S hM hi hn
    have hi : i = 435 := by omega
    subst hi
    exact ⟨S, rfl, rfl, fun _ _ => rfl, fun _ _ => rfl, fun t h1 h2 => absurd h2 (by omega)⟩
  | succ d ih =>
    intro i n S hM hi hn
    obtain ⟨n, rfl⟩ : ∃ m, n = m + 1 := ⟨n - 1, by omega⟩
    obtain ⟨S', e1, e2, e3, e4, e5⟩ := ih (i + 1) n (pI S 1 (36 + i) (gI S 1 (51 + i))) (hM.ofR rfl) (by omega) (by omega)
    have f1 : (51 : Int32) + nI i = nI (51 + i) := nI_add 51 i
    have f2 : (36 : Int32) + nI i = nI (36 + i) := nI_add 36 i
    refine ⟨S', ?_, e2, fun c hc => (e3 c hc).trans (gIf_ne _ _ _ _ hc), fun k hk => (e4 k (by omega)).trans (gI_nk _ _ _ _ (by omega)), fun t h1 h2 => ?_⟩
    · rw [lX9_keep_14.eq_2, if_neg (show ¬ (435 : Int32) ≤ nI i from nI_ge (a := i) (b := 435) (by omega) (by decide)), rm_0 hM, Option.bind_some, Option.bind_some, f1, aI_nI (Y := Ym) (c := 1) (by show _ < 486; omega) (by decide), Option.bind_some, f2, sI_nI (Y := Ym) (c := 1) (by show _ < 486; omega) (by decide), Option.bind_some, nI_1, e1]
      congr 1
      omega
    · by_cases ht : t = i
      · subst ht
        rw [e4 _ (by omega), gI_eq]
      · rw [e5 t (by omega) h2, gI_nk _ _ _ _ (by omega)]
/-- which old step the j-th is, behind the keeping of a new one -/
def oldj (ns j : Nat) : Nat := if ns = 30 then j + 1 else j
def qof (ns : Nat) : Nat := if ns = 30 then 29 else ns
theorem keep_spec {S : xS} (hM : RMr S) {ns : Nat} (hn : ns ≤ 30) (h6 : gI S 1 6 = nI ns) : ∃ S', mX9_keep S 0 = some S' ∧ S'.2 = S.2 ∧ (∀ c, c ≠ 1 → gI S' c = gI S c) ∧ gI S' 1 6 = nI (qof ns + 1) ∧ (∀ k, k < 36 → k ≠ 6 → gI S' 1 k = gI S 1 k) ∧ (∀ j i, j < qof ns → i < 15 → gI S' 1 (36 + 15 * j + i) = gI S 1 (36 + 15 * oldj ns j + i)) ∧ gI S' 1 (36 + 15 * qof ns) = gI S 1 0 ∧ gI S' 1 (36 + 15 * qof ns + 1) = gI S 1 1 ∧ gI S' 1 (36 + 15 * qof ns + 2) = gI S 1 3 ∧ (∀ t, t < 6 → gI S' 1 (36 + 15 * qof ns + 3 + t) = gI S 1 (10 + t) ∧ gI S' 1 (36 + 15 * qof ns + 9 + t) = gI S 1 (16 + 2 * t + 1)) := by
  unfold mX9_keep
  rw [rm_0 hM, Option.bind_some, aI_lit (Y := Ym) (c := 1) (i := 6) 6 rfl (by decide) (by decide), Option.bind_some, h6]
  by_cases h30 : ns = 30
  · subst h30
    rw [if_pos (by decide)]
    obtain ⟨S1, e1, e2, e3, e4, e5⟩ := keep_shift 435 0 5000 S hM rfl (by decide)
    have hM1 : RMr S1 := hM.ofR (by rw [e2])
    have g6 : gI S1 1 6 = nI 30 := (e4 6 (by omega)).trans h6
    obtain ⟨S', q1, q2, q3, q4, q5, q6, q7, q8, q9⟩ := keepA (S := pI S1 1 6 (nI 29)) (hM1.ofR rfl) (q := 29) (by decide) (gI_eq _ _ _ _)
    have lo : ∀ k, k < 36 → k ≠ 6 → gI (pI S1 1 6 (nI 29)) 1 k = gI S 1 k := fun k h1 h2 => by rw [gI_nk _ _ _ _ h2, e4 k (by omega)]
    refine ⟨S', ?_, q2.trans e2, fun c hc => (q3 c hc).trans ((gIf_ne _ _ _ _ hc).trans (e3 c hc)), q4, fun k h1 h2 => (q5 k h2 (by omega)).trans (lo k h1 h2), fun j i hj hi => ?_, q6.trans (lo 0 (by decide) (by decide)), q7.trans (lo 1 (by decide) (by decide)), q8.trans (lo 3 (by decide) (by decide)), fun t ht => ⟨(q9 t ht).1.trans (lo _ (by omega) (by omega)), (q9 t ht).2.trans (lo _ (by omega) (by omega))⟩⟩
    · rw [show (0 : Int32) = nI 0 from rfl, e1, lX9_keep_14.eq_2, if_pos (by decide), rm_0 hM1, Option.bind_some, aI_lit (Y := Ym) (c := 1) (i := 6) 6 rfl (by decide) (by decide), Option.bind_some, g6, show nI 30 - 1 = nI 29 from by decide, sI_lit (Y := Ym) (c := 1) (i := 6) 6 rfl (by decide) (by decide), Option.bind_some]
      exact q1
    · have hj : j < 29 := hj
      have ho : oldj 30 j = j + 1 := rfl
      rw [ho, q5 _ (by omega) (by omega), gI_nk _ _ _ _ (by omega), show 36 + 15 * j + i = 36 + (15 * j + i) by omega, e5 _ (by omega) (by omega)]
      congr 1
      omega
  · have hq : qof ns = ns := if_neg h30
    rw [if_neg (show ¬ nI ns = (30 : Int32) from fun q => h30 ((nI_eq (by omega) (by decide)).mp q)), hq]
    obtain ⟨S', q1, q2, q3, q4, q5, q6, q7, q8, q9⟩ := keepA hM (q := ns) (by omega) h6
    refine ⟨S', q1, q2, q3, q4, fun k h1 h2 => q5 k h2 (by omega), fun j i hj hi => ?_, q6, q7, q8, q9⟩
    rw [show oldj ns j = j from if_neg h30]
    exact q5 _ (by omega) (by omega)
theorem remember_spec {S : xS} (hC : RCr S) {ns nx : Nat} (hn : ns ≤ 30) (hx : nx < 30) (h2 : gI S 1 2 = nI nx) (h3 : gI S 1 3 = nI ns) : ∃ S', mX1_remember S 1 = some S' ∧ S'.2 = S.2 ∧ (∀ c, c ≠ 1 → c ≠ 3 → gI S' c = gI S c) ∧ (∀ k, k ≠ 2 → k ≠ 3 → gI S' 1 k = gI S 1 k) ∧ gI S' 1 2 = nI ((nx + 1) % 30) ∧ gI S' 1 3 = nI (qof ns + 1) ∧ (∀ k, k < 14 → gI S' 3 (nx * 14 + k) = gI S 2 k) ∧ (∀ k, (k < nx * 14 ∨ nx * 14 + 14 ≤ k) → gI S' 3 k = gI S 3 k) := by
  have e14 : nI nx * 14 = nI (nx * 14) := pk_mul nx 14
  have hcp : cpI Yc S 2 0 3 (nI nx * 14) 14 = some (fun c => if c = 3 then va_cpy (S.1 2) (S.1 3) 0 (nx * 14) 14 else S.1 c, S.2) := by
    unfold cpI
    rw [e14, nI_clamp (show nx * 14 < 2 ^ 31 by omega), sb_cl0, show ((14 : Int32)).toNatClampNeg = 14 from by decide, if_neg]
    simp only [not_or]
    refine ⟨by decide, nI_pos (by omega), by decide, by decide, ?_⟩
    show ¬ 420 < nx * 14 + 14
    omega
  obtain ⟨S5, e5⟩ : ∃ z : xS, z = (fun c => if c = 3 then va_cpy (S.1 2) (S.1 3) 0 (nx * 14) 14 else S.1 c, S.2) := ⟨_, rfl⟩
  have c5 : ∀ c, c ≠ 3 → gI S5 c = gI S c := fun c hc => by rw [e5]; exact if_neg hc
  have q5 : ∀ k, gI S5 3 k = va_cpy (S.1 2) (S.1 3) 0 (nx * 14) 14 k := fun k => by
    rw [e5]
    show (if 3 = 3 then va_cpy (S.1 2) (S.1 3) 0 (nx * 14) 14 else S.1 3) k = _
    rw [if_pos rfl]
  have erem : (nI nx + 1) - (nI nx + 1) / 30 * 30 = nI ((nx + 1) % 30) := by rw [nI_1]; exact pk_rem (by omega) (by decide) (by decide)
  have emin : (if (30 : Int32) < nI ns + 1 then (30 : Int32) else nI ns + 1) = nI (qof ns + 1) := by
    rw [nI_1]
    by_cases h30 : ns = 30
    · subst h30
      decide
    · rw [if_neg (show ¬ (30 : Int32) < nI (ns + 1) from nI_nlt (a := 30) (b := ns + 1) (by omega) (by decide)), show qof ns = ns from if_neg h30]
  refine ⟨pI (pI S5 1 2 (nI ((nx + 1) % 30))) 1 3 (nI (qof ns + 1)), ?_, ?_, ?_, ?_, ?_, gI_eq _ _ _ _, ?_, ?_⟩
  · unfold mX1_remember
    rw [h2, if_neg (nI_pos (by omega)), if_pos (show nI nx < (30 : Int32) from nI_lt hx (by decide)), rc_1_0 hC, Option.bind_some, rc_1_1 hC, Option.bind_some, hcp, Option.bind_some, ← e5, xlet_eq, xlet_eq, c5 1 (by decide), h2, erem, gI_nk _ _ _ _ (by decide), c5 1 (by decide), h3, emin]
  · rw [e5]; rfl
  · intro c h1 h2
    rw [gIf_ne _ _ _ _ h1, gIf_ne _ _ _ _ h1, c5 c h2]
  · intro k h1 h2
    rw [gI_nk _ _ _ _ h2, gI_nk _ _ _ _ h1, c5 1 (by decide)]
  · rw [gI_nk _ _ _ _ (by decide), gI_eq]
  · intro k hk
    rw [gI_ne _ _ _ _ (by decide), gI_ne _ _ _ _ (by decide), q5, pk_cpy_in (by omega) (by omega), Nat.zero_add, Nat.add_sub_cancel_left]
    rfl
  · intro k hk
    rw [gI_ne _ _ _ _ (by decide), gI_ne _ _ _ _ (by decide), q5, pk_cpy_out (by omega)]
    rfl
/-- remember and keep, side by side: nothing but the steps changes -/
theorem keep_ok {RT : xS → xS → Nat → Prop} (hRT : RTloc RT) {Sc Sm : xS} (h : RelW RT Sc Sm) : ∃ Sc' Sm', mX1_remember Sc 1 = some Sc' ∧ mX9_keep Sm 0 = some Sm' ∧ RelW RT Sc' Sm' ∧ (Sc'.2 = Sc.2 ∧ (∀ c, c ≠ 1 → c ≠ 3 → gI Sc' c = gI Sc c) ∧ (∀ k, k ≠ 2 → k ≠ 3 → gI Sc' 1 k = gI Sc 1 k)) ∧ (Sm'.2 = Sm.2 ∧ (∀ c, c ≠ 1 → gI Sm' c = gI Sm c) ∧ (∀ k, k < 36 → k ≠ 6 → gI Sm' 1 k = gI Sm 1 k)) := by
  have hC := h.1
  have hM := h.2.1
  obtain ⟨nS, nT, ns, sc, nx, nS', nT', ns', sc', nx', hV, hV', hT, hRt⟩ := h.2.2.2.1
  obtain ⟨a1, a2, a3, a4, a5, a6, a7, a8, a9, a10, a11, a12, a13⟩ := id hV
  obtain ⟨n1, n2, n3, n4, n5⟩ := id a1
  obtain ⟨Sc', p1, p2, p3, p4, p5, p6, p7, p8⟩ := remember_spec hC n3 n5 a6 a4.1
  obtain ⟨Sm', q1, q2, q3, q4, q5, q6, q7, q8, q9, q10⟩ := keep_spec hM n3 a4.2
  have hq30 : qof ns < 30 := by unfold qof; split <;> omega
  refine ⟨Sc', Sm', p1, q1, ?_, ⟨p2, p3, p4⟩, ⟨q2, q3, q5⟩⟩
  refine RelW.now hRT h (by rw [p2]) (by rw [q2]) (fun c hc => p3 c (by omega) (by omega)) q3 (p4 8 (by decide) (by decide)) (fun mS mT ms mc mx hVm => ?_)
  have e1 : mS = nS := (nI_eq (by have := hVm.1; omega) (by omega)).mp (hVm.2.1.1.symm.trans a2.1)
  have e2 : ms = ns := (nI_eq (by have := hVm.1; omega) (by omega)).mp (hVm.2.2.2.1.1.symm.trans a4.1)
  have e3 : mx = nx := (nI_eq (by have := hVm.1; omega) (by omega)).mp (hVm.2.2.2.2.2.1.symm.trans a6)
  subst e1 e2 e3
  obtain ⟨b1, b2, b3, b4, b5, b6, b7, b8, b9, b10, b11, b12, b13⟩ := hVm
  refine ⟨mS, qof ms + 1, mc, (mx + 1) % 30, ?_⟩
  have r2 : gI Sc' 2 = gI Sc 2 := p3 2 (by decide) (by decide)
  unfold RV
  rw [p4 5 (by decide) (by decide), p4 7 (by decide) (by decide), p6, p4 10 (by decide) (by decide), p5, p4 6 (by decide) (by decide), p4 8 (by decide) (by decide), q4, q5 0 (by decide) (by decide), q5 1 (by decide) (by decide), q5 2 (by decide) (by decide), q5 3 (by decide) (by decide), q5 4 (by decide) (by decide), q5 5 (by decide) (by decide), q5 7 (by decide) (by decide), r2, p3 (1 + 3) (by decide) (by decide), p3 (1 + 4) (by decide) (by decide)]
  refine ⟨⟨n1, b1.2.1, by omega, b1.2.2.2.1, Nat.mod_lt _ (by decide)⟩, b2, b3, ⟨rfl, rfl⟩, b5, rfl, b7, b8, b9, ⟨b10.1, b10.2.1, fun k hk => ?_⟩, fun s hs => ?_, fun k hk => ?_, fun j hj => ?_⟩
  · rw [q5 _ (by omega) (by omega)]
    exact b10.2.2 k hk
  · rw [q5 _ (by omega) (by omega), q5 _ (by omega) (by omega)]
    exact b11 s hs
  · rw [q5 _ (by have := b1.2.2.2.1; omega) (by omega)]
    exact b12 k hk
  · by_cases hjq : j < qof ms
    · have ho : oldj ms j < ms := by unfold oldj qof at *; split at hjq <;> split <;> omega
      have hr : rg ((mx + 1) % 30) (qof ms + 1) j = rg mx ms (oldj ms j) := by unfold rg oldj qof at *; split at hjq <;> simp_all <;> omega
      have hne : rg mx ms (oldj ms j) ≠ mx := by unfold rg oldj qof at *; split at hjq <;> simp_all <;> omega
      obtain ⟨hs, c1, c2, c3, c4, c5, c6, c7⟩ := b13 (oldj ms j) ho
      rw [hr]
      have cl : ∀ k, k < 14 → gI Sc' (1 + 2) (rg mx ms (oldj ms j) * 14 + k) = gI Sc (1 + 2) (rg mx ms (oldj ms j) * 14 + k) := fun k hk => p8 _ (by omega)
      refine ⟨hs, c1, ?_, c3.congr (fun k hk => cl k hk), ?_, ?_, fun k hk => ?_, fun t ht => ?_⟩
      · exact (q6 j 0 hjq (by decide)).trans c2
      · rw [q6 j 1 hjq (by decide), cl 12 (by decide)]; exact c4
      · rw [q6 j 2 hjq (by decide), cl 13 (by decide)]; exact c5
      · rw [Nat.add_assoc, q6 j (3 + k) hjq (by omega), cl k (by omega), ← Nat.add_assoc]; exact c6 k hk
      · rw [show 36 + 15 * j + 9 + t = 36 + 15 * j + (9 + t) by omega, q6 j (9 + t) hjq (by omega), show rg mx ms (oldj ms j) * 14 + 6 + t = rg mx ms (oldj ms j) * 14 + (6 + t) by omega, cl (6 + t) (by omega), show 36 + 15 * oldj ms j + (9 + t) = 36 + 15 * oldj ms j + 9 + t by omega, show rg mx ms (oldj ms j) * 14 + (6 + t) = rg mx ms (oldj ms j) * 14 + 6 + t by omega]; exact c7 t ht
    · have hje : j = qof ms := by omega
      subst hje
      have hr : rg ((mx + 1) % 30) (qof ms + 1) (qof ms) = mx := by unfold rg; omega
      rw [hr]
      refine ⟨mS, Nat.le_refl _, q7.trans b2.2, b9.congr (fun k hk => p7 k hk), ?_, ?_, fun k hk => ?_, fun t ht => ?_⟩
      · rw [q8]; exact b10.1.trans (p7 12 (by decide)).symm
      · rw [q9]; exact b10.2.1.trans (p7 13 (by decide)).symm
      · rw [(q10 k hk).1]; exact (b10.2.2 k hk).trans (p7 k (by omega)).symm
      · rw [(q10 t (by omega)).2, Nat.add_assoc (mx * 14)]; exact (b11 t ht).2.1.trans (p7 (6 + t) (by omega)).symm

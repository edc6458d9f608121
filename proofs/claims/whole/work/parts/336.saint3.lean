/-! saint: the reference's best seats; the call -/
theorem power_go (S : xS) {k : Nat} (hk : k ≤ 6) : ∀ e i n, e + i = k → e < n → lX9_power_4 n S (nI k) (nI (3 ^ i)) (nI i) = some (nI (3 ^ k), S) := by
  intro e
  induction e with
  | zero =>
    intro i n hi hn
    obtain ⟨n, rfl⟩ : ∃ q, n = q + 1 := ⟨n - 1, by omega⟩
    have hi : i = k := by omega
    subst hi
    rw [lX9_power_4.eq_2, if_pos (nI_le (Nat.le_refl _) (by omega))]
  | succ e ih =>
    intro i n hi hn
    obtain ⟨n, rfl⟩ : ∃ q, n = q + 1 := ⟨n - 1, by omega⟩
    rw [lX9_power_4.eq_2, if_neg (nI_ge (by omega) (by omega)), show nI (3 ^ i) * 3 = nI (3 ^ (i + 1)) from pk_mul _ 3, nI_1]
    exact ih (i + 1) n (by omega) (by omega)
theorem power_m (S : xS) {k : Nat} (hk : k ≤ 6) : mX9_power S (nI k) = some (nI (3 ^ k), S) := power_go S hk k 0 5000 (by omega) (by omega)
theorem p729 {k : Nat} (hk : k ≤ 6) : 3 ^ k ≤ 729 := (Nat.pow_le_pow_right (by decide) hk : 3 ^ k ≤ 3 ^ 6)
theorem seatIn_m {T : xS} (hM : RMr T) {nS x s : Nat} (hn : nS ≤ 6) (h0 : gI T 1 0 = nI nS) (hx : x < 3 ^ nS) (hs : s < nS) : mX9_seatIn T 0 (nI x) (nI s) = some (nI (dg nS x s), T) := by
  have h7 := p729 hn
  have h8 := p729 (k := nS - 1 - s) (by omega)
  have h9 : 0 < 3 ^ (nS - 1 - s) := Nat.pos_of_ne_zero (fun q => by simp at q)
  have h10 : x / 3 ^ (nS - 1 - s) ≤ x := Nat.div_le_self _ _
  unfold mX9_seatIn
  rw [rm_0 hM, Option.bind_some, aI_lit (Y := Ym) (c := 1) (i := 0) 0 rfl (by decide) (by decide), Option.bind_some, h0, show nI nS - 1 - nI s = nI (nS - 1 - s) by rw [show (1 : Int32) = nI 1 from rfl, pk_sub (by omega), pk_sub (by omega)], power_m T (by omega), Option.bind_some]
  dsimp only
  rw [if_neg (nI_ne0 h9 (by omega)), pk_div (by omega) h9 (by omega), show (3 : Int32) = nI 3 from rfl, pk_rem (by omega) (by decide) (by decide)]
  rfl
theorem inner_go {Sc Sm : xS} {nS sc w mi : Nat} {sl : Nat → Nat → Nat → Nat} {ea : Nat → Nat → Nat → Nat → Nat → Nat} (hR : RO Sc Sm nS sc w mi sl ea) {T : xS} (hT : ME Sm T) {t x : Nat} {v2 v3 v4 v5 v6 : Int32} {k75 : xS → Nat → Int32 → Int32 → Int32 → Int32 → Int32 → Int32 → Int32 → Option (Int32 × xS)} (ht : t < 2) (hx : x < 3 ^ nS) : ∀ e i n, e + i = nS → e < n → lX9_saint_98 k75 n T 0 (nI t) v2 v3 v4 v5 v6 (nI x) (nI (stN (dg nS x) t i)) (nI (chN (dg nS x) (csN Sc) i)) (nI i) = lX9_saint_98 k75 (n - e) T 0 (nI t) v2 v3 v4 v5 v6 (nI x) (nI (stN (dg nS x) t nS)) (nI (chN (dg nS x) (csN Sc) nS)) (nI nS) := by
  have hn6 := hR.1.2.2.2.2.2.2.1
  obtain ⟨c1, c2, c3⟩ := csN_ok hR.2.2.1
  have e1 : gI T 1 = gI Sm 1 := hT.2.1 1 (by omega) (by omega)
  have h0 : gI T 1 0 = nI nS := by rw [e1]; exact hR.1.2.2.2.2.2.2.2
  intro e
  induction e with
  | zero =>
    intro i n hi hn
    have hi : i = nS := by omega
    subst hi
    rfl
  | succ e ih =>
    intro i n hi hn
    obtain ⟨n, rfl⟩ : ∃ q, n = q + 1 := ⟨n - 1, by omega⟩
    have hd3 := dg_lt nS x i
    have hst : stN (dg nS x) t i < 64 := set64 (stN_lt (dg nS x) t i) (by omega)
    have hcs : mX9_seatOf T 0 (nI i) = some (nI (csN Sc i), T) := by rw [seatOf_m2 hT.1 (by omega), e1, hR.2.2.2.2.2.1 i (by omega), c2 i (by omega)]
    have hc3 := c1 i
    have h2 := ih (i + 1) n (by omega) (by omega)
    rw [show n + 1 - (e + 1) = n - e by omega, ← h2, lX9_saint_98.eq_2, rm_0 hT.1, Option.bind_some, aI_lit (Y := Ym) (c := 1) (i := 0) 0 rfl (by decide) (by decide), Option.bind_some, h0, if_neg (nI_ge (by omega) (by omega)), seatIn_m hT.1 hn6 h0 hx (by omega), Option.bind_some]
    unfold jX9_saint_131
    dsimp only
    rw [seatIn_m hT.1 hn6 h0 hx (by omega), Option.bind_some]
    dsimp only
    rw [hcs, Option.bind_some, or_c _ hst i (by omega), or_0, show nI (chN (dg nS x) (csN Sc) i) + 0 = nI (chN (dg nS x) (csN Sc) i) from nI_add _ 0, nI_1, nI_1]
    dsimp only
    rw [show stN (dg nS x) t (i + 1) = if dg nS x i = t then stN (dg nS x) t i ||| 2 ^ i else stN (dg nS x) t i from rfl, show chN (dg nS x) (csN Sc) (i + 1) = chN (dg nS x) (csN Sc) i + (if dg nS x i = csN Sc i then 0 else 1) from rfl]
    by_cases q1 : dg nS x i = t
    · rw [if_pos (show nI (dg nS x i) = nI t by rw [q1]), if_pos q1]
      by_cases q2 : dg nS x i = csN Sc i
      · rw [if_pos (show nI (dg nS x i) = nI (csN Sc i) by rw [q2]), if_pos q2]
        rfl
      · rw [if_neg (show ¬ nI (dg nS x i) = nI (csN Sc i) from fun q => q2 ((nI_eq (by omega) (by omega)).mp q)), if_neg q2]
    · rw [if_neg (show ¬ nI (dg nS x i) = nI t from fun q => q1 ((nI_eq (by omega) (by omega)).mp q)), if_neg q1, Option.bind_some]
      dsimp only
      rw [hcs, Option.bind_some]
      dsimp only
      by_cases q2 : dg nS x i = csN Sc i
      · rw [if_pos (show nI (dg nS x i) = nI (csN Sc i) by rw [q2]), if_pos q2]
        rfl
      · rw [if_neg (show ¬ nI (dg nS x i) = nI (csN Sc i) from fun q => q2 ((nI_eq (by omega) (by omega)).mp q)), if_neg q2]
/-- what the reference remembers of the sets -/
def GI (J : Nat → Bool) (T : xS) : Prop := ∀ set, set < 64 → gI T 11 set = 0 ∨ (gI T 11 set = 1 ∧ J set = false) ∨ (gI T 11 set = 2 ∧ J set = true)
def MI (cs : Nat → Nat) (t nS : Nat) (J : Nat → Bool) (x : Nat) (v5 v6 : Int32) : Prop := (v5 = -1 ∧ v6 = 100 ∧ ∀ y, y < x → J (stN (dg nS y) t nS) = false) ∨ ∃ y, y < x ∧ J (stN (dg nS y) t nS) = true ∧ v5 = nI y ∧ v6 = nI (chN (dg nS y) cs nS) ∧ ∀ z, z < x → J (stN (dg nS z) t nS) = true → le2 (chN (dg nS y) cs nS) y (chN (dg nS z) cs nS) z
theorem MI.skip {cs : Nat → Nat} {t nS : Nat} {J : Nat → Bool} {x : Nat} {v5 v6 : Int32} (h : MI cs t nS J x v5 v6) (hJ : J (stN (dg nS x) t nS) = false) : MI cs t nS J (x + 1) v5 v6 := by
  rcases h with ⟨h1, h2, h3⟩ | ⟨y, h1, h2, h3, h4, h5⟩
  · refine Or.inl ⟨h1, h2, fun y hy => ?_⟩
    by_cases q : y = x
    · rw [q]; exact hJ
    · exact h3 y (by omega)
  · refine Or.inr ⟨y, by omega, h2, h3, h4, fun z hz hj => ?_⟩
    by_cases q : z = x
    · rw [q, hJ] at hj; cases hj
    · exact h5 z (by omega) hj
theorem MI.worse {cs : Nat → Nat} {t nS : Nat} {J : Nat → Bool} {x : Nat} {v5 v6 : Int32} (hn : nS ≤ 6) (h : MI cs t nS J x v5 v6) (hw : ¬ nI (chN (dg nS x) cs nS) < v6) : MI cs t nS J (x + 1) v5 v6 := by
  have hc := chN_le (f := dg nS x) (g := cs) nS
  rcases h with ⟨h1, h2, h3⟩ | ⟨y, h1, h2, h3, h4, h5⟩
  · rw [h2] at hw
    exact absurd (show nI (chN (dg nS x) cs nS) < (100 : Int32) from nI_lt (b := 100) (by omega) (by decide)) hw
  · refine Or.inr ⟨y, by omega, h2, h3, h4, fun z hz hj => ?_⟩
    by_cases q : z = x
    · subst q
      have hcy := chN_le (f := dg nS y) (g := cs) nS
      rw [h4] at hw
      have hle : ¬ chN (dg nS z) cs nS < chN (dg nS y) cs nS := fun q => hw (nI_lt q (by omega))
      unfold le2
      omega
    · exact h5 z (by omega) hj
theorem MI.new {cs : Nat → Nat} {t nS : Nat} {J : Nat → Bool} {x : Nat} {v5 v6 : Int32} (hn : nS ≤ 6) (h : MI cs t nS J x v5 v6) (hJ : J (stN (dg nS x) t nS) = true) (hw : nI (chN (dg nS x) cs nS) < v6) : MI cs t nS J (x + 1) (nI x) (nI (chN (dg nS x) cs nS)) := by
  have hc := chN_le (f := dg nS x) (g := cs) nS
  refine Or.inr ⟨x, by omega, hJ, rfl, rfl, fun z hz hj => ?_⟩
  by_cases q : z = x
  · subst q
    exact Or.inr ⟨rfl, Nat.le_refl _⟩
  · rcases h with ⟨h1, h2, h3⟩ | ⟨y, h1, h2, h3, h4, h5⟩
    · rw [h3 z (by omega)] at hj; cases hj
    · have hcy := chN_le (f := dg nS y) (g := cs) nS
      rw [h4] at hw
      have hlt := (nI_ltI (by omega) (by omega)).mp hw
      have h6 := h5 z (by omega) hj
      unfold le2 at h6 ⊢
      omega
theorem outer_go {Sc Sm : xS} {nS sc w mi : Nat} {sl : Nat → Nat → Nat → Nat} {ea : Nat → Nat → Nat → Nat → Nat → Nat} (hR : RO Sc Sm nS sc w mi sl ea) {t dy k N d0 l0 : Nat} {v4 : Int32} (ht : t < 2) (hdy : dy < 1000) (hN : N ≤ 30) (hd : d0 < 1000) (hl : l0 ≤ 60) (hk : k ≤ 60) (hm3 : gI Sm 1 (10 + 3 * t) = nI d0 ∧ gI Sm 1 (10 + 3 * t + 1) = nI l0 ∧ gI Sm 1 (10 + 3 * t + 2) = nI k) : ∀ e x fm (v5 v6 : Int32) T, e + x = 3 ^ nS → e < fm → ME Sm T → GI (fun set => jN sl ea nS set t k w dy N 0 d0 l0) T → MI (csN Sc) t nS (fun set => jN sl ea nS set t k w dy N 0 d0 l0) x v5 v6 → ∃ u5 u6 T', lX9_saint_75 fm T 0 (nI t) (nI dy) (nI N) v4 v5 v6 (nI x) = (if (0 ≤ u5 : Prop) then (if (v4 = (-1) : Prop) then (some (u6, T')) else ((mX9_seatIn T' 0 u5 v4).bind fun q7 => some (q7.1, q7.2))) else (some ((-1), T'))) ∧ ME Sm T' ∧ MI (csN Sc) t nS (fun set => jN sl ea nS set t k w dy N 0 d0 l0) (3 ^ nS) u5 u6 := by
  have hn6 := hR.1.2.2.2.2.2.2.1
  have h7 := p729 hn6
  intro e
  induction e with
  | zero =>
    intro x fm v5 v6 T hi hfm hT hG hI
    obtain ⟨fm, rfl⟩ : ∃ q, fm = q + 1 := ⟨fm - 1, by omega⟩
    have hi : x = 3 ^ nS := by omega
    subst hi
    refine ⟨v5, v6, T, ?_, hT, hI⟩
    rw [lX9_saint_75.eq_2, rm_0 hT.1, Option.bind_some, aI_lit (Y := Ym) (c := 1) (i := 0) 0 rfl (by decide) (by decide), Option.bind_some, hT.2.1 1 (by omega) (by omega), hR.1.2.2.2.2.2.2.2, power_m T hn6, Option.bind_some, if_pos (nI_le (Nat.le_refl _) (by omega))]
  | succ e ih =>
    intro x fm v5 v6 T hi hfm hT hG hI
    obtain ⟨fm, rfl⟩ : ∃ q, fm = q + 1 := ⟨fm - 1, by omega⟩
    have hx : x < 3 ^ nS := by omega
    have e1 : gI T 1 = gI Sm 1 := hT.2.1 1 (by omega) (by omega)
    have h0 : gI T 1 0 = nI nS := by rw [e1]; exact hR.1.2.2.2.2.2.2.2
    obtain ⟨set, hset⟩ : ∃ z, z = stN (dg nS x) t nS := ⟨_, rfl⟩
    have hset2 : set < 2 ^ nS := by rw [hset]; exact stN_lt _ _ _
    have hset64 := set64 hset2 hn6
    obtain ⟨C, hC⟩ : ∃ z, z = chN (dg nS x) (csN Sc) nS := ⟨_, rfl⟩
    have inn := inner_go hR hT (k75 := lX9_saint_75 fm) (v2 := nI dy) (v3 := nI N) (v4 := v4) (v5 := v5) (v6 := v6) ht hx nS 0 5000 (by omega) (by omega)
    obtain ⟨m, em⟩ : ∃ m, 5000 - nS = m + 1 := ⟨5000 - nS - 1, by omega⟩
    rw [lX9_saint_75.eq_2, rm_0 hT.1, Option.bind_some, aI_lit (Y := Ym) (c := 1) (i := 0) 0 rfl (by decide) (by decide), Option.bind_some, h0, power_m T hn6, Option.bind_some, if_neg (nI_ge hx (by omega)), show lX9_saint_98 (lX9_saint_75 fm) 5000 T 0 (nI t) (nI dy) (nI N) v4 v5 v6 (nI x) 0 0 0 = _ from inn, em, lX9_saint_98.eq_2, rm_0 hT.1, Option.bind_some, aI_lit (Y := Ym) (c := 1) (i := 0) 0 rfl (by decide) (by decide), Option.bind_some, h0, if_pos (nI_le (Nat.le_refl _) (by omega)), ← hset, ← hC, nI_1]
    by_cases hlt : nI C < v6
    · rw [if_pos hlt, rm_32 hT.1, Option.bind_some, aI_nI (Y := Ym) (c := 11) (by show _ < 64; omega) (by decide), Option.bind_some]
      have fin : ∀ T1, ME Sm T1 → GI (fun set => jN sl ea nS set t k w dy N 0 d0 l0) T1 → ((gI T1 11 set = 1 ∧ jN sl ea nS set t k w dy N 0 d0 l0 = false) ∨ (gI T1 11 set = 2 ∧ jN sl ea nS set t k w dy N 0 d0 l0 = true)) → ∃ u5 u6 T', jX9_saint_211 (lX9_saint_75 fm) (lX9_saint_98 (lX9_saint_75 fm) m) T1 0 (nI t) (nI dy) (nI N) v4 v5 v6 (nI x) (nI set) (nI C) = (if (0 ≤ u5 : Prop) then (if (v4 = (-1) : Prop) then (some (u6, T')) else ((mX9_seatIn T' 0 u5 v4).bind fun q7 => some (q7.1, q7.2))) else (some ((-1), T'))) ∧ ME Sm T' ∧ MI (csN Sc) t nS (fun set => jN sl ea nS set t k w dy N 0 d0 l0) (3 ^ nS) u5 u6 := by
        intro T1 hT1 hG1 hJ
        unfold jX9_saint_211
        rw [rm_32 hT1.1, Option.bind_some, aI_nI (Y := Ym) (c := 11) (by show _ < 64; omega) (by decide), Option.bind_some, nI_1]
        rcases hJ with ⟨j1, j2⟩ | ⟨j1, j2⟩
        · rw [j1, if_pos rfl]
          exact ih (x + 1) fm v5 v6 T1 (by omega) (by omega) hT1 hG1 (hI.skip (by rw [← hset]; exact j2))
        · rw [j1, if_neg (by decide), hC]
          exact ih (x + 1) fm (nI x) _ T1 (by omega) (by omega) hT1 hG1 (hI.new hn6 (by rw [← hset]; exact j2) (by rw [← hC]; exact hlt))
      by_cases hz : gI T 11 set = 0
      · rw [hz, if_pos rfl, Option.bind_some]
        unfold mX9_isSaint
        obtain ⟨T1, s1, s2, s3⟩ := hR.setT ht hT hm3
        have hT1 := s3.me hT
        obtain ⟨T2, e2⟩ : ∃ z, z = pI T1 0 29 (nI set) := ⟨_, rfl⟩
        have y2 : FrY T1 T2 := by rw [e2]; exact FrY.pI (by decide)
        have hT2 := y2.me hT1
        have mk2 : MK T2 t d0 l0 k set := ⟨by rw [e2, gI_nk _ _ _ _ (by decide)]; exact s2.1, by rw [e2, gI_nk _ _ _ _ (by decide)]; exact s2.2.1, by rw [e2, gI_nk _ _ _ _ (by decide)]; exact s2.2.2.1, by rw [e2, gI_nk _ _ _ _ (by decide)]; exact s2.2.2.2.1, by rw [e2, gI_eq]⟩
        obtain ⟨T3, r1, r2⟩ := saint_go hR ht hdy hset64 hk hN N 0 5000 d0 l0 T2 rfl (by omega) hT2 hd hl mk2
        have hT3 := r2.me hT2
        have g3 : gI T3 11 = gI T 11 := (r2.2.2.1 11 (by decide) (by decide) (by decide)).trans ((y2.2.2.1 11 (by decide) (by decide) (by decide)).trans (s3.2.2.1 11 (by decide) (by decide) (by decide)))
        rw [s1, Option.bind_some, xlet_eq, ← e2, show lX9_isSaint_14 5000 T2 0 (nI dy) (nI N) 1 = _ from r1, Option.bind_some]
        have wr : ∀ v : Int32, ((v = 1 ∧ jN sl ea nS set t k w dy N 0 d0 l0 = false) ∨ (v = 2 ∧ jN sl ea nS set t k w dy N 0 d0 l0 = true)) → ∃ u5 u6 T', jX9_saint_210 (lX9_saint_75 fm) (lX9_saint_98 (lX9_saint_75 fm) m) T3 0 (nI t) (nI dy) (nI N) v4 v5 v6 (nI x) (nI set) (nI C) v (nI set) 11 = (if (0 ≤ u5 : Prop) then (if (v4 = (-1) : Prop) then (some (u6, T')) else ((mX9_seatIn T' 0 u5 v4).bind fun q7 => some (q7.1, q7.2))) else (some ((-1), T'))) ∧ ME Sm T' ∧ MI (csN Sc) t nS (fun set => jN sl ea nS set t k w dy N 0 d0 l0) (3 ^ nS) u5 u6 := by
          intro v hv
          unfold jX9_saint_210
          rw [sI_nI (Y := Ym) (c := 11) (by show _ < 64; omega) (by decide), Option.bind_some]
          refine fin _ (hT3.go rfl (fun c a b => gIf_ne _ _ _ _ (by omega)) (fun k _ => gI_ne _ _ _ _ (by decide))) (fun s hs => ?_) ?_
          · by_cases hss : s = set
            · subst hss
              rw [gI_eq]
              exact Or.inr hv
            · rw [gI_nk _ _ _ _ hss, g3]
              exact hG s hs
          · rw [gI_eq]
            exact hv
        dsimp only
        by_cases hJ : jN sl ea nS set t k w dy N 0 d0 l0 = true
        · rw [if_pos hJ, if_neg n10]
          exact wr 2 (Or.inr ⟨rfl, hJ⟩)
        · rw [if_neg hJ, if_pos rfl]
          exact wr 1 (Or.inl ⟨rfl, by simpa using hJ⟩)
      · rw [if_neg hz]
        exact fin T hT hG ((hG set hset64).resolve_left hz)
    · rw [if_neg hlt]
      exact ih (x + 1) fm v5 v6 T (by omega) (by omega) hT hG (hI.worse hn6 (by rw [← hC]; exact hlt))
theorem good_go {Sm : xS} {t dy N v4 : Int32} : ∀ e i n T, e + i = 64 → e < n → ME Sm T → (∀ s, s < i → gI T 11 s = 0) → ∃ T', lX9_saint_44 n T 0 t dy N v4 (nI i) = lX9_saint_75 5000 T' 0 t dy N v4 (-1) 100 0 ∧ ME Sm T' ∧ ∀ s, s < 64 → gI T' 11 s = 0 := by
  intro e
  induction e with
  | zero =>
    intro i n T hi hn hT hp
    obtain ⟨n, rfl⟩ : ∃ q, n = q + 1 := ⟨n - 1, by omega⟩
    have hi : i = 64 := by omega
    subst hi
    exact ⟨T, by rw [lX9_saint_44.eq_2, if_pos (by decide)], hT, hp⟩
  | succ e ih =>
    intro i n T hi hn hT hp
    obtain ⟨n, rfl⟩ : ∃ q, n = q + 1 := ⟨n - 1, by omega⟩
    obtain ⟨T', q1, q2, q3⟩ := ih (i + 1) n (pI T 11 i 0) (by omega) (by omega) (hT.go rfl (fun c a b => gIf_ne _ _ _ _ (by omega)) (fun k _ => gI_ne _ _ _ _ (by decide))) (fun s hs => by
      by_cases h : s = i
      · subst h; rw [gI_eq]
      · rw [gI_nk _ _ _ _ h]; exact hp s (by omega))
    refine ⟨T', ?_, q2, q3⟩
    rw [lX9_saint_44.eq_2, if_neg (show ¬ (64 : Int32) ≤ nI i from nI_ge (a := i) (b := 64) (by omega) (by decide)), rm_32 hT.1, Option.bind_some, sI_nI (Y := Ym) (c := 11) (by show _ < 64; omega) (by decide), Option.bind_some, nI_1]
    exact q1

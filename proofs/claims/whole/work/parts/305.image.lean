/-! image, back, by -/
theorem RV.move {Sc Sm Sc' Sm' : xS} {o am o' am' nS nT ns sc nx : Nat} (h : RV Sc Sm o am nS nT ns sc nx) (h0 : ∀ k, k < 11 → k ≠ 0 → k ≠ 1 → k ≠ 4 → k ≠ 9 → gI Sc' o' k = gI Sc o k) (h1 : ∀ k, k < 14 → gI Sc' (o' + 1) k = gI Sc (o + 1) k) (h2 : ∀ k, k < 420 → gI Sc' (o' + 2) k = gI Sc (o + 2) k) (h3 : ∀ k, k < 6 → gI Sc' (o' + 3) k = gI Sc (o + 3) k) (h4 : ∀ k, k < 8 → gI Sc' (o' + 4) k = gI Sc (o + 4) k) (hm : ∀ k, k < 486 → gI Sm' am' k = gI Sm am k) : RV Sc' Sm' o' am' nS nT ns sc nx := by
  obtain ⟨a1, a2, a3, a4, a5, a6, a7, a8, a9, a10, a11, a12, a13⟩ := h
  obtain ⟨n1, n2, n3, n4, n5⟩ := id a1
  unfold RV
  rw [h0 5 (by decide) (by decide) (by decide) (by decide) (by decide), h0 7 (by decide) (by decide) (by decide) (by decide) (by decide), h0 3 (by decide) (by decide) (by decide) (by decide) (by decide), h0 10 (by decide) (by decide) (by decide) (by decide) (by decide), h0 2 (by decide) (by decide) (by decide) (by decide) (by decide), h0 6 (by decide) (by decide) (by decide) (by decide) (by decide), h0 8 (by decide) (by decide) (by decide) (by decide) (by decide), hm 0 (by decide), hm 1 (by decide), hm 2 (by decide), hm 3 (by decide), hm 4 (by decide), hm 5 (by decide), hm 6 (by decide), hm 7 (by decide), h1 12 (by decide), h1 13 (by decide)]
  refine ⟨a1, a2, a3, a4, a5, a6, a7, a8, a9.congr h1, ⟨a10.1, a10.2.1, fun k hk => ?_⟩, fun s hs => ?_, fun k hk => ?_, fun j hj => ?_⟩
  · rw [hm _ (by omega), h1 _ (by omega)]
    exact a10.2.2 k hk
  · rw [hm _ (by omega), hm _ (by omega), h1 _ (by omega), h3 _ (by omega)]
    exact a11 s hs
  · rw [hm _ (by omega), h4 _ (by omega)]
    exact a12 k hk
  · obtain ⟨hs, c1, c2, c3, c4, c5, c6, c7⟩ := a13 j hj
    have hr := rg_lt nx ns j
    refine ⟨hs, c1, ?_, c3.congr (fun k hk => ?_), ?_, ?_, fun k hk => ?_, fun t ht => ?_⟩
    · rw [hm _ (by omega)]; exact c2
    · exact h2 _ (by omega)
    · rw [hm _ (by omega), h2 _ (by omega)]; exact c4
    · rw [hm _ (by omega), h2 _ (by omega)]; exact c5
    · rw [hm _ (by omega), h2 _ (by omega)]; exact c6 k hk
    · rw [hm _ (by omega), h2 _ (by omega)]; exact c7 t ht
/-- a row of n is copied from its start to another's -/
def cp0 (S : xS) (a b n : Nat) : xS := (fun c => if c = b then va_cpy (S.1 a) (S.1 b) 0 0 n else S.1 c, S.2)
theorem cpI_0 {S : xS} {a b : Nat} {i : Int32} (n : Nat) (e : i = nI n) (ha : n ≤ xn Yc a) (hb : n ≤ xn Yc b) (hn : n < 2 ^ 31) : cpI Yc S a 0 b 0 i = some (cp0 S a b n) := by
  unfold cpI cp0
  rw [e, nI_clamp hn, sb_cl0, if_neg]
  simp only [not_or]
  exact ⟨by decide, by decide, nI_pos hn, by omega, by omega⟩
theorem cp0_ne (S : xS) (a b n : Nat) {c : Nat} (h : c ≠ b) : gI (cp0 S a b n) c = gI S c := if_neg h
theorem cp0_in (S : xS) (a b n : Nat) {k : Nat} (h : k < n) : gI (cp0 S a b n) b k = gI S a k := by
  show (if b = b then va_cpy (S.1 a) (S.1 b) 0 0 n else S.1 b) k = S.1 a k
  rw [if_pos rfl, pk_cpy_in (by omega) (by omega), Nat.zero_add, Nat.sub_zero]
theorem copyFrom_16 {S : xS} (hC : RCr S) : ∃ S', mX1_copyFrom S 1 6 = some S' ∧ S'.2 = S.2 ∧ (∀ c, (c < 1 ∨ 5 < c) → gI S' c = gI S c) ∧ (∀ k, k < 11 → k ≠ 0 → k ≠ 1 → k ≠ 4 → k ≠ 9 → gI S' 1 k = gI S 6 k) ∧ (∀ k, k < 14 → gI S' 2 k = gI S 7 k) ∧ (∀ k, k < 420 → gI S' 3 k = gI S 8 k) ∧ (∀ k, k < 6 → gI S' 4 k = gI S 9 k) ∧ (∀ k, k < 8 → gI S' 5 k = gI S 10 k) := by
  have r : ∀ {S' : xS}, S'.2.2 = S.2.2 → RCr S' := fun e => hC.ofR e
  unfold mX1_copyFrom
  rw [rc_6_0 hC, Option.bind_some, rc_1_0 hC, Option.bind_some, cpI_0 (a := 7) (b := 2) (i := 14) 14 rfl (by decide) (by decide) (by decide), Option.bind_some]
  obtain ⟨S1, e1⟩ : ∃ z, z = cp0 S 7 2 14 := ⟨_, rfl⟩
  rw [← e1, rc_6_1 (r (by rw [e1]; rfl)), Option.bind_some, rc_1_1 (r (by rw [e1]; rfl)), Option.bind_some, cpI_0 (a := 8) (b := 3) (i := 420) 420 rfl (by decide) (by decide) (by decide), Option.bind_some, xlet_eq, xlet_eq]
  obtain ⟨S2, e2⟩ : ∃ z, z = cp0 S1 8 3 420 := ⟨_, rfl⟩
  rw [← e2]
  obtain ⟨S3, e3⟩ : ∃ z, z = pI (pI S2 1 2 (gI S2 6 2)) 1 3 (gI (pI S2 1 2 (gI S2 6 2)) 6 3) := ⟨_, rfl⟩
  have f3 : S3.2 = S.2 := by rw [e3, e2, e1]; rfl
  rw [← e3, rc_6_4 (r (by rw [f3])), Option.bind_some, rc_1_4 (r (by rw [f3])), Option.bind_some, cpI_0 (a := 9) (b := 4) (i := 6) 6 rfl (by decide) (by decide) (by decide), Option.bind_some, xlet_eq, xlet_eq, xlet_eq, xlet_eq]
  obtain ⟨S4, e4⟩ : ∃ z, z = cp0 S3 9 4 6 := ⟨_, rfl⟩
  rw [← e4]
  obtain ⟨S5, e5⟩ : ∃ z, z = pI S4 1 5 (gI S4 6 5) := ⟨_, rfl⟩
  rw [← e5]
  obtain ⟨S6, e6⟩ : ∃ z, z = pI S5 1 6 (gI S5 6 6) := ⟨_, rfl⟩
  rw [← e6]
  obtain ⟨S7, e7⟩ : ∃ z, z = pI S6 1 7 (gI S6 6 7) := ⟨_, rfl⟩
  rw [← e7]
  obtain ⟨S8, e8⟩ : ∃ z, z = pI S7 1 8 (gI S7 6 8) := ⟨_, rfl⟩
  have f8 : S8.2 = S.2 := by rw [e8, e7, e6, e5, e4]; exact f3
  rw [← e8, rc_6_9 (r (by rw [f8])), Option.bind_some, rc_1_9 (r (by rw [f8])), Option.bind_some, cpI_0 (a := 10) (b := 5) (i := 8) 8 rfl (by decide) (by decide) (by decide), Option.bind_some, xlet_eq]
  refine ⟨_, rfl, f8, ?_, ?_, ?_, ?_, ?_, ?_⟩
  · intro c hc
    rw [gIf_ne _ _ _ _ (by omega), cp0_ne _ _ _ _ (by omega), e8, gIf_ne _ _ _ _ (by omega), e7, gIf_ne _ _ _ _ (by omega), e6, gIf_ne _ _ _ _ (by omega), e5, gIf_ne _ _ _ _ (by omega), e4, cp0_ne _ _ _ _ (by omega), e3, gIf_ne _ _ _ _ (by omega), gIf_ne _ _ _ _ (by omega), e2, cp0_ne _ _ _ _ (by omega), e1, cp0_ne _ _ _ _ (by omega)]
  · intro k h1 h2 h3 h4 h5
    rcases (show k = 2 ∨ k = 3 ∨ k = 5 ∨ k = 6 ∨ k = 7 ∨ k = 8 ∨ k = 10 by omega) with rfl | rfl | rfl | rfl | rfl | rfl | rfl
    all_goals (simp (disch := decide) only [gI_eq, gI_nk, gI_ne, cp0_ne, e8, e7, e6, e5, e4, e3, e2, e1])
  · intro k hk
    simp (disch := decide) only [gI_ne, cp0_ne, e8, e7, e6, e5, e4, e3, e2, e1]
    exact cp0_in _ _ _ _ hk
  · intro k hk
    simp (disch := decide) only [gI_ne, cp0_ne, e8, e7, e6, e5, e4, e3, e2]
    rw [cp0_in _ _ _ _ hk, e1, cp0_ne _ _ _ _ (by decide)]
  · intro k hk
    simp (disch := decide) only [gI_ne, cp0_ne, e8, e7, e6, e5, e4]
    rw [cp0_in _ _ _ _ hk]
    simp (disch := decide) only [gI_ne, cp0_ne, e3, e2, e1]
  · intro k hk
    rw [gI_ne _ _ _ _ (by decide), cp0_in _ _ _ _ hk]
    simp (disch := decide) only [gI_ne, cp0_ne, e8, e7, e6, e5, e4, e3, e2, e1]
theorem copyFrom_61 {S : xS} (hC : RCr S) : ∃ S', mX1_copyFrom S 6 1 = some S' ∧ S'.2 = S.2 ∧ (∀ c, (c < 6 ∨ 10 < c) → gI S' c = gI S c) ∧ (∀ k, k < 11 → k ≠ 0 → k ≠ 1 → k ≠ 4 → k ≠ 9 → gI S' 6 k = gI S 1 k) ∧ (∀ k, k < 14 → gI S' 7 k = gI S 2 k) ∧ (∀ k, k < 420 → gI S' 8 k = gI S 3 k) ∧ (∀ k, k < 6 → gI S' 9 k = gI S 4 k) ∧ (∀ k, k < 8 → gI S' 10 k = gI S 5 k) := by
  have r : ∀ {S' : xS}, S'.2.2 = S.2.2 → RCr S' := fun e => hC.ofR e
  unfold mX1_copyFrom
  rw [rc_1_0 hC, Option.bind_some, rc_6_0 hC, Option.bind_some, cpI_0 (a := 2) (b := 7) (i := 14) 14 rfl (by decide) (by decide) (by decide), Option.bind_some]
  obtain ⟨S1, e1⟩ : ∃ z, z = cp0 S 2 7 14 := ⟨_, rfl⟩
  rw [← e1, rc_1_1 (r (by rw [e1]; rfl)), Option.bind_some, rc_6_1 (r (by rw [e1]; rfl)), Option.bind_some, cpI_0 (a := 3) (b := 8) (i := 420) 420 rfl (by decide) (by decide) (by decide), Option.bind_some, xlet_eq, xlet_eq]
  obtain ⟨S2, e2⟩ : ∃ z, z = cp0 S1 3 8 420 := ⟨_, rfl⟩
  rw [← e2]
  obtain ⟨S3, e3⟩ : ∃ z, z = pI (pI S2 6 2 (gI S2 1 2)) 6 3 (gI (pI S2 6 2 (gI S2 1 2)) 1 3) := ⟨_, rfl⟩
  have f3 : S3.2 = S.2 := by rw [e3, e2, e1]; rfl
  rw [← e3, rc_1_4 (r (by rw [f3])), Option.bind_some, rc_6_4 (r (by rw [f3])), Option.bind_some, cpI_0 (a := 4) (b := 9) (i := 6) 6 rfl (by decide) (by decide) (by decide), Option.bind_some, xlet_eq, xlet_eq, xlet_eq, xlet_eq]
  obtain ⟨S4, e4⟩ : ∃ z, z = cp0 S3 4 9 6 := ⟨_, rfl⟩
  rw [← e4]
  obtain ⟨S5, e5⟩ : ∃ z, z = pI S4 6 5 (gI S4 1 5) := ⟨_, rfl⟩
  rw [← e5]
  obtain ⟨S6, e6⟩ : ∃ z, z = pI S5 6 6 (gI S5 1 6) := ⟨_, rfl⟩
  rw [← e6]
  obtain ⟨S7, e7⟩ : ∃ z, z = pI S6 6 7 (gI S6 1 7) := ⟨_, rfl⟩
  rw [← e7]
  obtain ⟨S8, e8⟩ : ∃ z, z = pI S7 6 8 (gI S7 1 8) := ⟨_, rfl⟩
  have f8 : S8.2 = S.2 := by rw [e8, e7, e6, e5, e4]; exact f3
  rw [← e8, rc_1_9 (r (by rw [f8])), Option.bind_some, rc_6_9 (r (by rw [f8])), Option.bind_some, cpI_0 (a := 5) (b := 10) (i := 8) 8 rfl (by decide) (by decide) (by decide), Option.bind_some, xlet_eq]
  refine ⟨_, rfl, f8, ?_, ?_, ?_, ?_, ?_, ?_⟩
  · intro c hc
    rw [gIf_ne _ _ _ _ (by omega), cp0_ne _ _ _ _ (by omega), e8, gIf_ne _ _ _ _ (by omega), e7, gIf_ne _ _ _ _ (by omega), e6, gIf_ne _ _ _ _ (by omega), e5, gIf_ne _ _ _ _ (by omega), e4, cp0_ne _ _ _ _ (by omega), e3, gIf_ne _ _ _ _ (by omega), gIf_ne _ _ _ _ (by omega), e2, cp0_ne _ _ _ _ (by omega), e1, cp0_ne _ _ _ _ (by omega)]
  · intro k h1 h2 h3 h4 h5
    rcases (show k = 2 ∨ k = 3 ∨ k = 5 ∨ k = 6 ∨ k = 7 ∨ k = 8 ∨ k = 10 by omega) with rfl | rfl | rfl | rfl | rfl | rfl | rfl
    all_goals (simp (disch := decide) only [gI_eq, gI_nk, gI_ne, cp0_ne, e8, e7, e6, e5, e4, e3, e2, e1])
  · intro k hk
    simp (disch := decide) only [gI_ne, cp0_ne, e8, e7, e6, e5, e4, e3, e2, e1]
    exact cp0_in _ _ _ _ hk
  · intro k hk
    simp (disch := decide) only [gI_ne, cp0_ne, e8, e7, e6, e5, e4, e3, e2]
    rw [cp0_in _ _ _ _ hk, e1, cp0_ne _ _ _ _ (by decide)]
  · intro k hk
    simp (disch := decide) only [gI_ne, cp0_ne, e8, e7, e6, e5, e4]
    rw [cp0_in _ _ _ _ hk]
    simp (disch := decide) only [gI_ne, cp0_ne, e3, e2, e1]
  · intro k hk
    rw [gI_ne _ _ _ _ (by decide), cp0_in _ _ _ _ hk]
    simp (disch := decide) only [gI_ne, cp0_ne, e8, e7, e6, e5, e4, e3, e2, e1]

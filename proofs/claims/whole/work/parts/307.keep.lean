/-! remember and keep: a STEP is kept -/
theorem seatOf_m {S : xS} (hM : RMr S) {i : Nat} (hi : i < 6) : mX9_seatOf S 0 (nI i) = some (gI S 1 (16 + 2 * i + 1), S) := by
  unfold mX9_seatOf
  have e : ((16 : Int32) + (2 * nI i)) + 1 = nI (16 + 2 * i + 1) := by rw [show (2 : Int32) = nI 2 from rfl, show (16 : Int32) = nI 16 from rfl, pk_mul, nI_add, nI_1]
  rw [rm_0 hM, Option.bind_some, e, aI_nI (Y := Ym) (c := 1) (by show _ < 486; omega) (by decide)]
  rfl
def kpS (S : xS) (x i : Nat) : xS := pI (pI S 1 (x + 3 + i) (gI S 1 (10 + i))) 1 (x + 9 + i) (gI S 1 (16 + 2 * i + 1))
theorem keep_step {S : xS} (hM : RMr S) {n x i : Nat} (hi : i < 6) (hx : 36 ≤ x) (hx2 : x + 15 ≤ 486) : lX9_keep_112 (n + 1) S 0 (nI x) (nI i) = lX9_keep_112 n (kpS S x i) 0 (nI x) (nI (i + 1)) := by
  have e1 : (10 : Int32) + nI i = nI (10 + i) := nI_add 10 i
  have e2 : (nI x + 3) + nI i = nI (x + 3 + i) := by rw [show (3 : Int32) = nI 3 from rfl, nI_add, nI_add]
  have e3 : (nI x + 9) + nI i = nI (x + 9 + i) := by rw [show (9 : Int32) = nI 9 from rfl, nI_add, nI_add]
  rw [lX9_keep_112.eq_2, if_neg (show ¬ (6 : Int32) ≤ nI i from nI_ge hi (by decide)), rm_0 hM, Option.bind_some, Option.bind_some, e1, aI_nI (Y := Ym) (c := 1) (by show _ < 486; omega) (by decide), Option.bind_some, e2, sI_nI (Y := Ym) (c := 1) (by show _ < 486; omega) (by decide), Option.bind_some]
  have hM1 : RMr (pI S 1 (x + 3 + i) (gI S 1 (10 + i))) := hM.ofR rfl
  rw [rm_0 hM1, Option.bind_some, seatOf_m hM1 hi, Option.bind_some]
  dsimp only
  rw [e3, sI_nI (Y := Ym) (c := 1) (by show _ < 486; omega) (by decide), Option.bind_some, nI_1, gI_nk _ _ _ _ (by omega)]
  rfl
theorem kpS_R (S : xS) (x i : Nat) : (kpS S x i).2 = S.2 := rfl
theorem kpS_c (S : xS) (x i : Nat) {c : Nat} (h : c ≠ 1) : gI (kpS S x i) c = gI S c := by unfold kpS; rw [gIf_ne _ _ _ _ h, gIf_ne _ _ _ _ h]
theorem kpS_k (S : xS) (x i : Nat) {k : Nat} (h1 : k ≠ x + 3 + i) (h2 : k ≠ x + 9 + i) : gI (kpS S x i) 1 k = gI S 1 k := by unfold kpS; rw [gI_nk _ _ _ _ h2, gI_nk _ _ _ _ h1]
theorem kpS_a (S : xS) (x i : Nat) : gI (kpS S x i) 1 (x + 3 + i) = gI S 1 (10 + i) := by unfold kpS; rw [gI_nk _ _ _ _ (by omega), gI_eq]
theorem kpS_b (S : xS) (x i : Nat) : gI (kpS S x i) 1 (x + 9 + i) = gI S 1 (16 + 2 * i + 1) := by unfold kpS; rw [gI_eq]
/-- the loop: from i on -/
theorem keep_loop {x : Nat} (hx : 36 ≤ x) (hx2 : x + 15 ≤ 486) : ∀ (d i n : Nat) (S : xS), RMr S → d + i = 6 → d < n → ∃ S', lX9_keep_112 n S 0 (nI x) (nI i) = lX9_keep_112 (n - d) S' 0 (nI x) (nI 6) ∧ S'.2 = S.2 ∧ (∀ c, c ≠ 1 → gI S' c = gI S c) ∧ (∀ k, (k < x + 3 ∨ x + 15 ≤ k) → gI S' 1 k = gI S 1 k) ∧ (∀ t, t < 6 → t < i → gI S' 1 (x + 3 + t) = gI S 1 (x + 3 + t) ∧ gI S' 1 (x + 9 + t) = gI S 1 (x + 9 + t)) ∧ (∀ t, t < 6 → i ≤ t → gI S' 1 (x + 3 + t) = gI S 1 (10 + t) ∧ gI S' 1 (x + 9 + t) = gI S 1 (16 + 2 * t + 1)) := by
  intro d
  induction d with
  | zero =>
    intro i n S hM hi hn
    have hi : i = 6 := by omega
    subst hi
    exact ⟨S, rfl, rfl, fun _ _ => rfl, fun _ _ => rfl, fun _ _ _ => ⟨rfl, rfl⟩, fun t h1 h2 => absurd h1 (by omega)⟩
  | succ d ih =>
    intro i n S hM hi hn
    obtain ⟨n, rfl⟩ : ∃ m, n = m + 1 := ⟨n - 1, by omega⟩
    obtain ⟨S', e1, e2, e3, e4, e5, e6⟩ := ih (i + 1) n (kpS S x i) (hM.ofR rfl) (by omega) (by omega)
    refine ⟨S', ?_, e2.trans (kpS_R S x i), fun c hc => (e3 c hc).trans (kpS_c S x i hc), fun k hk => (e4 k hk).trans (kpS_k S x i (by omega) (by omega)), fun t h1 h2 => ?_, fun t h1 h2 => ?_⟩
    · rw [keep_step hM (by omega) hx hx2, e1]
      congr 1
      omega
    · obtain ⟨q1, q2⟩ := e5 t h1 (by omega)
      exact ⟨q1.trans (kpS_k S x i (by omega) (by omega)), q2.trans (kpS_k S x i (by omega) (by omega))⟩
    · by_cases ht : t = i
      · subst ht
        obtain ⟨q1, q2⟩ := e5 t h1 (by omega)
        exact ⟨q1.trans (kpS_a S x t), q2.trans (kpS_b S x t)⟩
      · obtain ⟨q1, q2⟩ := e6 t h1 (by omega)
        exact ⟨q1.trans (kpS_k S x i (by omega) (by omega)), q2.trans (kpS_k S x i (by omega) (by omega))⟩
/-- the new step, at place q -/
theorem keepA {S : xS} (hM : RMr S) {q : Nat} (hq : q < 30) (h6 : gI S 1 6 = nI q) : ∃ S', jX9_keep_56 S 0 = some S' ∧ S'.2 = S.2 ∧ (∀ c, c ≠ 1 → gI S' c = gI S c) ∧ gI S' 1 6 = nI (q + 1) ∧ (∀ k, k ≠ 6 → (k < 36 + 15 * q ∨ 36 + 15 * q + 15 ≤ k) → gI S' 1 k = gI S 1 k) ∧ gI S' 1 (36 + 15 * q) = gI S 1 0 ∧ gI S' 1 (36 + 15 * q + 1) = gI S 1 1 ∧ gI S' 1 (36 + 15 * q + 2) = gI S 1 3 ∧ (∀ t, t < 6 → gI S' 1 (36 + 15 * q + 3 + t) = gI S 1 (10 + t) ∧ gI S' 1 (36 + 15 * q + 9 + t) = gI S 1 (16 + 2 * t + 1)) := by
  obtain ⟨x, hx⟩ : ∃ x, x = 36 + 15 * q := ⟨_, rfl⟩
  have ex : (36 : Int32) + 15 * nI q = nI x := by rw [hx, show (15 : Int32) = nI 15 from rfl, show (36 : Int32) = nI 36 from rfl, pk_mul, nI_add]
  have ex1 : nI x + 1 = nI (x + 1) := nI_1 x
  have ex2 : nI x + 2 = nI (x + 2) := nI_add x 2
  rw [← hx]
  unfold jX9_keep_56
  have hM1 : RMr (pI S 1 x (gI S 1 0)) := hM.ofR rfl
  have hM2 : RMr (pI (pI S 1 x (gI S 1 0)) 1 (x + 1) (gI S 1 1)) := hM.ofR rfl
  obtain ⟨S3, e3⟩ : ∃ z, z = pI (pI (pI S 1 x (gI S 1 0)) 1 (x + 1) (gI S 1 1)) 1 (x + 2) (gI S 1 3) := ⟨_, rfl⟩
  have hM3 : RMr S3 := hM.ofR (by rw [e3]; rfl)
  obtain ⟨S', g1, g2, g3, g4, g5, g6⟩ := keep_loop (x := x) (by omega) (by omega) 6 0 5000 S3 hM3 rfl (by decide)
  have f6 : gI S' 1 6 = nI q := by rw [g4 6 (by omega), e3, gI_nk _ _ _ _ (by omega), gI_nk _ _ _ _ (by omega), gI_nk _ _ _ _ (by omega), h6]
  have hM4 : RMr S' := hM3.ofR (by rw [g2])
  have k3 : ∀ k, k ≠ x → k ≠ x + 1 → k ≠ x + 2 → gI S3 1 k = gI S 1 k := fun k a b c => by rw [e3, gI_nk _ _ _ _ c, gI_nk _ _ _ _ b, gI_nk _ _ _ _ a]
  refine ⟨pI S' 1 6 (nI (q + 1)), ?_, ?_, ?_, gI_eq _ _ _ _, ?_, ?_, ?_, ?_, ?_⟩
  · rw [rm_0 hM, Option.bind_some, aI_lit (Y := Ym) (c := 1) (i := 6) 6 rfl (by decide) (by decide), Option.bind_some, Option.bind_some, Option.bind_some, h6, ex, aI_lit (Y := Ym) (c := 1) (i := 0) 0 rfl (by decide) (by decide), Option.bind_some, sI_nI (Y := Ym) (c := 1) (by show _ < 486; omega) (by decide), Option.bind_some, rm_0 hM1, Option.bind_some, Option.bind_some, aI_lit (Y := Ym) (c := 1) (i := 1) 1 rfl (by decide) (by decide), Option.bind_some, ex1, sI_nI (Y := Ym) (c := 1) (by show _ < 486; omega) (by decide), Option.bind_some, gI_nk S 1 _ _ (by omega), rm_0 hM2, Option.bind_some, Option.bind_some, aI_lit (Y := Ym) (c := 1) (i := 3) 3 rfl (by decide) (by decide), Option.bind_some, ex2, sI_nI (Y := Ym) (c := 1) (by show _ < 486; omega) (by decide), Option.bind_some, gI_nk (pI S 1 x (gI S 1 0)) 1 _ _ (by omega), gI_nk S 1 _ _ (by omega), ← e3]
    rw [show (0 : Int32) = nI 0 from rfl, g1, lX9_keep_112.eq_2, if_pos (by decide), rm_0 hM4, Option.bind_some, aI_lit (Y := Ym) (c := 1) (i := 6) 6 rfl (by decide) (by decide), Option.bind_some, f6, nI_1, sI_lit (Y := Ym) (c := 1) (i := 6) 6 rfl (by decide) (by decide)]
    rfl
  · exact g2.trans (by rw [e3]; rfl)
  · intro c hc
    rw [gIf_ne _ _ _ _ hc, g3 c hc, e3, gIf_ne _ _ _ _ hc, gIf_ne _ _ _ _ hc, gIf_ne _ _ _ _ hc]
  · intro k h1 h2
    rw [gI_nk _ _ _ _ h1, g4 k (by omega), k3 k (by omega) (by omega) (by omega)]
  · rw [gI_nk _ _ _ _ (by omega), g4 x (by omega), e3, gI_nk _ _ _ _ (by omega), gI_nk _ _ _ _ (by omega), gI_eq]
  · rw [gI_nk _ _ _ _ (by omega), g4 (x + 1) (by omega), e3, gI_nk _ _ _ _ (by omega), gI_eq]
  · rw [gI_nk _ _ _ _ (by omega), g4 (x + 2) (by omega), e3, gI_eq]
  · intro t ht
    obtain ⟨q1, q2⟩ := g6 t ht (Nat.zero_le _)
    rw [gI_nk _ _ _ _ (by omega), gI_nk _ _ _ _ (by omega), q1, q2, k3 _ (by omega) (by omega) (by omega), k3 _ (by omega) (by omega) (by omega)]
    exact ⟨rfl, rfl⟩

/-! undo -/
theorem un_tabs {x : Nat} (hx : 36 ≤ x) (hx2 : x + 15 ≤ 486) : ∀ (d i n : Nat) (S : xS), RMr S → d + i = 6 → d < n → ∃ S', lX9_undo_67 n S 0 (nI x) (nI i) = lX9_undo_100 5000 S' 0 (nI x) 0 ∧ S'.2 = S.2 ∧ (∀ c, c ≠ 1 → gI S' c = gI S c) ∧ (∀ k, (k < 10 + i ∨ 16 ≤ k) → gI S' 1 k = gI S 1 k) ∧ (∀ t, i ≤ t → t < 6 → gI S' 1 (10 + t) = gI S 1 (x + 3 + t)) := by
  intro d
  induction d with
  | zero =>
    intro i n S hM hi hn
    obtain ⟨n, rfl⟩ : ∃ m, n = m + 1 := ⟨n - 1, by omega⟩
    have hi : i = 6 := by omega
    subst hi
    exact ⟨S, by rw [lX9_undo_67.eq_2, if_pos (by decide)], rfl, fun _ _ => rfl, fun _ _ => rfl, fun t h1 h2 => absurd h2 (by omega)⟩
  | succ d ih =>
    intro i n S hM hi hn
    obtain ⟨n, rfl⟩ : ∃ m, n = m + 1 := ⟨n - 1, by omega⟩
    obtain ⟨S', e1, e2, e3, e4, e5⟩ := ih (i + 1) n (pI S 1 (10 + i) (gI S 1 (x + 3 + i))) (hM.ofR rfl) (by omega) (by omega)
    have f1 : (nI x + 3) + nI i = nI (x + 3 + i) := by rw [show (3 : Int32) = nI 3 from rfl, nI_add, nI_add]
    have f2 : (10 : Int32) + nI i = nI (10 + i) := nI_add 10 i
    refine ⟨S', ?_, e2, fun c hc => (e3 c hc).trans (gIf_ne _ _ _ _ hc), fun k hk => (e4 k (by omega)).trans (gI_nk _ _ _ _ (by omega)), fun t h1 h2 => ?_⟩
    · rw [lX9_undo_67.eq_2, if_neg (show ¬ (6 : Int32) ≤ nI i from nI_ge (a := i) (b := 6) (by omega) (by decide)), rm_0 hM, Option.bind_some, Option.bind_some, f1, aI_nI (Y := Ym) (c := 1) (by show _ < 486; omega) (by decide), Option.bind_some, f2, sI_nI (Y := Ym) (c := 1) (by show _ < 486; omega) (by decide), Option.bind_some, nI_1, e1]
    · by_cases ht : t = i
      · subst ht
        rw [e4 _ (by omega), gI_eq]
      · rw [e5 t (by omega) h2, gI_nk _ _ _ _ (by omega)]
theorem un_fast {nS m : Nat} (hS : nS ≤ 6) : ∀ (d i n : Nat) (S : xS), RMr S → gI S 1 0 = nI nS → gI S 1 6 = nI m → d + i = nS → d < n → ∃ S', lX9_undo_147 n S 0 (nI i) = some (nI m, S') ∧ S'.2 = S.2 ∧ (∀ c, c ≠ 1 → gI S' c = gI S c) ∧ (∀ k, (∀ s, i ≤ s → s < nS → k ≠ 16 + 2 * s + 1) → gI S' 1 k = gI S 1 k) ∧ (∀ s, i ≤ s → s < nS → gI S' 1 (16 + 2 * s + 1) = 2) := by
  intro d
  induction d with
  | zero =>
    intro i n S hM h0 h6 hi hn
    obtain ⟨n, rfl⟩ : ∃ m, n = m + 1 := ⟨n - 1, by omega⟩
    have hi : i = nS := by omega
    subst hi
    refine ⟨S, ?_, rfl, fun _ _ => rfl, fun _ _ => rfl, fun t h1 h2 => absurd h2 (by omega)⟩
    rw [lX9_undo_147.eq_2, rm_0 hM, Option.bind_some, aI_lit (Y := Ym) (c := 1) (i := 0) 0 rfl (by decide) (by decide), Option.bind_some, h0, if_pos (nI_le (Nat.le_refl _) (by omega)), Option.bind_some, aI_lit (Y := Ym) (c := 1) (i := 6) 6 rfl (by decide) (by decide), Option.bind_some, h6]
  | succ d ih =>
    intro i n S hM h0 h6 hi hn
    obtain ⟨n, rfl⟩ : ∃ m, n = m + 1 := ⟨n - 1, by omega⟩
    obtain ⟨S', e1, e2, e3, e4, e5⟩ := ih (i + 1) n (pI S 1 (16 + 2 * i + 1) 2) (hM.ofR rfl) (by rw [gI_nk _ _ _ _ (by omega)]; exact h0) (by rw [gI_nk _ _ _ _ (by omega)]; exact h6) (by omega) (by omega)
    have f : ((16 : Int32) + (2 * nI i)) + 1 = nI (16 + 2 * i + 1) := by rw [show (2 : Int32) = nI 2 from rfl, show (16 : Int32) = nI 16 from rfl, pk_mul, nI_add, nI_1]
    refine ⟨S', ?_, e2, fun c hc => (e3 c hc).trans (gIf_ne _ _ _ _ hc), fun k hk => (e4 k (fun s h1 h2 => hk s (by omega) h2)).trans (gI_nk _ _ _ _ (hk i (Nat.le_refl _) (by omega))), fun s h1 h2 => ?_⟩
    · rw [lX9_undo_147.eq_2, rm_0 hM, Option.bind_some, aI_lit (Y := Ym) (c := 1) (i := 0) 0 rfl (by decide) (by decide), Option.bind_some, h0, if_neg (nI_ge (a := i) (b := nS) (by omega) (by omega)), Option.bind_some, f, sI_nI (Y := Ym) (c := 1) (by show _ < 486; omega) (by decide), Option.bind_some, nI_1, e1]
    · by_cases ht : s = i
      · subst ht
        rw [e4 _ (by omega), gI_eq]
      · exact e5 s (by omega) h2
theorem un_seats {x hs nS m : Nat} (hx : 36 ≤ x) (hx2 : x + 15 ≤ 486) (hh : hs ≤ nS) (hS : nS ≤ 6) : ∀ (d i n : Nat) (S : xS), RMr S → gI S 1 x = nI hs → gI S 1 0 = nI nS → gI S 1 6 = nI m → d + i = hs → d < n → ∃ S', lX9_undo_100 n S 0 (nI x) (nI i) = some (nI m, S') ∧ S'.2 = S.2 ∧ (∀ c, c ≠ 1 → gI S' c = gI S c) ∧ (∀ k, (∀ s, i ≤ s → s < nS → k ≠ 16 + 2 * s + 1) → gI S' 1 k = gI S 1 k) ∧ (∀ s, i ≤ s → s < hs → gI S' 1 (16 + 2 * s + 1) = gI S 1 (x + 9 + s)) ∧ (∀ s, hs ≤ s → s < nS → gI S' 1 (16 + 2 * s + 1) = 2) := by
  intro d
  induction d with
  | zero =>
    intro i n S hM hxs h0 h6 hi hn
    obtain ⟨n, rfl⟩ : ∃ m, n = m + 1 := ⟨n - 1, by omega⟩
    have hi : i = hs := by omega
    subst hi
    obtain ⟨S', e1, e2, e3, e4, e5⟩ := un_fast (m := m) hS (nS - i) i 5000 S hM h0 h6 (by omega) (by omega)
    refine ⟨S', ?_, e2, e3, e4, fun s h1 h2 => absurd h2 (by omega), e5⟩
    rw [lX9_undo_100.eq_2, rm_0 hM, Option.bind_some, aI_nI (Y := Ym) (c := 1) (by show _ < 486; omega) (by decide), Option.bind_some, hxs, if_pos (nI_le (Nat.le_refl _) (by omega)), Option.bind_some, aI_nI (Y := Ym) (c := 1) (by show _ < 486; omega) (by decide), Option.bind_some, hxs]
    exact e1
  | succ d ih =>
    intro i n S hM hxs h0 h6 hi hn
    obtain ⟨n, rfl⟩ : ∃ m, n = m + 1 := ⟨n - 1, by omega⟩
    obtain ⟨S', e1, e2, e3, e4, e5, e6⟩ := ih (i + 1) n (pI S 1 (16 + 2 * i + 1) (gI S 1 (x + 9 + i))) (hM.ofR rfl) (by rw [gI_nk _ _ _ _ (by omega)]; exact hxs) (by rw [gI_nk _ _ _ _ (by omega)]; exact h0) (by rw [gI_nk _ _ _ _ (by omega)]; exact h6) (by omega) (by omega)
    have f : ((16 : Int32) + (2 * nI i)) + 1 = nI (16 + 2 * i + 1) := by rw [show (2 : Int32) = nI 2 from rfl, show (16 : Int32) = nI 16 from rfl, pk_mul, nI_add, nI_1]
    have f9 : (nI x + 9) + nI i = nI (x + 9 + i) := by rw [show (9 : Int32) = nI 9 from rfl, nI_add, nI_add]
    refine ⟨S', ?_, e2, fun c hc => (e3 c hc).trans (gIf_ne _ _ _ _ hc), fun k hk => (e4 k (fun s h1 h2 => hk s (by omega) h2)).trans (gI_nk _ _ _ _ (hk i (Nat.le_refl _) (by omega))), fun s h1 h2 => ?_, e6⟩
    · rw [lX9_undo_100.eq_2, rm_0 hM, Option.bind_some, aI_nI (Y := Ym) (c := 1) (by show _ < 486; omega) (by decide), Option.bind_some, hxs, if_neg (nI_ge (a := i) (b := hs) (by omega) (by omega)), Option.bind_some, Option.bind_some, f9, aI_nI (Y := Ym) (c := 1) (by show _ < 486; omega) (by decide), Option.bind_some, f, sI_nI (Y := Ym) (c := 1) (by show _ < 486; omega) (by decide), Option.bind_some, nI_1, e1]
    · by_cases ht : s = i
      · subst ht
        rw [e4 _ (by omega), gI_eq]
      · rw [e5 s (by omega) h2, gI_nk _ _ _ _ (by omega)]

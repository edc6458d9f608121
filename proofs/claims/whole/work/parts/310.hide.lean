/-! hide, give -/
theorem i_sub_neg (x y : Int32) : x - (-y) = x + y := by rw [Int32.sub_eq_add_neg, Int32.neg_neg]
theorem i_add_neg (x y : Int32) : x + (-y) = x - y := (Int32.sub_eq_add_neg x y).symm
/-- a table's three numbers, written anew -/
theorem RV.tab {Sc Sm Sc2 Sm2 : xS} {nS nT ns sc nx t d l q : Nat} (h : RV Sc Sm 1 1 nS nT ns sc nx) (ht : t < 2) (hd : d < 1000) (hlq : l + q ≤ 60) (c0 : ∀ c, c ≠ 2 → gI Sc2 c = gI Sc c) (c1 : gI Sc2 2 (3 * t) = nI d) (c2 : gI Sc2 2 (3 * t + 1) = nI l) (c3 : gI Sc2 2 (3 * t + 2) = nI q) (c4 : ∀ k, k ≠ 3 * t → k ≠ 3 * t + 1 → k ≠ 3 * t + 2 → gI Sc2 2 k = gI Sc 2 k) (m1 : gI Sm2 1 (10 + 3 * t) = nI d) (m2 : gI Sm2 1 (10 + 3 * t + 1) = nI l) (m3 : gI Sm2 1 (10 + 3 * t + 2) = nI q) (m4 : ∀ k, k ≠ 10 + 3 * t → k ≠ 10 + 3 * t + 1 → k ≠ 10 + 3 * t + 2 → gI Sm2 1 k = gI Sm 1 k) : RV Sc2 Sm2 1 1 nS nT ns sc nx := by
  obtain ⟨b1, b2, b3, b4, b5, b6, b7, b8, b9, b10, b11, b12, b13⟩ := h
  obtain ⟨n1, n2, n3, n4, n5⟩ := id b1
  have b9' : okRow (gI Sc2 2) nS := by
    obtain ⟨⟨d1, l1, q1, h1, h2, h3, h4, h5⟩, ⟨d', l', q', g1, g2, g3, g4, g5⟩, hss, h12, h13⟩ := b9
    rcases (show t = 0 ∨ t = 1 by omega) with rfl | rfl
    · refine ⟨⟨d, l, q, hd, hlq, c1, c2, c3⟩, ⟨d', l', q', g1, g2, by rw [c4 3 (by omega) (by omega) (by omega)]; exact g3, by rw [c4 4 (by omega) (by omega) (by omega)]; exact g4, by rw [c4 5 (by omega) (by omega) (by omega)]; exact g5⟩, fun s hs => ?_, by rw [c4 12 (by omega) (by omega) (by omega)]; exact h12, by rw [c4 13 (by omega) (by omega) (by omega)]; exact h13⟩
      rw [c4 (6 + s) (by omega) (by omega) (by omega)]
      exact hss s hs
    · refine ⟨⟨d1, l1, q1, h1, h2, by rw [c4 0 (by omega) (by omega) (by omega)]; exact h3, by rw [c4 1 (by omega) (by omega) (by omega)]; exact h4, by rw [c4 2 (by omega) (by omega) (by omega)]; exact h5⟩, ⟨d, l, q, hd, hlq, c1, c2, c3⟩, fun s hs => ?_, by rw [c4 12 (by omega) (by omega) (by omega)]; exact h12, by rw [c4 13 (by omega) (by omega) (by omega)]; exact h13⟩
      rw [c4 (6 + s) (by omega) (by omega) (by omega)]
      exact hss s hs
  unfold RV
  rw [c0 1 (by decide), c0 (1 + 2) (by decide), c0 (1 + 3) (by decide), c0 (1 + 4) (by decide), m4 0 (by omega) (by omega) (by omega), m4 1 (by omega) (by omega) (by omega), m4 2 (by omega) (by omega) (by omega), m4 3 (by omega) (by omega) (by omega), m4 4 (by omega) (by omega) (by omega), m4 5 (by omega) (by omega) (by omega), m4 6 (by omega) (by omega) (by omega), m4 7 (by omega) (by omega) (by omega)]
  refine ⟨b1, b2, b3, b4, b5, b6, b7, b8, b9', ⟨?_, ?_, fun k hk => ?_⟩, fun s hs => ?_, fun k hk => ?_, fun j hj => ?_⟩
  · exact b10.1.trans (c4 12 (by omega) (by omega) (by omega)).symm
  · exact b10.2.1.trans (c4 13 (by omega) (by omega) (by omega)).symm
  · show gI Sm2 1 (10 + k) = gI Sc2 2 k
    by_cases k0 : k = 3 * t
    · subst k0; rw [m1, c1]
    by_cases k1 : k = 3 * t + 1
    · subst k1; rw [c2]; exact m2
    by_cases k2 : k = 3 * t + 2
    · subst k2; rw [c3]; exact m3
    rw [m4 _ (by omega) (by omega) (by omega), c4 _ k0 k1 k2]
    exact b10.2.2 k hk
  · show gI Sm2 1 (16 + 2 * s) = gI Sc (1 + 3) s ∧ gI Sm2 1 (16 + 2 * s + 1) = gI Sc2 2 (6 + s) ∧ bd (gI Sc (1 + 3) s) 10
    rw [m4 _ (by omega) (by omega) (by omega), m4 _ (by omega) (by omega) (by omega), c4 _ (by omega) (by omega) (by omega)]
    exact b11 s hs
  · rw [m4 _ (by omega) (by omega) (by omega)]
    exact b12 k hk
  · obtain ⟨hs', e1, e2, e3, e4, e5, e6, e7⟩ := b13 j hj
    refine ⟨hs', e1, ?_, e3, ?_, ?_, fun k hk => ?_, fun u hu => ?_⟩
    · rw [m4 _ (by omega) (by omega) (by omega)]; exact e2
    · rw [m4 _ (by omega) (by omega) (by omega)]; exact e4
    · rw [m4 _ (by omega) (by omega) (by omega)]; exact e5
    · rw [m4 _ (by omega) (by omega) (by omega)]; exact e6 k hk
    · rw [m4 _ (by omega) (by omega) (by omega)]; exact e7 u hu
theorem leftAt_eq {S : xS} {t : Nat} (ht : t < 2) : mX1_leftAt S (nI t) = some (nI (3 * t + 1), S) := by
  rcases (show t = 0 ∨ t = 1 by omega) with rfl | rfl <;> rfl
theorem hiddenAt_eq {S : xS} {t : Nat} (ht : t < 2) : mX1_hiddenAt S (nI t) = some (nI (3 * t + 2), S) := by
  rcases (show t = 0 ∨ t = 1 by omega) with rfl | rfl <;> rfl
theorem tab_at {f : Nat → Int32} {nS t : Nat} (h : okRow f nS) (ht : t < 2) : ∃ d l q, d < 1000 ∧ l + q ≤ 60 ∧ f (3 * t) = nI d ∧ f (3 * t + 1) = nI l ∧ f (3 * t + 2) = nI q := by
  rcases (show t = 0 ∨ t = 1 by omega) with rfl | rfl
  · exact h.1
  · exact h.2.1
/-- moved: from a place of the row to another -/
theorem moved_no {S : xS} (hC : RCr S) {i j x : Nat} {k : Int32} (hi : i < 14) (hx : gI S 2 i = nI x) (hno : k < 1 ∨ 9 < k ∨ ¬ k ≤ nI x) : mX8_moved S 0 (nI i) (nI j) k = some (0, S) := by
  unfold mX8_moved
  by_cases h1 : k < 1
  · rw [if_pos h1]
  by_cases h2 : 9 < k
  · rw [if_neg h1, if_pos h2]
  have h3 : ¬ k ≤ nI x := hno.elim (fun q => absurd q h1) (fun q => q.elim (fun q => absurd q h2) id)
  rw [if_neg h1, if_neg h2, rc_0_0 hC, Option.bind_some, get_eq i rfl hi (rc_1_0 hC) rfl, Option.bind_some]
  show (if k ≤ gI S 2 i then _ else some ((0 : Int32), S)) = _
  rw [hx, if_neg h3]
theorem moved_yes {S S' : xS} (hC : RCr S) (hC' : RCr S') {i j x : Nat} {k : Int32} (hi : i < 14) (hj : j < 14) (hij : i ≠ j) (hx : gI S 2 i = nI x) (h1 : ¬ k < 1) (h2 : ¬ 9 < k) (h3 : k ≤ nI x) (hr : mX1_remember S 1 = some S') : mX8_moved S 0 (nI i) (nI j) k = some (1, pI (pI S' 2 i (gI S' 2 i - k)) 2 j (gI S' 2 j + k)) := by
  unfold mX8_moved
  rw [if_neg h1, if_neg h2, rc_0_0 hC, Option.bind_some, get_eq i rfl hi (rc_1_0 hC) rfl, Option.bind_some]
  show (if k ≤ gI S 2 i then _ else some ((0 : Int32), S)) = _
  have hC2 : RCr (pI S' 2 i (gI S' 2 i - k)) := hC'.ofR rfl
  rw [hx, if_pos h3, rc_0_0 hC, Option.bind_some, hr, Option.bind_some, rc_0_0 hC', Option.bind_some, Option.bind_some, get_eq i rfl hi (rc_1_0 hC') rfl, Option.bind_some]
  dsimp only
  rw [put_eq i rfl hi (rc_1_0 hC') rfl, Option.bind_some, rc_0_0 hC2, Option.bind_some, Option.bind_some, get_eq j rfl hj (rc_1_0 hC2) rfl, Option.bind_some]
  dsimp only
  rw [put_eq j rfl hj (rc_1_0 hC2) rfl, gI_nk _ _ _ _ (Ne.symm hij)]
  rfl

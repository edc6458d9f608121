/-! played -/
theorem txt_0 {S : xS} (hC : RCr S) {t : Nat} (ht : t < 4) : dO Yc (gR S (26 + 6 * t) 0) 10 = some (26 + 6 * t + 1) := by
  rcases (show t = 0 ∨ t = 1 ∨ t = 2 ∨ t = 3 by omega) with rfl | rfl | rfl | rfl
  · exact rc_26_0 hC
  · exact rc_32_0 hC
  · exact rc_38_0 hC
  · exact rc_44_0 hC
theorem txt_1 {S : xS} (hC : RCr S) {t : Nat} (ht : t < 4) : dO Yc (gR S (26 + 6 * t) 1) 10 = some (26 + 6 * t + 2) := by
  rcases (show t = 0 ∨ t = 1 ∨ t = 2 ∨ t = 3 by omega) with rfl | rfl | rfl | rfl
  · exact rc_26_1 hC
  · exact rc_32_1 hC
  · exact rc_38_1 hC
  · exact rc_44_1 hC
theorem txt_7 {S : xS} (hC : RCr S) {t : Nat} (ht : t < 4) : dO Yc (gR S (26 + 6 * t) 7) 10 = some (26 + 6 * t + 3) := by
  rcases (show t = 0 ∨ t = 1 ∨ t = 2 ∨ t = 3 by omega) with rfl | rfl | rfl | rfl
  · exact rc_26_7 hC
  · exact rc_32_7 hC
  · exact rc_38_7 hC
  · exact rc_44_7 hC
theorem txt_8 {S : xS} (hC : RCr S) {t : Nat} (ht : t < 4) : dO Yc (gR S (26 + 6 * t) 8) 10 = some (26 + 6 * t + 4) := by
  rcases (show t = 0 ∨ t = 1 ∨ t = 2 ∨ t = 3 by omega) with rfl | rfl | rfl | rfl
  · exact rc_26_8 hC
  · exact rc_32_8 hC
  · exact rc_38_8 hC
  · exact rc_44_8 hC
theorem txt_9 {S : xS} (hC : RCr S) {t : Nat} (ht : t < 4) : dO Yc (gR S (26 + 6 * t) 9) 10 = some (26 + 6 * t + 5) := by
  rcases (show t = 0 ∨ t = 1 ∨ t = 2 ∨ t = 3 by omega) with rfl | rfl | rfl | rfl
  · exact rc_26_9 hC
  · exact rc_32_9 hC
  · exact rc_38_9 hC
  · exact rc_44_9 hC
theorem xn_txt {t : Nat} (ht : t < 4) : xn Yc (26 + 6 * t + 1) = 300 ∧ xn Yc (26 + 6 * t + 2) = 300 ∧ xn Yc (26 + 6 * t + 3) = 24 ∧ xn Yc (26 + 6 * t + 4) = 24 ∧ xn Yc (26 + 6 * t + 5) = 24 := by
  rcases (show t = 0 ∨ t = 1 ∨ t = 2 ∨ t = 3 by omega) with rfl | rfl | rfl | rfl <;> exact ⟨rfl, rfl, rfl, rfl, rfl⟩
/-- the relation, with the number of texts held fast -/
def RTn (nT0 : Nat) (Sc Sm : xS) (k : Nat) : Prop := RTx Sc Sm k ∧ k = nT0
theorem RTn_loc (nT0 : Nat) : RTloc (RTn nT0) := fun Sc Sm Sc' Sm' k h1 h2 h => ⟨RTx_loc Sc Sm Sc' Sm' k h1 h2 h.1, h.2⟩
theorem played_c {S : xS} (hC : RCr S) {t n i m : Nat} (ht : t < 4) (hn : n ≤ 24) (hi : i < n) (h10 : gI S (26 + 6 * t) 10 = nI n) : lX8_played_30 (m + 1) S 0 (some (26 + 6 * t)) (nI i) = (if (gI S (26 + 6 * t + 3) i : Int32) = 202 then ((mX8_seat S 0 (gI S (26 + 6 * t + 4) i) (gI S (26 + 6 * t + 5) i)).bind fun q14 => jX8_played_177 (lX8_played_30 m) q14.2 0 (some (26 + 6 * t)) (nI i) q14.1) else (if (gI S (26 + 6 * t + 3) i : Int32) = 203 then ((mX8_hide S 0 (gI S (26 + 6 * t + 5) i) (gI S (26 + 6 * t + 4) i)).bind fun q16 => if (q16.1 = (-1) : Prop) then (jX8_played_130 (lX8_played_30 m) q16.2 0 (some (26 + 6 * t)) (nI i) 0) else (jX8_played_130 (lX8_played_30 m) q16.2 0 (some (26 + 6 * t)) (nI i) 1)) else (if (gI S (26 + 6 * t + 3) i : Int32) = 204 then ((mX8_give S 0 (gI S (26 + 6 * t + 5) i) (gI S (26 + 6 * t + 4) i)).bind fun q19 => if (q19.1 = (-1) : Prop) then (jX8_played_152 (lX8_played_30 m) q19.2 0 (some (26 + 6 * t)) (nI i) 0) else (jX8_played_152 (lX8_played_30 m) q19.2 0 (some (26 + 6 * t)) (nI i) 1)) else (if (gI S (26 + 6 * t + 3) i : Int32) = 205 then ((mX8_pass S 0 (gI S (26 + 6 * t + 4) i)).bind fun q22 => if (q22.1 = (-1) : Prop) then (jX8_played_172 (lX8_played_30 m) q22.2 0 (some (26 + 6 * t)) (nI i) 0) else (jX8_played_172 (lX8_played_30 m) q22.2 0 (some (26 + 6 * t)) (nI i) 1)) else (jX8_played_177 (lX8_played_30 m) S 0 (some (26 + 6 * t)) (nI i) 1))))) := by
  obtain ⟨x1, x2, x3, x4, x5⟩ := xn_txt ht
  rw [lX8_played_30.eq_2, dO_text ht, Option.bind_some, h10, if_neg (nI_ge hi (by omega)), if_neg (show ¬ (24 : Int32) ≤ nI i from nI_ge (a := i) (b := 24) (by omega) (by decide)), Option.bind_some, txt_8 hC ht, Option.bind_some, aI_nI (by omega) (by omega), Option.bind_some, Option.bind_some, txt_9 hC ht, Option.bind_some, aI_nI (by omega) (by omega), Option.bind_some, Option.bind_some, txt_7 hC ht, Option.bind_some, aI_nI (by omega) (by omega), Option.bind_some]
theorem neg1_lt {r : Int32} {v : Nat} (hv : v < 100000) (e : r = nI v) : ¬ r = -1 ∧ ¬ r < 0 := by
  have h : ¬ r < 0 := by rw [e]; exact nI_pos (by omega)
  exact ⟨fun q => h (by rw [q]; decide), h⟩
theorem ixm1 (x : Nat) : nI x + 2 = nI (x + 2) := nI_add x 2
theorem played_go {nT0 t : Nat} (ht : t < nT0) : ∀ e i fc fm Sc Sm, e + i = 24 → e < fc → e < fm → RelW (RTn nT0) Sc Sm → ∃ r Sc' Sm', lX8_played_30 fc Sc 0 (some (26 + 6 * t)) (nI i) = some (r, Sc') ∧ lX9_played_21 fm Sm 0 (nI t) (nI i) = some (r, Sm') ∧ RelW (RTn nT0) Sc' Sm' := by
  intro e
  induction e with
  | zero =>
    intro i fc fm Sc Sm hi hfc hfm h
    obtain ⟨fc, rfl⟩ : ∃ q, fc = q + 1 := ⟨fc - 1, by omega⟩
    obtain ⟨fm, rfl⟩ : ∃ q, fm = q + 1 := ⟨fm - 1, by omega⟩
    obtain ⟨nS, nT, ns, sc, nx, nS', nT', ns', sc', nx', hV, hV', hT, hRt, rfl⟩ := h.2.2.2.1
    have ht4 : t < 4 := by have := hV.1; omega
    obtain ⟨n, h1, h2, h3, h4, h5, h6⟩ := hRt t ht
    refine ⟨-1, Sc, Sm, ?_, ?_, h⟩
    · rw [lX8_played_30.eq_2, dO_text ht4, Option.bind_some, h2, if_pos (nI_le (by omega) (by omega))]
    · rw [lX9_played_21.eq_2, rm_2 h.2.1, Option.bind_some, ix680, aI_nI (Y := Ym) (c := 3) (by show _ < 2720; omega) (by decide), Option.bind_some, h3, if_pos (nI_le (by omega) (by omega))]
  | succ e ih =>
    intro i fc fm Sc Sm hi hfc hfm h
    obtain ⟨fc, rfl⟩ : ∃ q, fc = q + 1 := ⟨fc - 1, by omega⟩
    obtain ⟨fm, rfl⟩ : ∃ q, fm = q + 1 := ⟨fm - 1, by omega⟩
    obtain ⟨nS, nT, ns, sc, nx, nS', nT', ns', sc', nx', hV, hV', hT, hRt, enT⟩ := h.2.2.2.1
    have ht4 : t < 4 := by have := hV.1; omega
    obtain ⟨n, h1, h2, h3, h4, h5, h6⟩ := hRt t (by omega)
    by_cases hin : n ≤ i
    · refine ⟨-1, Sc, Sm, ?_, ?_, h⟩
      · rw [lX8_played_30.eq_2, dO_text ht4, Option.bind_some, h2, if_pos (nI_le (by omega) (by omega))]
      · rw [lX9_played_21.eq_2, rm_2 h.2.1, Option.bind_some, ix680, aI_nI (Y := Ym) (c := 3) (by show _ < 2720; omega) (by decide), Option.bind_some, h3, if_pos (nI_le (by omega) (by omega))]
    · obtain ⟨s, s1, s2, s3, s4, s5⟩ := h4 i (by omega)
      have mstep : lX9_played_21 (fm + 1) Sm 0 (nI t) (nI i) = (mX9_isPlayed Sm 0 (nI (680 * t + 1 + 3 * i))).bind fun q4 => if (q4.1 = 0 : Prop) then (some (nI i, q4.2)) else (lX9_played_21 fm q4.2 0 (nI t) (nI (i + 1))) := by
        rw [lX9_played_21.eq_2, rm_2 h.2.1, Option.bind_some, ixk, ix680, aI_nI (Y := Ym) (c := 3) (by show _ < 2720; omega) (by decide), Option.bind_some, h3, if_neg (nI_ge (by omega) (by omega)), nI_1]
      rw [played_c h.1 ht4 h1 (by omega) h2, mstep, s2]
      unfold mX9_isPlayed
      have A1 : aI Ym Sm 3 (nI (680 * t + 1 + 3 * i) + 1) = some (gI Sm 3 (680 * t + 1 + 3 * i + 1)) := by rw [nI_1]; exact aI_nI (Y := Ym) (c := 3) (by show _ < 2720; omega) (by decide)
      have A2 : aI Ym Sm 3 (nI (680 * t + 1 + 3 * i) + 2) = some (gI Sm 3 (680 * t + 1 + 3 * i + 2)) := by rw [ixm1]; exact aI_nI (Y := Ym) (c := 3) (by show _ < 2720; omega) (by decide)
      rw [rm_2 h.2.1, Option.bind_some, aI_nI (Y := Ym) (c := 3) (by show _ < 2720; omega) (by decide), Option.bind_some, s3]
      simp only [Option.bind_some, A1, A2]
      rcases (show s = 0 ∨ s = 1 ∨ s = 2 ∨ s = 3 ∨ s = 4 ∨ s = 5 by omega) with rfl | rfl | rfl | rfl | rfl | rfl
      · rw [if_neg (by decide), if_neg (by decide), if_neg (by decide), if_neg (by decide), if_neg (by decide), if_neg (by decide), if_neg (by decide), if_neg (by decide), Option.bind_some, if_neg n10]
        unfold jX8_played_177
        rw [if_neg n10, nI_1]
        exact ih (i + 1) fc fm Sc Sm (by omega) (by omega) (by omega) h
      · rw [if_neg (by decide), if_neg (by decide), if_neg (by decide), if_neg (by decide), if_neg (by decide), if_neg (by decide), if_neg (by decide), if_neg (by decide), Option.bind_some, if_neg n10]
        unfold jX8_played_177
        rw [if_neg n10, nI_1]
        exact ih (i + 1) fc fm Sc Sm (by omega) (by omega) (by omega) h
      · rw [if_pos (by decide), if_pos (by decide), s4 (by decide), s5 (by decide) (by decide)]
        obtain ⟨r, Sc1, Sm1, q1, q2, q3, q4⟩ := seat_ok (RTn_loc nT0) (gI Sm 3 (680 * t + 1 + 3 * i + 1)) (gI Sm 3 (680 * t + 1 + 3 * i + 2)) h
        rw [q1, q2, Option.bind_some, Option.bind_some]
        unfold jX8_played_177
        dsimp only
        rcases q4 with rfl | rfl
        · exact ⟨nI i, Sc1, Sm1, by rw [if_pos rfl], by rw [zk0]; rfl, q3⟩
        · rw [zk1, Option.bind_some, Option.bind_some, if_neg n10, if_neg n10, nI_1]
          exact ih (i + 1) fc fm Sc1 Sm1 (by omega) (by omega) (by omega) q3
      · rw [if_neg (by decide), if_pos (by decide), if_neg (by decide), if_pos (by decide), s4 (by decide), s5 (by decide) (by decide)]
        obtain ⟨r, Sc1, Sm1, q1, q2, q3, q4⟩ := hide_ok (RTn_loc nT0) (gI Sm 3 (680 * t + 1 + 3 * i + 2)) (gI Sm 3 (680 * t + 1 + 3 * i + 1)) h
        rw [q1, q2, Option.bind_some, Option.bind_some]
        unfold jX8_played_130 jX8_played_177
        dsimp only
        rcases q4 with rfl | ⟨v, hv, e⟩
        · exact ⟨nI i, Sc1, Sm1, by rw [if_pos rfl, if_pos rfl], by rw [if_pos (by decide)]; rfl, q3⟩
        · obtain ⟨z1, z2⟩ := neg1_lt (by omega) e
          rw [if_neg z1, if_neg z2, Option.bind_some, if_neg n10, if_neg n10, nI_1]
          exact ih (i + 1) fc fm Sc1 Sm1 (by omega) (by omega) (by omega) q3
      · rw [if_neg (by decide), if_neg (by decide), if_pos (by decide), if_neg (by decide), if_neg (by decide), if_pos (by decide), s4 (by decide), s5 (by decide) (by decide)]
        obtain ⟨r, Sc1, Sm1, q1, q2, q3, q4⟩ := give_ok (RTn_loc nT0) (gI Sm 3 (680 * t + 1 + 3 * i + 2)) (gI Sm 3 (680 * t + 1 + 3 * i + 1)) h
        rw [q1, q2, Option.bind_some, Option.bind_some]
        unfold jX8_played_152 jX8_played_177
        dsimp only
        rcases q4 with rfl | ⟨v, hv, e⟩
        · exact ⟨nI i, Sc1, Sm1, by rw [if_pos rfl, if_pos rfl], by rw [if_pos (by decide)]; rfl, q3⟩
        · obtain ⟨z1, z2⟩ := neg1_lt (by omega) e
          rw [if_neg z1, if_neg z2, Option.bind_some, if_neg n10, if_neg n10, nI_1]
          exact ih (i + 1) fc fm Sc1 Sm1 (by omega) (by omega) (by omega) q3
      · rw [if_neg (by decide), if_neg (by decide), if_neg (by decide), if_pos (by decide), if_neg (by decide), if_neg (by decide), if_neg (by decide), if_pos (by decide), s4 (by decide)]
        obtain ⟨r, Sc1, Sm1, q1, q2, q3, q4⟩ := pass_ok (RTn_loc nT0) (fun _ _ _ q => q.1) (gI Sm 3 (680 * t + 1 + 3 * i + 1)) h
        rw [q1, q2, Option.bind_some, Option.bind_some]
        unfold jX8_played_172 jX8_played_177
        dsimp only
        rcases q4 with rfl | ⟨v, hv, e⟩
        · exact ⟨nI i, Sc1, Sm1, by rw [if_pos rfl, if_pos rfl], by rw [if_pos (by decide)]; rfl, q3⟩
        · obtain ⟨z1, z2⟩ := neg1_lt hv e
          rw [if_neg z1, if_neg z2, Option.bind_some, if_neg n10, if_neg n10, nI_1]
          exact ih (i + 1) fc fm Sc1 Sm1 (by omega) (by omega) (by omega) q3
theorem sim_played_ok : sim_played (RelW RTx) := by
  intro Sc Sm p h
  have hC := h.1
  have hM := h.2.1
  obtain ⟨h1, h2, h3, ⟨nS, nT, ns, sc, nx, nS', nT', ns', sc', nx', hV, hV', hT, hRt⟩, h5, h6⟩ := id h
  have hn : RelW (RTn nT) Sc Sm := ⟨h1, h2, h3, ⟨nS, nT, ns, sc, nx, nS', nT', ns', sc', nx', hV, hV', hT, hRt, rfl⟩, h5, h6⟩
  obtain ⟨a1, a2, a3, a4, a5, a6, a7, a8, a9, a10, a11, a12, a13⟩ := hV
  unfold mX8_played mX9_played
  rw [rc_0_0 hC, Option.bind_some, a3.1, rm_0 hM, Option.bind_some, aI_lit (Y := Ym) (c := 1) (i := 4) 4 rfl (by decide) (by decide), Option.bind_some, isIn_eq, Option.bind_some, a3.2]
  by_cases q1 : p < 0
  · refine ⟨-2, Sc, Sm, ?_, by rw [if_pos (Or.inl q1), if_pos rfl], h⟩
    by_cases q2 : nI nT ≤ p
    · rw [if_pos q2]
      rfl
    · rw [if_neg q2]
      unfold mX8_textAt
      rw [if_pos q1]
      rfl
  by_cases q2 : nI nT ≤ p
  · refine ⟨-2, Sc, Sm, ?_, by rw [if_pos (Or.inr ((lt_pred6 (by omega)).mpr (le_nlt q2))), if_pos rfl], h⟩
    rw [if_pos q2]
    rfl
  · obtain ⟨t, ht', rfl⟩ := nI_of q1
    have ht : t < nT := (nI_ltI ht' (by omega)).mp (nle_lt q2)
    obtain ⟨r, Sc', Sm', r1, r2, r3⟩ := played_go ht 24 0 5000 5000 Sc Sm rfl (by decide) (by decide) hn
    refine ⟨r, Sc', Sm', ?_, ?_, r3.weak (fun _ _ _ q => q.1)⟩
    · rw [if_neg q2, textAt_some hC (by omega), Option.bind_some]
      unfold jX8_played_20
      rw [if_neg (fun q => by cases q)]
      exact r1
    · rw [if_neg (not_or2 q1 (fun q => (lt_pred6 (by omega)).mp q (nle_lt q2))), if_neg n10]
      exact r2

/-! THE LAWS: slicesAt and slicesOf -/
theorem law_cases {Sc Sm : xS} (h : RelW RTx Sc Sm) : (gR Sc 12 3 = none ∧ gI Sm 1 5 = -1) ∨ ∃ t n, t < 4 ∧ n ≤ 24 ∧ gR Sc 12 3 = some (26 + 6 * t) ∧ gI Sm 1 5 = nI t ∧ gI Sm 3 (680 * t) = nI n ∧ TLaw Sc Sm t n 0 3 ∧ TLaw Sc Sm t n 1 6 := by
  obtain ⟨nS, nT, ns, sc, nx, nS', nT', ns', sc', nx', hV, hV', hT, hRt⟩ := h.2.2.2.1
  obtain ⟨a1, a2, a3, a4, a5, a6, a7, a8, a9, a10, a11, a12, a13⟩ := hV
  rcases h.2.2.1.1 with ⟨k1, k2⟩ | ⟨t, k0, k1, k2⟩
  · exact Or.inl ⟨k2, a8.1.symm.trans k1⟩
  · have e5 : gI Sm 1 5 = nI t := a8.1.symm.trans k1
    have ht : t < nT := by
      rcases a8.2 with q | ⟨v, q1, q2⟩
      · exfalso
        have := e5.symm.trans q
        rcases (show t = 0 ∨ t = 1 ∨ t = 2 ∨ t = 3 by omega) with rfl | rfl | rfl | rfl <;> exact absurd this (by decide)
      · have := (nI_eq (by omega) (by omega)).mp (e5.symm.trans q2)
        omega
    obtain ⟨n, h1, h2, h3, h4, h5, h6⟩ := hRt t ht
    exact Or.inr ⟨t, n, k0, h1, k2, e5, h3, h5, h6⟩
/-- what the laws look at -/
def CB (Sc S : xS) : Prop := RCr S ∧ gR S 12 3 = gR Sc 12 3 ∧ gI S 4 = gI Sc 4 ∧ ∀ c, 26 ≤ c → gI S c = gI Sc c
def MB (Sm S : xS) : Prop := RMr S ∧ gI S 3 = gI Sm 3 ∧ gI S 1 5 = gI Sm 1 5 ∧ gI S 1 0 = gI Sm 1 0 ∧ ∀ s, s < 6 → gI S 1 (16 + 2 * s) = gI Sm 1 (16 + 2 * s)
theorem CB.step {Sc S S' : xS} (h : CB Sc S) (hr : S'.2.2 = S.2.2) (hc : ∀ c, c = 4 ∨ 26 ≤ c → gI S' c = gI S c) : CB Sc S' := ⟨h.1.ofR hr, by rw [← h.2.1]; unfold gR; rw [hr], (hc 4 (Or.inl rfl)).trans h.2.2.1, fun c q => (hc c (Or.inr q)).trans (h.2.2.2 c q)⟩
theorem MB.step {Sm S S' : xS} (h : MB Sm S) (hr : S'.2.2 = S.2.2) (hc : ∀ c, c = 1 ∨ c = 3 → gI S' c = gI S c) : MB Sm S' := ⟨h.1.ofR hr, (hc 3 (Or.inr rfl)).trans h.2.1, by rw [hc 1 (Or.inl rfl)]; exact h.2.2.1, by rw [hc 1 (Or.inl rfl)]; exact h.2.2.2.1, fun s hs => by rw [hc 1 (Or.inl rfl)]; exact h.2.2.2.2 s hs⟩
/-- the frames of one working of a law -/
def FrC (S S' : xS) : Prop := S'.2 = S.2 ∧ ∀ c, c ≠ 15 → c ≠ 16 → gI S' c = gI S c
def FrM (S S' : xS) : Prop := S'.2.2 = S.2.2 ∧ (∀ c, c ≠ 7 → S'.2.1 c = S.2.1 c) ∧ ∀ c, c ≠ 6 → c ≠ 8 → gI S' c = gI S c
theorem tell_eq {S : xS} (hC : RCr S) (a b c : Int32) : mX5_tell S 14 a b c = some (pI (pI (pI S 15 0 a) 15 1 b) 15 2 c) := by
  unfold mX5_tell
  rw [rc_14_0 hC, Option.bind_some, sI_lit (Y := Yc) (c := 15) (i := 0) 0 rfl (by decide) (by decide), Option.bind_some, gR_pI, rc_14_0 hC, Option.bind_some, sI_lit (Y := Yc) (c := 15) (i := 1) 1 rfl (by decide) (by decide), Option.bind_some, gR_pI, gR_pI, rc_14_0 hC, Option.bind_some, sI_lit (Y := Yc) (c := 15) (i := 2) 2 rfl (by decide) (by decide)]
  rfl
theorem tellEater_eq {S : xS} (hC : RCr S) (a b c : Int32) : mX5_tellEater S 14 a b c = some (pI (pI (pI S 15 3 a) 15 4 b) 15 5 c) := by
  unfold mX5_tellEater
  rw [rc_14_0 hC, Option.bind_some, sI_lit (Y := Yc) (c := 15) (i := 3) 3 rfl (by decide) (by decide), Option.bind_some, gR_pI, rc_14_0 hC, Option.bind_some, sI_lit (Y := Yc) (c := 15) (i := 4) 4 rfl (by decide) (by decide), Option.bind_some, gR_pI, gR_pI, rc_14_0 hC, Option.bind_some, sI_lit (Y := Yc) (c := 15) (i := 5) 5 rfl (by decide) (by decide)]
  rfl
theorem dO_text {t : Nat} (ht : t < 4) : dO Yc (some (26 + 6 * t)) 6 = some (26 + 6 * t) := by
  rcases (show t = 0 ∨ t = 1 ∨ t = 2 ∨ t = 3 by omega) with rfl | rfl | rfl | rfl <;> rfl
def SLc (Sc : xS) (sl : Nat → Nat → Nat → Nat) : Prop := ∀ S, CB Sc S → ∀ t d w, t < 2 → d < 1000 → w < 2000 → ∃ S', mX3_slicesAt S 12 (nI t) (nI d) (nI w) = some (nI (sl t d w), S') ∧ FrC S S'
def SLm (Sm : xS) (sl : Nat → Nat → Nat → Nat) : Prop := ∀ S, MB Sm S → ∀ t d w, t < 2 → d < 1000 → w < 2000 → ∃ S', mX9_slicesOf S 0 (nI t) (nI d) (nI w) = some (nI (sl t d w), S') ∧ FrM S S'
/-- slicesOf: the names told, then sumOf -/
theorem slicesOf_tell {S : xS} (hM : RMr S) (a b c : Int32) : mX9_slicesOf S 0 a b c = (mX9_sumOf (pI (pI (pI S 6 0 b) 6 1 a) 6 2 c) 0 0 1 60 12).bind fun q7 => some (q7.1, q7.2) := by
  unfold mX9_slicesOf
  rw [rm_22 hM, Option.bind_some, sI_lit (Y := Ym) (c := 6) (i := 0) 0 rfl (by decide) (by decide), Option.bind_some, gR_pI, rm_22 hM, Option.bind_some, sI_lit (Y := Ym) (c := 6) (i := 1) 1 rfl (by decide) (by decide), Option.bind_some, gR_pI, gR_pI, rm_22 hM, Option.bind_some, sI_lit (Y := Ym) (c := 6) (i := 2) 2 rfl (by decide) (by decide), Option.bind_some]
theorem slices_law {Sc Sm : xS} (h : RelW RTx Sc Sm) : ∃ sl : Nat → Nat → Nat → Nat, (∀ t d w, 1 ≤ sl t d w ∧ sl t d w ≤ 60) ∧ SLc Sc sl ∧ SLm Sm sl := by
  have fr3 : ∀ (S : xS) (a b c : Int32), FrM S (pI (pI (pI S 6 0 b) 6 1 a) 6 2 c) := fun S a b c => ⟨rfl, fun _ _ => rfl, fun c' h1 h2 => by rw [gIf_ne _ _ _ _ h1, gIf_ne _ _ _ _ h1, gIf_ne _ _ _ _ h1]⟩
  have mb3 : ∀ (S : xS) (a b c : Int32), MB Sm S → MB Sm (pI (pI (pI S 6 0 b) 6 1 a) 6 2 c) := fun S a b c hS => hS.step rfl (fun c' hc' => (fr3 S a b c).2.2 c' (by omega) (by omega))
  rcases law_cases h with ⟨k1, k2⟩ | ⟨t, n, ht, hn, k1, k2, k3, k4, -⟩
  · refine ⟨fun _ _ _ => 12, fun _ _ _ => (show 1 ≤ 12 ∧ 12 ≤ 60 by decide), fun S hS t d w _ _ _ => ⟨S, ?_, rfl, fun _ _ _ => rfl⟩, fun S hS t d w _ _ _ => ⟨_, ?_, fr3 S (nI t) (nI d) (nI w)⟩⟩
    · unfold mX3_slicesAt
      rw [if_pos (hS.2.1.trans k1)]
      rfl
    · have q := mb3 S (nI t) (nI d) (nI w) hS
      rw [slicesOf_tell hS.1, sum_none q.1 (q.2.2.1.trans k2)]
      rfl
  rcases k4 with ⟨no, le⟩ | ⟨k, fr, to, f, hk, hno, hyes, e3, e4, hft, hto, hcw, hmw⟩
  · refine ⟨fun _ _ _ => 12, fun _ _ _ => (show 1 ≤ 12 ∧ 12 ≤ 60 by decide), fun S hS t' d w _ _ _ => ⟨S, ?_, rfl, fun _ _ _ => rfl⟩, fun S hS t' d w _ _ _ => ⟨_, ?_, fr3 S (nI t') (nI d) (nI w)⟩⟩
    · unfold mX3_slicesAt
      rw [hS.2.1, k1, if_neg (fun q => by cases q), dO_text ht, Option.bind_some]
      unfold mX6_hasSlices
      rw [hS.2.2.2 _ (by omega), if_pos le, Option.bind_some, if_pos rfl]
      rfl
    · have q := mb3 S (nI t') (nI d) (nI w) hS
      rw [slicesOf_tell hS.1, sum_no q.1 ht hn (q.2.2.1.trans k2) (by rw [q.2.1]; exact k3) (fun j hj => by rw [q.2.1]; exact no j hj)]
      rfl
  · refine ⟨fun t d w => clN 1 60 (f (nm d t w 0 0 0)), fun t d w => clN_le 1 60 (by decide) _, fun S hS t' d w h1 h2 h3 => ?_, fun S hS t' d w h1 h2 h3 => ?_⟩
    · obtain ⟨S1, e1⟩ : ∃ z, z = pI (pI (pI S 15 0 (nI d)) 15 1 (nI t')) 15 2 (nI w) := ⟨_, rfl⟩
      have r1 : S1.2 = S.2 := by rw [e1]; rfl
      have c1 : ∀ c, c ≠ 15 → gI S1 c = gI S c := fun c hc => by rw [e1, gIf_ne _ _ _ _ hc, gIf_ne _ _ _ _ hc, gIf_ne _ _ _ _ hc]
      have hB : CB Sc S1 := hS.step (by rw [r1]) (fun c hc => c1 c (by omega))
      obtain ⟨v, S', w1, w2, w3, w4⟩ := hcw S1 (nm d t' w 0 0 0) hB.1 (hB.2.2.2 _ (by omega)) (hB.2.2.2 _ (by omega)) (fun j hj => ⟨nm_lt (by omega) (by omega) (by omega) (by omega) (by omega) (by omega), by
        rcases (show j = 0 ∨ j = 1 ∨ j = 2 by omega) with rfl | rfl | rfl
        · rw [e1, gI_nk _ _ _ _ (by decide), gI_nk _ _ _ _ (by decide), gI_eq]; rfl
        · rw [e1, gI_nk _ _ _ _ (by decide), gI_eq]; rfl
        · rw [e1, gI_eq]; rfl⟩)
      refine ⟨S', ?_, w3.trans r1, fun c a b => (w4 c b).trans (c1 c a)⟩
      unfold mX3_slicesAt
      rw [hS.2.1, k1, if_neg (fun q => by cases q), dO_text ht, Option.bind_some]
      unfold mX6_hasSlices
      rw [hS.2.2.2 _ (by omega), show gI Sc (26 + 6 * t) 4 = nI to from e4, show gI Sc (26 + 6 * t) 3 = nI fr from e3, if_neg (nI_ge hft (by omega)), Option.bind_some, if_neg n10]
      dsimp only
      rw [rc_12_2 hS.1, Option.bind_some, tell_eq hS.1, Option.bind_some, ← e1, rc_12_2 hB.1, Option.bind_some, hB.2.1, k1, dO_text ht, Option.bind_some, Option.bind_some, hB.2.2.2 _ (by omega), show gI Sc (26 + 6 * t) 4 = nI to from e4, show gI Sc (26 + 6 * t) 3 = nI fr from e3, w1, Option.bind_some, ← w2]
      dsimp only
      exact congrArg (fun z => some (z, S')) (cl_c 1 60 (by decide) (by decide) v)
    · have q := mb3 S (nI t') (nI d) (nI w) hS
      obtain ⟨S', s1, s2, s3, s4⟩ := sum_yes (w := 12) q.1 ht hn (q.2.2.1.trans k2) (by rw [q.2.1]; exact k3) (lo := 1) (hi := 60) (by decide) (by decide) hk (fun j hj => by rw [q.2.1]; exact hno j hj) (by rw [q.2.1]; exact hyes) hmw q.2.1 (N := nm d t' w 0 0 0) (fun j hj => ⟨nm_lt (by omega) (by omega) (by omega) (by omega) (by omega) (by omega), by
        rcases (show j = 0 ∨ j = 1 ∨ j = 2 by omega) with rfl | rfl | rfl
        · rw [gI_nk _ _ _ _ (by decide), gI_nk _ _ _ _ (by decide), gI_eq]; rfl
        · rw [gI_nk _ _ _ _ (by decide), gI_eq]; rfl
        · rw [gI_eq]; rfl⟩)
      refine ⟨S', ?_, s2, s3, fun c a b => (s4 c b).trans ((fr3 S _ _ _).2.2 c a b)⟩
      rw [slicesOf_tell hS.1]
      exact (congrArg (fun z => Option.bind z _) s1)

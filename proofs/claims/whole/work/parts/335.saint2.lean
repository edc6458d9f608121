/-! saint: the best set of the class; the best seats of the reference -/
/-- what the class knows behind the sets below m -/
def CI (cs : Nat → Nat) (t nS : Nat) (J : Nat → Bool) (m : Nat) (v : Int32) (S : xS) : Prop := (v = -1 ∧ ∀ set, set < m → J set = false) ∨ ∃ b, b < m ∧ J b = true ∧ v = nI (chN (trN cs t b) cs nS) ∧ (∀ s, s < 6 → gI S 20 s = nI (trN cs t b s)) ∧ ∀ set, set < m → J set = true → le2 (chN (trN cs t b) cs nS) (val3 (trN cs t b) nS) (chN (trN cs t set) cs nS) (val3 (trN cs t set) nS)
theorem CI.skip {cs : Nat → Nat} {t nS : Nat} {J : Nat → Bool} {m : Nat} {v : Int32} {S S' : xS} (h : CI cs t nS J m v S) (hJ : J m = false) (e : gI S' 20 = gI S 20) : CI cs t nS J (m + 1) v S' := by
  rcases h with ⟨h1, h2⟩ | ⟨b, h1, h2, h3, h4, h5⟩
  · refine Or.inl ⟨h1, fun set hs => ?_⟩
    by_cases q : set = m
    · rw [q]; exact hJ
    · exact h2 set (by omega)
  · refine Or.inr ⟨b, by omega, h2, h3, fun s hs => by rw [e]; exact h4 s hs, fun set hs hj => ?_⟩
    by_cases q : set = m
    · rw [q, hJ] at hj; cases hj
    · exact h5 set (by omega) hj
theorem CI.worse {cs : Nat → Nat} {t nS : Nat} {J : Nat → Bool} {m b : Nat} {v : Int32} {S S' : xS} (h1 : b < m) (h2 : J b = true) (h3 : v = nI (chN (trN cs t b) cs nS)) (h4 : ∀ s, s < 6 → gI S 20 s = nI (trN cs t b s)) (h5 : ∀ set, set < m → J set = true → le2 (chN (trN cs t b) cs nS) (val3 (trN cs t b) nS) (chN (trN cs t set) cs nS) (val3 (trN cs t set) nS)) (hw : le2 (chN (trN cs t b) cs nS) (val3 (trN cs t b) nS) (chN (trN cs t m) cs nS) (val3 (trN cs t m) nS)) (e : gI S' 20 = gI S 20) : CI cs t nS J (m + 1) v S' := by
  refine Or.inr ⟨b, by omega, h2, h3, fun s hs => by rw [e]; exact h4 s hs, fun set hs hj => ?_⟩
  by_cases q : set = m
  · rw [q]; exact hw
  · exact h5 set (by omega) hj
theorem CI.new {cs : Nat → Nat} {t nS : Nat} {J : Nat → Bool} {m : Nat} {v w : Int32} {S S' : xS} (h : CI cs t nS J m v S) (hJ : J m = true) (hb : v = -1 ∨ ∀ b, v = nI (chN (trN cs t b) cs nS) → (∀ s, s < 6 → gI S 20 s = nI (trN cs t b s)) → le2 (chN (trN cs t m) cs nS) (val3 (trN cs t m) nS) (chN (trN cs t b) cs nS) (val3 (trN cs t b) nS)) (hv : w = nI (chN (trN cs t m) cs nS)) (e : ∀ s, s < 6 → gI S' 20 s = nI (trN cs t m s)) (hn : nS ≤ 6) : CI cs t nS J (m + 1) w S' := by
  refine Or.inr ⟨m, by omega, hJ, hv, e, fun set hs hj => ?_⟩
  by_cases q : set = m
  · rw [q]; exact Or.inr ⟨rfl, Nat.le_refl _⟩
  rcases h with ⟨h1, h2⟩ | ⟨b, h1, h2, h3, h4, h5⟩
  · rw [h2 set (by omega)] at hj; cases hj
  · have h6 := h5 set (by omega) hj
    rcases hb with hb | hb
    · exfalso
      have hc := chN_le (f := trN cs t b) (g := cs) nS
      rw [hb] at h3
      have : (-1 : Int32) < 0 := by decide
      rw [h3] at this
      exact nI_pos (by omega) this
    · have h7 := hb b h3 h4
      unfold le2 at h6 h7 ⊢
      omega
theorem j65_eq {Sc Sm S : xS} {nS sc w mi : Nat} {sl : Nat → Nat → Nat → Nat} {ea : Nat → Nat → Nat → Nat → Nat → Nat} (hR : RO Sc Sm nS sc w mi sl ea) {t dy k N d0 l0 m : Nat} {v4 v5 v7 : Int32} {k22 : xS → Nat → Int32 → Int32 → Int32 → Int32 → Int32 → Int32 → Option (Int32 × xS)} (ht : t < 2) (hdy : dy < 1000) (hN : N ≤ 30) (hd : d0 < 1000) (hl : l0 ≤ 60) (hk : k ≤ 60) (hc3 : gI Sc 2 (3 * t) = nI d0 ∧ gI Sc 2 (3 * t + 1) = nI l0 ∧ gI Sc 2 (3 * t + 2) = nI k) (hS : CE Sc S) (hm : m < 2 ^ nS) : ∃ S', jX2_fewestChanges_65 k22 S 17 (nI t) (nI dy) (nI N) v4 v5 (nI m) v7 = k22 S' 17 (nI t) (nI dy) (nI N) (if jN sl ea nS m t k w dy N 0 d0 l0 = true then v7 else v4) v5 (nI (m + 1)) ∧ CE Sc S' ∧ (jN sl ea nS m t k w dy N 0 d0 l0 = true → ∀ s, s < 6 → gI S' 20 s = gI S 19 s) ∧ (jN sl ea nS m t k w dy N 0 d0 l0 = false → gI S' 20 = gI S 20) := by
  unfold jX2_fewestChanges_65 jX2_fewestChanges_70
  rw [if_neg n10]
  unfold mX2_comesJustAfter
  obtain ⟨S3, e1, e2, e3⟩ := hR.load (q := 18) (Or.inr rfl) ht hS hc3
  have hS3 := e3.ce (Or.inr rfl) hS
  obtain ⟨S4, r1, r2⟩ := just_go hR ht hdy hm hk hN N 0 5000 d0 l0 S3 rfl (by omega) hS3 hd hl e2
  have hS4 := r2.ce (Or.inr rfl) hS3
  have fr := e3.trans r2
  rw [rc_17_2 hS.1, Option.bind_some, rc_17_0 hS.1, Option.bind_some, e1, Option.bind_some, show lX2_comesJustAfter_15 5000 S3 17 (nI m) (nI dy) (nI N) 0 = _ from r1, Option.bind_some]
  dsimp only
  by_cases hJ : jN sl ea nS m t k w dy N 0 d0 l0 = true
  · rw [hJ, if_pos rfl, if_neg n10, rc_17_3 hS4.1, Option.bind_some, rc_17_4 hS4.1, Option.bind_some, cpI_0 (a := 19) (b := 20) (i := 6) 6 rfl (by decide) (by decide) (by decide), Option.bind_some, nI_1, if_pos rfl]
    refine ⟨_, rfl, hS4.go rfl (fun c hc => cp0_ne _ _ _ _ (by omega)), fun _ s hs => ?_, fun q => by cases q⟩
    rw [cp0_in _ _ _ _ hs, fr.2 19 (by decide) (by decide) (by decide)]
  · have hJ : jN sl ea nS m t k w dy N 0 d0 l0 = false := by simpa using hJ
    rw [hJ, if_pos (show (if false = true then (1 : Int32) else 0) = 0 by decide), nI_1, if_neg (show ¬ false = true by decide)]
    exact ⟨S4, rfl, hS4, fun q => (by cases q), fun _ => fr.2 20 (by decide) (by decide) (by decide)⟩
theorem few_go {Sc Sm : xS} {nS sc w mi : Nat} {sl : Nat → Nat → Nat → Nat} {ea : Nat → Nat → Nat → Nat → Nat → Nat} (hR : RO Sc Sm nS sc w mi sl ea) {t dy k N d0 l0 : Nat} (ht : t < 2) (hdy : dy < 1000) (hN : N ≤ 30) (hd : d0 < 1000) (hl : l0 ≤ 60) (hk : k ≤ 60) (hc3 : gI Sc 2 (3 * t) = nI d0 ∧ gI Sc 2 (3 * t + 1) = nI l0 ∧ gI Sc 2 (3 * t + 2) = nI k) : ∀ e m fc (v4 : Int32) S, e + m = 2 ^ nS → e < fc → CE Sc S → CI (csN Sc) t nS (fun set => jN sl ea nS set t k w dy N 0 d0 l0) m v4 S → ∃ r S', lX2_fewestChanges_22 fc S 17 (nI t) (nI dy) (nI N) v4 (nI (2 ^ nS)) (nI m) = some (r, S') ∧ CE Sc S' ∧ CI (csN Sc) t nS (fun set => jN sl ea nS set t k w dy N 0 d0 l0) (2 ^ nS) r S' := by
  have hn6 := hR.1.2.2.2.2.2.2.1
  have hok := hR.2.2.1
  obtain ⟨c1, c2, c3⟩ := csN_ok hok
  have h64 : 2 ^ nS ≤ 64 := (Nat.pow_le_pow_right (by decide) hn6 : 2 ^ nS ≤ 2 ^ 6)
  intro e
  induction e with
  | zero =>
    intro m fc v4 S hi hfc hS hI
    obtain ⟨fc, rfl⟩ : ∃ q, fc = q + 1 := ⟨fc - 1, by omega⟩
    have hi : m = 2 ^ nS := by omega
    subst hi
    exact ⟨v4, S, by rw [lX2_fewestChanges_22.eq_2, if_pos (nI_le (Nat.le_refl _) (by omega))], hS, hI⟩
  | succ e ih =>
    intro m fc v4 S hi hfc hS hI
    obtain ⟨fc, rfl⟩ : ∃ q, fc = q + 1 := ⟨fc - 1, by omega⟩
    have hm : m < 2 ^ nS := by omega
    obtain ⟨S1, q1, q2, q3, q4⟩ := try_go (set := m) hok ht (by omega) 6 0 5000 S rfl (by decide) hS (fun s hs => absurd hs (Nat.not_lt_zero s))
    have hS1 : CE Sc S1 := hS.go (by rw [q2]) (fun c hc => q3 c (by omega))
    have tail : ∀ s, nS ≤ s → trN (csN Sc) t m s = csN Sc s := fun s hs => by
      unfold trN
      rw [Nat.testBit_lt_two_pow (Nat.lt_of_lt_of_le hm (Nat.pow_le_pow_right (by decide) hs)), if_neg (by decide), if_neg (by rw [c3 s hs]; omega)]
    have hch : chN (trN (csN Sc) t m) (csN Sc) 6 = chN (trN (csN Sc) t m) (csN Sc) nS := by
      have := chN_tail (f := trN (csN Sc) t m) (g := csN Sc) (n := nS) (6 - nS) tail
      rw [show nS + (6 - nS) = 6 by omega] at this
      exact this
    rw [hch] at q1
    obtain ⟨C, hC⟩ : ∃ z, z = chN (trN (csN Sc) t m) (csN Sc) nS := ⟨_, rfl⟩
    have hC6 : C ≤ 6 := by rw [hC]; have := chN_le (f := trN (csN Sc) t m) (g := csN Sc) nS; omega
    have hI1 : CI (csN Sc) t nS (fun set => jN sl ea nS set t k w dy N 0 d0 l0) m v4 S1 := by
      rcases hI with h | ⟨b, h1, h2, h3, h4, h5⟩
      · exact Or.inl h
      · exact Or.inr ⟨b, h1, h2, h3, fun s hs => by rw [q3 20 (by decide)]; exact h4 s hs, h5⟩
    rw [lX2_fewestChanges_22.eq_2, if_neg (nI_ge hm (by omega))]
    unfold mX2_trySeats
    rw [show lX2_trySeats_5 5000 S 17 (nI t) (nI m) 0 0 = _ from q1, Option.bind_some, ← hC]
    dsimp only
    -- when it is better
    have better : (v4 = -1 ∨ ∀ b, v4 = nI (chN (trN (csN Sc) t b) (csN Sc) nS) → (∀ s, s < 6 → gI S1 20 s = nI (trN (csN Sc) t b s)) → le2 (chN (trN (csN Sc) t m) (csN Sc) nS) (val3 (trN (csN Sc) t m) nS) (chN (trN (csN Sc) t b) (csN Sc) nS) (val3 (trN (csN Sc) t b) nS)) → ∃ r S', jX2_fewestChanges_65 (lX2_fewestChanges_22 fc) S1 17 (nI t) (nI dy) (nI N) v4 (nI (2 ^ nS)) (nI m) (nI C) = some (r, S') ∧ CE Sc S' ∧ CI (csN Sc) t nS (fun set => jN sl ea nS set t k w dy N 0 d0 l0) (2 ^ nS) r S' := by
      intro hb
      obtain ⟨S', p1, p2, p3, p4⟩ := j65_eq hR (k22 := lX2_fewestChanges_22 fc) (v4 := v4) (v5 := nI (2 ^ nS)) (v7 := nI C) ht hdy hN hd hl hk hc3 hS1 hm
      rw [p1]
      by_cases hJ : jN sl ea nS m t k w dy N 0 d0 l0 = true
      · rw [if_pos hJ]
        refine ih (m + 1) fc (nI C) S' (by omega) (by omega) p2 (hI1.new hJ hb (by rw [hC]) (fun s hs => ?_) hn6)
        rw [p3 hJ s hs]
        exact q4 s hs
      · rw [if_neg hJ]
        have hJ : jN sl ea nS m t k w dy N 0 d0 l0 = false := by simpa using hJ
        exact ih (m + 1) fc v4 S' (by omega) (by omega) p2 (hI1.skip hJ (p4 hJ))
    by_cases hv : v4 = -1
    · rw [if_pos hv]
      exact better (Or.inl hv)
    rw [if_neg hv]
    rcases hI1 with ⟨h1, -⟩ | ⟨b, h1, h2, h3, h4, h5⟩
    · exact absurd h1 hv
    have hB6 := chN_le (f := trN (csN Sc) t b) (g := csN Sc) nS
    have tailb : ∀ s, nS ≤ s → trN (csN Sc) t b s = csN Sc s := fun s hs => by
      unfold trN
      rw [Nat.testBit_lt_two_pow (Nat.lt_of_lt_of_le (show b < 2 ^ nS by omega) (Nat.pow_le_pow_right (by decide) hs)), if_neg (by decide), if_neg (by rw [c3 s hs]; omega)]
    have vt := val3_tail (f := trN (csN Sc) t m) (g := trN (csN Sc) t b) (n := nS) (6 - nS) (fun s hs => (tail s hs).trans (tailb s hs).symm)
    rw [show nS + (6 - nS) = 6 by omega] at vt
    have notbetter : le2 (chN (trN (csN Sc) t b) (csN Sc) nS) (val3 (trN (csN Sc) t b) nS) (chN (trN (csN Sc) t m) (csN Sc) nS) (val3 (trN (csN Sc) t m) nS) → ∃ r S', jX2_fewestChanges_69 (lX2_fewestChanges_22 fc) S1 17 (nI t) (nI dy) (nI N) v4 (nI (2 ^ nS)) (nI m) (nI C) = some (r, S') ∧ CE Sc S' ∧ CI (csN Sc) t nS (fun set => jN sl ea nS set t k w dy N 0 d0 l0) (2 ^ nS) r S' := by
      intro hw
      unfold jX2_fewestChanges_69 jX2_fewestChanges_70
      rw [if_pos rfl, nI_1]
      exact ih (m + 1) fc v4 S1 (by omega) (by omega) hS1 (CI.worse h1 h2 h3 h4 h5 hw rfl)
    have uniq : ∀ b', v4 = nI (chN (trN (csN Sc) t b') (csN Sc) nS) → (∀ s, s < 6 → gI S1 20 s = nI (trN (csN Sc) t b' s)) → chN (trN (csN Sc) t b') (csN Sc) nS = chN (trN (csN Sc) t b) (csN Sc) nS ∧ val3 (trN (csN Sc) t b') nS = val3 (trN (csN Sc) t b) nS := by
      intro b' g1 g2
      have hB' := chN_le (f := trN (csN Sc) t b') (g := csN Sc) nS
      refine ⟨(nI_eq (by omega) (by omega)).mp (g1.symm.trans h3), val3_congr nS (fun s hs => ?_)⟩
      have z1 := trN_lt c1 ht b' s
      have z2 := trN_lt c1 ht b s
      exact (nI_eq (by omega) (by omega)).mp ((g2 s (by omega)).symm.trans (h4 s (by omega)))
    rw [h3]
    by_cases hlt : C < chN (trN (csN Sc) t b) (csN Sc) nS
    · rw [if_pos (nI_lt hlt (by omega)), ← h3]
      refine better (Or.inr (fun b' g1 g2 => ?_))
      obtain ⟨u1, u2⟩ := uniq b' g1 g2
      exact Or.inl (by omega)
    · rw [if_neg (nI_nlt (by omega) (by omega))]
      by_cases heq : C = chN (trN (csN Sc) t b) (csN Sc) nS
      · rw [if_pos (by rw [heq])]
        unfold mX2_triedIsLower
        rw [show lX2_triedIsLower_2 5000 S1 17 0 = _ from lower_go hS1.1 (fun s => trN_lt c1 ht m s) (fun s => trN_lt c1 ht b s) q4 h4 6 0 5000 rfl (by decide) (fun s hs => absurd hs (Nat.not_lt_zero s)), Option.bind_some]
        dsimp only
        by_cases hval : val3 (trN (csN Sc) t m) 6 < val3 (trN (csN Sc) t b) 6
        · rw [if_pos hval, if_neg n10, ← h3]
          have hv2 := vt.mp hval
          refine better (Or.inr (fun b' g1 g2 => ?_))
          obtain ⟨u1, u2⟩ := uniq b' g1 g2
          exact Or.inr ⟨by omega, by omega⟩
        · rw [if_neg hval, if_pos rfl, ← h3]
          have hv2 : ¬ val3 (trN (csN Sc) t m) nS < val3 (trN (csN Sc) t b) nS := fun q => hval (vt.mpr q)
          exact notbetter (Or.inr ⟨by omega, by omega⟩)
      · rw [if_neg (fun q => heq ((nI_eq (by omega) (by omega)).mp q)), ← h3]
        exact notbetter (Or.inl (by omega))

/-! TOKENS: the next one, of both -/
def TMk (T : xS) (b : Nat → Nat) (κ st v bh : Nat) : Prop :=
  (κ = 0 ∧ gI T 0 9 = 0) ∨ (κ = 1 ∧ (gI T 0 9 = 3 ∨ gI T 0 9 = 44)) ∨ (κ = 2 ∧ gI T 0 9 = 1 ∧ ∃ m, m < 1000010 ∧ gI T 0 10 = nI m ∧ v = if m < 10000 then m else 10000) ∨ (κ = 3 ∧ gI T 0 9 = 4) ∨ (κ = 4 ∧ gI T 0 9 = 5) ∨ (sgB κ = true ∧ gI T 0 9 = nI κ) ∨
  (gI T 0 9 = 2 ∧ (κ = 1 ∨ ∃ k, k < 18 ∧ κ = 200 + k) ∧ (∀ j, j < 18 → j ≠ 16 → (gJ T 0 11 = wk j ↔ κ = 200 + j)) ∧ (mtW b st bh 16 ↔ κ = 216))
def TK (S T : xS) (len : Nat) (b : Nat → Nat) (κ st v bh : Nat) : Prop :=
  (gI S 23 2 = nI κ ∧ gI S 23 3 = nI st ∧ gI S 23 5 = nI bh ∧ (κ = 2 → gI S 23 4 = nI v)) ∧ (gI T 0 8 = nI st ∧ gI T 0 7 = nI bh) ∧ (st ≤ bh ∧ bh ≤ len ∧ (κ ≠ 0 → st < bh) ∧ (κ = 0 → st = len)) ∧ TMk T b κ st v bh
theorem sgn_m {T : xS} {c : Nat} (hc : c < 256) : (if (nI c = 60 : Prop) then (jX9_nextToken_339 T 0 (nI c)) else (if (nI c = 62 : Prop) then (jX9_nextToken_339 T 0 (nI c)) else (if (nI c = 61 : Prop) then (jX9_nextToken_339 T 0 (nI c)) else (if (nI c = 35 : Prop) then (jX9_nextToken_339 T 0 (nI c)) else (if (nI c = 43 : Prop) then (jX9_nextToken_339 T 0 (nI c)) else (if (nI c = 45 : Prop) then (jX9_nextToken_339 T 0 (nI c)) else (if (nI c = 42 : Prop) then (jX9_nextToken_339 T 0 (nI c)) else (if (nI c = 47 : Prop) then (jX9_nextToken_339 T 0 (nI c)) else (if (nI c = 40 : Prop) then (jX9_nextToken_339 T 0 (nI c)) else (if (nI c = 41 : Prop) then (jX9_nextToken_339 T 0 (nI c)) else (if (nI c = 59 : Prop) then (jX9_nextToken_339 T 0 (nI c)) else (if (nI c = 44 : Prop) then (jX9_nextToken_339 T 0 (nI c)) else (if (nI c = 63 : Prop) then (jX9_nextToken_339 T 0 (nI c)) else (if (nI c = 58 : Prop) then (jX9_nextToken_339 T 0 (nI c)) else (jX9_nextToken_344 T 0 (nI c) 0))))))))))))))) = jX9_nextToken_344 T 0 (nI c) (if sgB c || c == 44 then 1 else 0) := by
  have h339 : jX9_nextToken_339 T 0 (nI c) = jX9_nextToken_344 T 0 (nI c) 1 := rfl
  rw [h339]
  have key : ∀ c, c < 256 → (if (nI c = 60 : Prop) then (1 : Int32) else (if (nI c = 62 : Prop) then 1 else (if (nI c = 61 : Prop) then 1 else (if (nI c = 35 : Prop) then 1 else (if (nI c = 43 : Prop) then 1 else (if (nI c = 45 : Prop) then 1 else (if (nI c = 42 : Prop) then 1 else (if (nI c = 47 : Prop) then 1 else (if (nI c = 40 : Prop) then 1 else (if (nI c = 41 : Prop) then 1 else (if (nI c = 59 : Prop) then 1 else (if (nI c = 44 : Prop) then 1 else (if (nI c = 63 : Prop) then 1 else (if (nI c = 58 : Prop) then 1 else 0)))))))))))))) = (if sgB c || c == 44 then 1 else 0) := by decide +kernel
  rw [← key c hc]
  simp only [apply_ite (jX9_nextToken_344 T 0 (nI c))]
theorem next_ok {S T : xS} {len p : Nat} {b : Nat → Nat} (hC : RCr S) (hM : RMr T) (hT : TP S T len b) (h5 : gI S 23 5 = nI p) (h7 : gI T 0 7 = nI p) (hp : p ≤ len) : ∃ S' T' κ st v bh, mX7_advance S 23 = some S' ∧ mX9_nextToken T 0 = some T' ∧ FC S S' ∧ FM T T' ∧ p ≤ st ∧ TK S' T' len b κ st v bh := by
  have hl := hT.1
  obtain ⟨st, S1, T1, s1, s2, s3, s4, s5, s6, s7, s8, s9⟩ := skip_go (len - p) p 5000 5000 S T (by omega) (by omega) (by omega) hC hM hT h5 h7
  have hC1 : RCr S1 := hC.ofR (by rw [s6.1])
  have hM1 : RMr T1 := hM.ofR s7.1
  have hT1 := hT.step s6 s7
  unfold mX7_advance mX9_nextToken
  rw [s4, s5]
  unfold jX7_advance_38 nxtM
  simp only [xlet_eq]
  obtain ⟨S2, e2⟩ : ∃ z, z = pI S1 23 3 (nI st) := ⟨_, rfl⟩
  have f2 : FC S1 S2 := by rw [e2]; exact FC.pI (by decide)
  have hC2 : RCr S2 := hC1.ofR (by rw [f2.1])
  obtain ⟨T2, t2⟩ : ∃ z, z = pI T1 0 8 (nI st) := ⟨_, rfl⟩
  have y2 : FM T1 T2 := by rw [t2]; exact FM.pI (by decide)
  have hM2 : RMr T2 := hM1.ofR y2.1
  have hT2 := hT1.step f2 y2
  have g3 : gI S2 23 3 = nI st := by rw [e2, gI_eq]
  have g5 : gI S2 23 5 = nI st := by rw [e2, gI_nk _ _ _ _ (by decide)]; exact s8
  have g8 : gI T2 0 8 = nI st := by rw [t2, gI_eq]
  have g7 : gI T2 0 7 = nI st := by rw [t2, gI_nk _ _ _ _ (by decide)]; exact s9
  have F2 := s6.trans f2
  have Y2 := s7.trans y2
  rw [s8, ← e2, g3, byte_c hC2 hT2 st (by omega), Option.bind_some, s9, ← t2, g7, byte_m hM2 hT2 st (by omega), Option.bind_some]
  dsimp only
  rw [g3, hT2.2.1]
  by_cases hst : st < len
  · have hb := (hT2.2.2.2 st hst).2.2
    rw [if_pos hst, if_pos hst, if_pos (nI_lt hst (by omega)), if_pos (nI_pos' (by omega)), letter_c _ hb, Option.bind_some, digit_m _ hb, Option.bind_some]
    dsimp only
    rw [digit_c _ hb, Option.bind_some, letter_m _ hb, Option.bind_some]
    dsimp only
    by_cases hL : isL (b st) = true
    · -- a word
      have hD : ¬ isD (b st) = true := (show ∀ x, x < 256 → isL x = true → ¬ isD x = true by decide +kernel) _ hb hL
      rw [if_pos hL, if_neg n10, if_neg hD, if_pos rfl, if_neg n10]
      obtain ⟨T4, t4⟩ : ∃ z, z = pJ (pI T2 0 9 2) 0 11 0 := ⟨_, rfl⟩
      have y4 : FM T2 T4 := by rw [t4]; exact (FM.pI (by decide)).trans FM.pJ
      obtain ⟨bh, S5, T5, r1, r2, r3, r4, r5, r6, r7, r8, r9, r10, r11, r12, r13⟩ := word_go (st := st) (len - st) st 5000 5000 S2 T4 (by omega) (by omega) (by omega) hC2 (hM2.ofR y4.1) (hT2.step FC.rfl' y4) g5 (by rw [t4]; show gI (pI T2 0 9 2) 0 7 = nI st; rw [gI_nk _ _ _ _ (by decide)]; exact g7) (by rw [t4]; show gI (pI T2 0 9 2) 0 8 = nI st; rw [gI_nk _ _ _ _ (by decide)]; exact g8) (Nat.le_refl _) (fun i h1 h2 => absurd h2 (by omega)) (by rw [t4, gJ_eq, Nat.sub_self]; rfl)
      have hbh := r3 hst hL
      obtain ⟨S6, e6⟩ : ∃ z, z = pI S5 23 2 1 := ⟨_, rfl⟩
      have f6 : FC S5 S6 := by rw [e6]; exact FC.pI (by decide)
      have F6 := (F2.trans r7).trans f6
      have hC6 : RCr S6 := hC.ofR (by rw [F6.1])
      have hT6 := hT.step F6 ((Y2.trans y4).trans r8)
      obtain ⟨κ, S7, k1, k2, k3, k4⟩ := find_go hC6 hT6 (by rw [e6, gI_eq]) (st := st) (bh := bh) (by rw [e6, gI_nk _ _ _ _ (by decide), r11]; exact g3) (by rw [e6, gI_nk _ _ _ _ (by decide)]; exact r9) (by omega) r2 18 0 5000 rfl (by decide) (fun k hk => absurd hk (Nat.not_lt_zero _))
      have f7 : FC S6 S7 := by rw [k2]; exact FC.pI (by decide)
      refine ⟨S7, T5, κ, st, 0, bh, ?_, by rw [← t4]; exact r6, F6.trans f7, (Y2.trans y4).trans r8, s1, ⟨?_, ?_, ?_, fun h => ?_⟩, ⟨r12.1.trans (by rw [t4]; show gI (pI T2 0 9 2) 0 8 = nI st; rw [gI_nk _ _ _ _ (by decide)]; exact g8), r10⟩, ⟨by omega, r2, fun _ => hbh, fun h => ?_⟩, ?_⟩
      · unfold mX7_readWord
        rw [r5]
        unfold jX7_readWord_38
        rw [xlet_eq, ← e6, show lX7_readWord_51 5000 S6 23 200 0 0 = some S7 from k1]
        rfl
      · rw [k2, gI_eq]
      · rw [k2, gI_nk _ _ _ _ (by decide), e6, gI_nk _ _ _ _ (by decide), r11]; exact g3
      · rw [k2, gI_nk _ _ _ _ (by decide), e6, gI_nk _ _ _ _ (by decide)]; exact r9
      · exfalso
        rcases k3 with k3 | ⟨k, _, k3⟩ <;> omega
      · exfalso
        rcases k3 with k3 | ⟨k, _, k3⟩ <;> omega
      · refine Or.inr (Or.inr (Or.inr (Or.inr (Or.inr (Or.inr ⟨?_, k3, fun j hj h16 => ?_, k4 16 (by decide)⟩)))))
        · rw [r12.2, t4]
          show gI (pI T2 0 9 2) 0 9 = 2
          rw [gI_eq]
        · rw [wk_iff (len := len) (by omega) r4 hj h16 r13]
          exact k4 j hj
    · rw [if_neg hL, if_pos rfl]
      by_cases hD : isD (b st) = true
      · -- a number
        rw [if_pos hD, if_neg n10, if_neg n10]
        obtain ⟨T4, t4⟩ : ∃ z, z = pI (pI T2 0 9 1) 0 10 0 := ⟨_, rfl⟩
        have y4 : FM T2 T4 := by rw [t4]; exact (FM.pI (by decide)).trans (FM.pI (by decide))
        unfold mX7_readNumber
        rw [xlet_eq, xlet_eq]
        obtain ⟨S4, e4⟩ : ∃ z, z = pI (pI S2 23 2 2) 23 4 0 := ⟨_, rfl⟩
        have f4 : FC S2 S4 := by rw [e4]; exact (FC.pI (by decide)).trans (FC.pI (by decide))
        obtain ⟨bh, k', S5, T5, r1, r2, r3, r4, r5, r6, r7, r8, r9, r10, r11, r12, r13, r14⟩ := num_go (len - st) st 5000 5000 0 S4 T4 (by omega) (by omega) (by omega) (hC2.ofR (by rw [f4.1])) (hM2.ofR y4.1) (hT2.step f4 y4) (by rw [e4, gI_nk _ _ _ _ (by decide), gI_nk _ _ _ _ (by decide)]; exact g5) (by rw [t4, gI_nk _ _ _ _ (by decide), gI_nk _ _ _ _ (by decide)]; exact g7) (by decide) (by rw [e4, gI_eq]; rfl) (by rw [t4, gI_eq]; rfl)
        have hbh := r3 hst hD
        rw [← e4, r5, ← t4]
        refine ⟨S5, T5, 2, st, if k' < 10000 then k' else 10000, bh, rfl, r6, (F2.trans f4).trans r7, (Y2.trans y4).trans r8, s1, ⟨?_, ?_, r9, fun _ => r11⟩, ⟨r14.1.trans (by rw [t4, gI_nk _ _ _ _ (by decide), gI_nk _ _ _ _ (by decide)]; exact g8), r10⟩, ⟨by omega, r2, fun _ => hbh, fun h => absurd h (by decide)⟩, Or.inr (Or.inr (Or.inl ⟨rfl, ?_, k', r4, r12, rfl⟩))⟩
        · rw [r13.1, e4, gI_nk _ _ _ _ (by decide), gI_eq]; rfl
        · rw [r13.2, e4, gI_nk _ _ _ _ (by decide), gI_nk _ _ _ _ (by decide)]; exact g3
        · rw [r14.2, t4, gI_nk _ _ _ _ (by decide), gI_eq]
      · -- a sign
        rw [if_neg hD, if_pos rfl, if_pos rfl, if_pos rfl, g7, nI_1]
        obtain ⟨c, hc⟩ : ∃ c, c = b st := ⟨_, rfl⟩
        rw [← hc] at hb hL hD ⊢
        obtain ⟨T4, t4⟩ : ∃ z, z = pI T2 0 7 (nI (st + 1)) := ⟨_, rfl⟩
        have y4 : FM T2 T4 := by rw [t4]; exact FM.pI (by decide)
        rw [← t4, sgn_m hb]
        unfold mX7_readSign
        rw [xlet_eq, g5, nI_1]
        obtain ⟨S4, e4⟩ : ∃ z, z = pI S2 23 5 (nI (st + 1)) := ⟨_, rfl⟩
        have f4 : FC S2 S4 := by rw [e4]; exact FC.pI (by decide)
        rw [← e4, isSign_c S4 hb, Option.bind_some]
        dsimp only
        -- both write the kind
        obtain ⟨κ, hκ⟩ : ∃ z, z = if sgB c = true then c else 1 := ⟨_, rfl⟩
        have eS : (if (if sgB c = true then (1 : Int32) else 0) = 0 then jX7_readSign_23 S4 23 (nI c) 1 23 else jX7_readSign_23 S4 23 (nI c) (nI c) 23) = jX7_readSign_23 S4 23 (nI c) (nI κ) 23 := by
          by_cases q : sgB c = true
          · rw [if_pos q, if_neg n10, hκ, if_pos q]
          · rw [if_neg q, if_pos rfl, hκ, if_neg q]
            rfl
        rw [eS]
        obtain ⟨τ, hτ⟩ : ∃ z : Nat, z = if (sgB c || c == 44) = true then c else 3 := ⟨_, rfl⟩
        have eT : jX9_nextToken_344 T4 0 (nI c) (if (sgB c || c == 44) = true then 1 else 0) = jX9_nextToken_355 T4 0 (nI c) (nI τ) 0 := by
          unfold jX9_nextToken_344
          by_cases q : (sgB c || c == 44) = true
          · rw [if_pos q, if_neg n10, hτ, if_pos q]
          · rw [if_neg q, if_pos rfl, hτ, if_neg q]
            rfl
        rw [eT]
        unfold jX7_readSign_23 jX9_nextToken_355
        rw [xlet_eq, xlet_eq]
        obtain ⟨S6, e6⟩ : ∃ z, z = pI S4 23 2 (nI κ) := ⟨_, rfl⟩
        obtain ⟨T6, t6⟩ : ∃ z, z = pI T4 0 9 (nI τ) := ⟨_, rfl⟩
        have f6 : FC S4 S6 := by rw [e6]; exact FC.pI (by decide)
        have y6 : FM T4 T6 := by rw [t6]; exact FM.pI (by decide)
        have F6 := (F2.trans f4).trans f6
        have Y6 := (Y2.trans y4).trans y6
        have hC6 : RCr S6 := hC.ofR (by rw [F6.1])
        have hM6 : RMr T6 := hM.ofR Y6.1
        have hT6 := hT.step F6 Y6
        have a5 : gI S6 23 5 = nI (st + 1) := by rw [e6, gI_nk _ _ _ _ (by decide), e4, gI_eq]
        have a3 : gI S6 23 3 = nI st := by rw [e6, gI_nk _ _ _ _ (by decide), e4, gI_nk _ _ _ _ (by decide)]; exact g3
        have a7 : gI T6 0 7 = nI (st + 1) := by rw [t6, gI_nk _ _ _ _ (by decide), t4, gI_eq]
        have a8 : gI T6 0 8 = nI st := by rw [t6, gI_nk _ _ _ _ (by decide), t4, gI_nk _ _ _ _ (by decide)]; exact g8
        rw [← e6, ← t6]
        have plain : TK S6 T6 len b κ st 0 (st + 1) := by
          refine ⟨⟨by rw [e6, gI_eq], a3, a5, fun h => ?_⟩, ⟨a8, a7⟩, ⟨by omega, by omega, fun _ => by omega, fun h => ?_⟩, ?_⟩
          · exfalso
            by_cases q : sgB c = true
            · rw [hκ, if_pos q] at h
              rw [h] at q
              exact absurd q (by decide)
            · rw [hκ, if_neg q] at h
              omega
          · exfalso
            by_cases q : sgB c = true
            · rw [hκ, if_pos q] at h
              rw [h] at q
              exact absurd q (by decide)
            · rw [hκ, if_neg q] at h
              omega
          · by_cases q : sgB c = true
            · refine Or.inr (Or.inr (Or.inr (Or.inr (Or.inr (Or.inl ⟨by rw [hκ, if_pos q]; exact q, ?_⟩)))))
              rw [t6, gI_eq, hκ, if_pos q, hτ, if_pos (by rw [q]; rfl)]
            · refine Or.inr (Or.inl ⟨by rw [hκ, if_neg q], ?_⟩)
              rw [t6, gI_eq, hτ]
              by_cases q2 : (sgB c || c == 44) = true
              · rw [if_pos q2]
                right
                have : c = 44 := by simpa [q] using q2
                rw [this]
                rfl
              · rw [if_neg q2]
                left
                rfl
        have c60 : (nI c = (60 : Int32)) ↔ c = 60 := nI_eq (a := c) (b := 60) (by omega) (by decide)
        have c62 : (nI c = (62 : Int32)) ↔ c = 62 := nI_eq (a := c) (b := 62) (by omega) (by decide)
        by_cases hlg : c = 60 ∨ c = 62
        · have w1 : (if (nI c = 60 : Prop) then (jX7_readSign_38 S6 23 (nI c)) else (if (nI c = 62 : Prop) then (jX7_readSign_38 S6 23 (nI c)) else (some S6))) = jX7_readSign_38 S6 23 (nI c) := by
            by_cases q : c = 60
            · rw [if_pos (c60.mpr q)]
            · rw [if_neg (fun h => q (c60.mp h)), if_pos (c62.mpr (hlg.resolve_left q))]
          have w2 : (if (nI c = 60 : Prop) then (jX9_nextToken_370 T6 0 (nI c)) else (if (nI c = 62 : Prop) then (jX9_nextToken_370 T6 0 (nI c)) else (some T6))) = jX9_nextToken_370 T6 0 (nI c) := by
            by_cases q : c = 60
            · rw [if_pos (c60.mpr q)]
            · rw [if_neg (fun h => q (c60.mp h)), if_pos (c62.mpr (hlg.resolve_left q))]
          rw [w1, w2]
          unfold jX7_readSign_38 jX9_nextToken_370
          rw [a5, a7, byte_c hC6 hT6 (st + 1) (by omega), byte_m hM6 hT6 (st + 1) (by omega), Option.bind_some, Option.bind_some]
          dsimp only
          by_cases heq : st + 1 < len ∧ b (st + 1) = 61
          · rw [if_pos heq.1, if_pos heq.1, heq.2, if_pos (by decide), if_pos (by decide), a5, a7, nI_1]
            simp only [xlet_eq]
            by_cases q : c = 60
            · rw [if_pos (c60.mpr q), if_pos (c60.mpr q)]
              refine ⟨pI (pI S6 23 5 (nI (st + 1 + 1))) 23 2 3, pI (pI T6 0 7 (nI (st + 1 + 1))) 0 9 4, 3, st, 0, st + 1 + 1, rfl, rfl, F6.trans ((FC.pI (by decide)).trans (FC.pI (by decide))), Y6.trans ((FM.pI (by decide)).trans (FM.pI (by decide))), s1, ⟨gI_eq _ _ _ _, ?_, ?_, fun h => absurd h (by decide)⟩, ⟨?_, ?_⟩, ⟨by omega, by omega, fun _ => by omega, fun h => absurd h (by decide)⟩, Or.inr (Or.inr (Or.inr (Or.inl ⟨rfl, gI_eq _ _ _ _⟩)))⟩
              · rw [gI_nk _ _ _ _ (by decide), gI_nk _ _ _ _ (by decide)]; exact a3
              · rw [gI_nk _ _ _ _ (by decide), gI_eq]
              · rw [gI_nk _ _ _ _ (by decide), gI_nk _ _ _ _ (by decide)]; exact a8
              · rw [gI_nk _ _ _ _ (by decide), gI_eq]
            · rw [if_neg (fun h => q (c60.mp h)), if_neg (fun h => q (c60.mp h))]
              refine ⟨pI (pI S6 23 5 (nI (st + 1 + 1))) 23 2 4, pI (pI T6 0 7 (nI (st + 1 + 1))) 0 9 5, 4, st, 0, st + 1 + 1, rfl, rfl, F6.trans ((FC.pI (by decide)).trans (FC.pI (by decide))), Y6.trans ((FM.pI (by decide)).trans (FM.pI (by decide))), s1, ⟨gI_eq _ _ _ _, ?_, ?_, fun h => absurd h (by decide)⟩, ⟨?_, ?_⟩, ⟨by omega, by omega, fun _ => by omega, fun h => absurd h (by decide)⟩, Or.inr (Or.inr (Or.inr (Or.inr (Or.inl ⟨rfl, gI_eq _ _ _ _⟩))))⟩
              · rw [gI_nk _ _ _ _ (by decide), gI_nk _ _ _ _ (by decide)]; exact a3
              · rw [gI_nk _ _ _ _ (by decide), gI_eq]
              · rw [gI_nk _ _ _ _ (by decide), gI_nk _ _ _ _ (by decide)]; exact a8
              · rw [gI_nk _ _ _ _ (by decide), gI_eq]
          · have hb1 : st + 1 < len → b (st + 1) < 256 := fun h => (hT6.2.2.2 (st + 1) h).2.2
            have n1 : ¬ (if st + 1 < len then nI (b (st + 1)) else (0 : Int32)) = 61 := by
              by_cases q : st + 1 < len
              · rw [if_pos q]
                have := hb1 q
                exact fun h => heq ⟨q, (nI_eq (a := b (st + 1)) (b := 61) (by omega) (by decide)).mp h⟩
              · rw [if_neg q]; decide
            have n2 : ¬ (if st + 1 < len then nI (b (st + 1)) else (-1 : Int32)) = 61 := by
              by_cases q : st + 1 < len
              · rw [if_pos q]
                have := hb1 q
                exact fun h => heq ⟨q, (nI_eq (a := b (st + 1)) (b := 61) (by omega) (by decide)).mp h⟩
              · rw [if_neg q]; decide
            rw [if_neg n1, if_neg n2]
            exact ⟨S6, T6, κ, st, 0, st + 1, rfl, rfl, F6, Y6, s1, plain⟩
        · rw [if_neg (fun h => hlg (Or.inl (c60.mp h))), if_neg (fun h => hlg (Or.inr (c62.mp h))), if_neg (fun h => hlg (Or.inl (c60.mp h))), if_neg (fun h => hlg (Or.inr (c62.mp h)))]
          exact ⟨S6, T6, κ, st, 0, st + 1, rfl, rfl, F6, Y6, s1, plain⟩
  · -- the end
    have hst : st = len := by omega
    rw [if_neg (show ¬ st < len by omega), if_neg (show ¬ st < len by omega), if_neg (nI_nlt (by omega) (by omega)), if_neg (by decide)]
    refine ⟨pI S2 23 2 0, pI T2 0 9 0, 0, st, 0, st, rfl, rfl, F2.trans (FC.pI (by decide)), Y2.trans (FM.pI (by decide)), s1, ⟨gI_eq _ _ _ _, ?_, ?_, fun h => absurd h (by decide)⟩, ⟨?_, ?_⟩, ⟨by omega, by omega, fun h => absurd rfl h, fun _ => hst⟩, Or.inl ⟨rfl, gI_eq _ _ _ _⟩⟩
    · rw [gI_nk _ _ _ _ (by decide)]; exact g3
    · rw [gI_nk _ _ _ _ (by decide)]; exact g5
    · rw [gI_nk _ _ _ _ (by decide)]; exact g8
    · rw [gI_nk _ _ _ _ (by decide)]; exact g7

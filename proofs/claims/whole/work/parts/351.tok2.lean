/-! TOKENS: numbers and signs -/
theorem num_go {len : Nat} {b : Nat → Nat} : ∀ e p n m k S T, e + p = len → e < n → e < m → RCr S → RMr T → TP S T len b → gI S 23 5 = nI p → gI T 0 7 = nI p → k < 1000010 → gI S 23 4 = nI (if k < 10000 then k else 10000) → gI T 0 10 = nI k → ∃ bh k' S' T', p ≤ bh ∧ bh ≤ len ∧ (p < len → isD (b p) = true → p < bh) ∧ k' < 1000010 ∧ lX7_readNumber_10 n S 23 = some S' ∧ lX9_nextToken_85 m T 0 = some T' ∧ FC S S' ∧ FM T T' ∧ gI S' 23 5 = nI bh ∧ gI T' 0 7 = nI bh ∧ gI S' 23 4 = nI (if k' < 10000 then k' else 10000) ∧ gI T' 0 10 = nI k' ∧ (gI S' 23 2 = gI S 23 2 ∧ gI S' 23 3 = gI S 23 3) ∧ (gI T' 0 8 = gI T 0 8 ∧ gI T' 0 9 = gI T 0 9) := by
  intro e
  induction e with
  | zero =>
    intro p n m k S T hp hn hm hC hM hT h5 h7 hk h4 h10
    obtain ⟨n, rfl⟩ : ∃ q, n = q + 1 := ⟨n - 1, by omega⟩
    obtain ⟨m, rfl⟩ : ∃ q, m = q + 1 := ⟨m - 1, by omega⟩
    have hl := hT.1
    refine ⟨p, k, S, T, Nat.le_refl _, by omega, fun h => absurd h (by omega), hk, ?_, ?_, FC.rfl', FM.rfl', h5, h7, h4, h10, ⟨rfl, rfl⟩, rfl, rfl⟩
    · rw [lX7_readNumber_10.eq_2, h5, hT.2.1, if_pos (nI_le (by omega) (by omega))]
    · rw [lX9_nextToken_85.eq_2, h7, byte_m hM hT p (by omega), Option.bind_some, if_neg (show ¬ p < len by omega), digit_m1, Option.bind_some, if_pos rfl]
  | succ e ih =>
    intro p n m k S T hp hn hm hC hM hT h5 h7 hk h4 h10
    obtain ⟨n, rfl⟩ : ∃ q, n = q + 1 := ⟨n - 1, by omega⟩
    obtain ⟨m, rfl⟩ : ∃ q, m = q + 1 := ⟨m - 1, by omega⟩
    have hl := hT.1
    have hb := (hT.2.2.2 p (by omega)).2.2
    rw [lX7_readNumber_10.eq_2, h5, hT.2.1, if_neg (nI_ge (by omega) (by omega)), byte_c hC hT p (by omega), Option.bind_some, if_pos (show p < len by omega), digit_c _ hb, Option.bind_some, lX9_nextToken_85.eq_2, h7, byte_m hM hT p (by omega), Option.bind_some, if_pos (show p < len by omega), digit_m _ hb, Option.bind_some]
    dsimp only
    by_cases hd : isD (b p) = true
    · have hd2 : 48 ≤ b p ∧ b p ≤ 57 := by
        unfold isD at hd
        simp at hd
        exact hd
      rw [if_pos hd, if_neg n10, if_neg n10, h5, h7, byte_c hC hT p (by omega), Option.bind_some, byte_m hM hT p (by omega), Option.bind_some, if_pos (show p < len by omega), if_pos (show p < len by omega), h4, h10, xlet_eq, xlet_eq]
      dsimp only
      obtain ⟨k2, hk2⟩ : ∃ z, z = if 100000 ≤ k then k else 10 * k + b p - 48 := ⟨_, rfl⟩
      have hk3 : k2 < 1000010 := by rw [hk2]; split <;> omega
      have ec : (if ((((nI (if k < 10000 then k else 10000)) * 10) + nI (b p)) - 48) < (10000 : Int32) then ((((nI (if k < 10000 then k else 10000)) * 10) + nI (b p)) - 48) else 10000) = nI (if k2 < 10000 then k2 else 10000) := by
        have e1 : (((nI (if k < 10000 then k else 10000)) * 10) + nI (b p)) - 48 = nI ((if k < 10000 then k else 10000) * 10 + b p - 48) := by rw [show (10 : Int32) = nI 10 from rfl, pk_mul, nI_add, show (48 : Int32) = nI 48 from rfl, pk_sub (by omega)]
        rw [e1]
        by_cases q1 : k < 10000
        · rw [if_pos q1]
          have q2 : k2 = k * 10 + b p - 48 := by rw [hk2, if_neg (by omega)]; omega
          rw [q2]
          by_cases q3 : k * 10 + b p - 48 < 10000
          · rw [if_pos (show nI (k * 10 + b p - 48) < (10000 : Int32) from nI_lt (b := 10000) q3 (by decide)), if_pos q3]
          · rw [if_neg (show ¬ nI (k * 10 + b p - 48) < (10000 : Int32) from nI_nlt (b := 10000) (by omega) (by omega)), if_neg q3]
            rfl
        · rw [if_neg q1, if_neg (show ¬ nI (10000 * 10 + b p - 48) < (10000 : Int32) from nI_nlt (b := 10000) (by omega) (by omega))]
          have q2 : ¬ k2 < 10000 := by rw [hk2]; split <;> omega
          rw [if_neg q2]
          rfl
      rw [ec]
      obtain ⟨S7, e7⟩ : ∃ z, z = pI (pI S 23 4 (nI (if k2 < 10000 then k2 else 10000))) 23 5 (nI (p + 1)) := ⟨_, rfl⟩
      have f7 : FC S S7 := by rw [e7]; exact (FC.pI (by decide)).trans (FC.pI (by decide))
      obtain ⟨T7, t7⟩ : ∃ z, z = pI (if 100000 ≤ k then T else pI T 0 10 (nI k2)) 0 7 (nI (p + 1)) := ⟨_, rfl⟩
      have y7 : FM T T7 := by
        rw [t7]
        by_cases q : 100000 ≤ k
        · rw [if_pos q]; exact FM.pI (by decide)
        · rw [if_neg q]; exact (FM.pI (by decide)).trans (FM.pI (by decide))
      have t10 : gI T7 0 10 = nI k2 := by
        rw [t7, gI_nk _ _ _ _ (by decide)]
        by_cases q : 100000 ≤ k
        · rw [if_pos q, hk2, if_pos q]; exact h10
        · rw [if_neg q, gI_eq]
      have t8 : gI T7 0 8 = gI T 0 8 ∧ gI T7 0 9 = gI T 0 9 := by
        rw [t7, gI_nk _ _ _ _ (by decide), gI_nk _ _ _ _ (by decide)]
        by_cases q : 100000 ≤ k
        · rw [if_pos q]; exact ⟨rfl, rfl⟩
        · rw [if_neg q, gI_nk _ _ _ _ (by decide), gI_nk _ _ _ _ (by decide)]; exact ⟨rfl, rfl⟩
      obtain ⟨bh, k', S', T', r1, r2, r3, r4, r5, r6, r7, r8, r9, r10, r11, r12, r13, r14⟩ := ih (p + 1) n m k2 S7 T7 (by omega) (by omega) (by omega) (hC.ofR (by rw [f7.1])) (hM.ofR y7.1) (hT.step f7 y7) (by rw [e7, gI_eq]) (by rw [t7, gI_eq]) hk3 (by rw [e7, gI_nk _ _ _ _ (by decide), gI_eq]) t10
      refine ⟨bh, k', S', T', by omega, r2, fun _ _ => by omega, r4, ?_, ?_, f7.trans r7, y7.trans r8, r9, r10, r11, r12, ⟨r13.1.trans (by rw [e7, gI_nk _ _ _ _ (by decide), gI_nk _ _ _ _ (by decide)]), r13.2.trans (by rw [e7, gI_nk _ _ _ _ (by decide), gI_nk _ _ _ _ (by decide)])⟩, r14.1.trans t8.1, r14.2.trans t8.2⟩
      · rw [gI_nk _ _ _ _ (show 5 ≠ 4 by decide), h5, nI_1, ← e7]
        exact r5
      · unfold jX9_nextToken_131
        by_cases q : 100000 ≤ k
        · rw [if_pos (show (100000 : Int32) ≤ nI k from nI_le (a := 100000) q (by omega)), h7, nI_1, xlet_eq]
          rw [if_pos q] at t7
          rw [← t7]
          exact r6
        · rw [if_neg (show ¬ (100000 : Int32) ≤ nI k from nI_ge (a := k) (b := 100000) (by omega) (by decide)), xlet_eq, gI_nk _ _ _ _ (show 7 ≠ 10 by decide), h7, nI_1, xlet_eq]
          rw [if_neg q] at t7 hk2
          have e1 : ((10 * nI k) + nI (b p)) - 48 = nI k2 := by rw [hk2, show (10 : Int32) = nI 10 from rfl, pk_mul, nI_add, show (48 : Int32) = nI 48 from rfl, pk_sub (by omega)]
          rw [e1, ← t7]
          exact r6
    · have hd2 : isD (b p) = false := by simpa using hd
      rw [if_neg hd, if_pos rfl, if_pos rfl]
      exact ⟨p, k, S, T, Nat.le_refl _, by omega, fun _ q => absurd q hd, hk, rfl, rfl, FC.rfl', FM.rfl', h5, h7, h4, h10, ⟨rfl, rfl⟩, rfl, rfl⟩
/-! words -/
def chW (i : Nat) : Nat := ([115, 108, 105, 99, 101, 115, 32, 101, 97, 116, 115, 32, 115, 101, 97, 116, 32, 104, 105, 100, 101, 32, 103, 105, 118, 101, 32, 112, 97, 115, 115, 32, 97, 116, 32, 105, 102, 32, 111, 114, 32, 97, 110, 100, 32, 110, 111, 116, 32, 101, 110, 100, 32, 100, 97, 121, 32, 116, 97, 98, 108, 101, 32, 100, 97, 119, 110, 32, 115, 105, 115, 116, 101, 114, 32, 97, 112, 112, 101, 116, 105, 116, 101, 32, 108, 101, 102, 116, 32] : List Nat).getD i 0
def frW (j : Nat) : Nat := ([0, 7, 12, 17, 22, 27, 32, 35, 38, 41, 45, 49, 53, 57, 63, 68, 75, 84, 89] : List Nat).getD j 89
def lnW (j : Nat) : Nat := ([6, 4, 4, 4, 4, 4, 2, 2, 2, 3, 3, 3, 3, 5, 4, 6, 8, 4] : List Nat).getD j 0
theorem xch_W : ∀ i, i < 89 → xch 0 (nI i) = some (nI (chW i)) := by decide +kernel
theorem W_ok : ∀ j, j < 18 → frW (j + 1) = frW j + lnW j + 1 ∧ frW j + lnW j < 89 ∧ 0 < lnW j ∧ chW (frW j + lnW j) = 32 ∧ ∀ i, i < lnW j → (chW (frW j + i) ≠ 32 ∧ isL (chW (frW j + i)) = true ∧ chW (frW j + i) < 256) := by decide +kernel
theorem W_diff : ∀ j, j < 18 → ∀ j', j' < 18 → j ≠ j' → lnW j = lnW j' → ¬ ∀ i, i < lnW j → chW (frW j + i) = chW (frW j' + i) := by decide +kernel
/-- the letters from st to bh are the j-th word -/
def mtW (b : Nat → Nat) (st bh j : Nat) : Prop := bh = st + lnW j ∧ ∀ i, i < lnW j → b (st + i) = chW (frW j + i)
theorem mtW_one {b : Nat → Nat} {st bh j j' : Nat} (hj : j < 18) (hj' : j' < 18) (h : mtW b st bh j) (h' : mtW b st bh j') : j = j' := by
  rcases Nat.decEq j j' with q | q
  · exfalso
    have hl : lnW j = lnW j' := by have := h.1; have := h'.1; omega
    exact W_diff j hj j' hj' q hl (fun i hi => (h.2 i hi).symm.trans (h'.2 i (by omega)))
  · exact q
theorem spell_go {S T : xS} {len st : Nat} {b : Nat → Nat} (hC : RCr S) (hT : TP S T len b) (h3 : gI S 23 3 = nI st) {j : Nat} (hj : j < 18) (hb : st + lnW j ≤ len) : ∀ e i n, e + i = lnW j → e < n → (∀ k, k < i → b (st + k) = chW (frW j + k)) → ∃ r, lX7_spells_52 n S 23 (nI (frW j)) (nI (lnW j)) (nI i) = some (r, S) ∧ ((r = 1 ∧ ∀ k, k < lnW j → b (st + k) = chW (frW j + k)) ∨ (r = 0 ∧ ¬ ∀ k, k < lnW j → b (st + k) = chW (frW j + k))) := by
  have hl := hT.1
  obtain ⟨w1, w2, w3, w4, w5⟩ := W_ok j hj
  intro e
  induction e with
  | zero =>
    intro i n hi hn hp
    obtain ⟨n, rfl⟩ : ∃ q, n = q + 1 := ⟨n - 1, by omega⟩
    have hi : i = lnW j := by omega
    subst hi
    exact ⟨1, by rw [lX7_spells_52.eq_2, if_pos (nI_le (Nat.le_refl _) (by omega))], Or.inl ⟨rfl, hp⟩⟩
  | succ e ih =>
    intro i n hi hn hp
    obtain ⟨n, rfl⟩ : ∃ q, n = q + 1 := ⟨n - 1, by omega⟩
    have hb256 := (hT.2.2.2 (st + i) (by omega)).2.2
    have hc256 := (w5 i (by omega)).2.2
    rw [lX7_spells_52.eq_2, if_neg (nI_ge (by omega) (by omega)), nI_add, xch_W _ (by omega), Option.bind_some, rc_23_0 hC, Option.bind_some, h3, nI_add, aI_nI (Y := Yc) (c := 24) (by show _ < 300; omega) (by decide), Option.bind_some, (hT.2.2.2 (st + i) (by omega)).1, nI_1]
    by_cases hq : chW (frW j + i) = b (st + i)
    · rw [if_pos (by rw [hq])]
      exact ih (i + 1) n (by omega) (by omega) (fun k hk => by
        by_cases q : k = i
        · subst q; exact hq.symm
        · exact hp k (by omega))
    · rw [if_neg (fun q => hq ((nI_eq (by omega) (by omega)).mp q))]
      exact ⟨0, rfl, Or.inr ⟨rfl, fun h => hq (h i (by omega)).symm⟩⟩
theorem spells_c {S T : xS} {len st bh : Nat} {b : Nat → Nat} (hC : RCr S) (hT : TP S T len b) (h3 : gI S 23 3 = nI st) (h5 : gI S 23 5 = nI bh) (hsb : st ≤ bh) (hbl : bh ≤ len) {j : Nat} (hj : j < 18) : ∃ r, mX7_spells S 23 (nI (frW j)) (nI (frW j + lnW j)) = some (r, S) ∧ ((r = 1 ∧ mtW b st bh j) ∨ (r = 0 ∧ ¬ mtW b st bh j)) := by
  have hl := hT.1
  obtain ⟨w1, w2, w3, w4, w5⟩ := W_ok j hj
  unfold mX7_spells
  rw [h3, h5, pk_sub (by omega), pk_sub hsb, show frW j + lnW j - frW j = lnW j by omega]
  by_cases hq : lnW j = bh - st
  · rw [if_pos (by rw [hq]), if_neg (nI_pos (by omega)), if_neg (show ¬ (89 : Int32) < nI (frW j + lnW j) from nI_nlt (a := 89) (by omega) (by decide)), if_neg (nI_pos (by omega)), if_pos (show nI bh ≤ (300 : Int32) from nI_le (b := 300) (by omega) (by decide))]
    obtain ⟨r, r1, r2⟩ := spell_go hC hT h3 hj (by omega) (lnW j) 0 5000 (by omega) (by omega) (fun k hk => absurd hk (Nat.not_lt_zero _))
    refine ⟨r, r1, ?_⟩
    unfold mtW
    rcases r2 with ⟨a, b⟩ | ⟨a, b⟩
    · exact Or.inl ⟨a, by omega, b⟩
    · exact Or.inr ⟨a, fun h => b h.2⟩
  · rw [if_neg (fun q => hq ((nI_eq (by omega) (by omega)).mp q))]
    refine ⟨0, rfl, Or.inr ⟨rfl, fun h => hq ?_⟩⟩
    have := h.1
    omega
/-- within a word nothing happens -/
theorem scan_go {S : xS} {j : Nat} (hj : j < 18) (h2 : gI S 23 2 = 1) : ∀ e i n, e + i = lnW j → e < n → lX7_readWord_51 n S 23 (nI (200 + j)) (nI (frW j)) (nI (frW j + i)) = lX7_readWord_51 (n - e) S 23 (nI (200 + j)) (nI (frW j)) (nI (frW j + lnW j)) := by
  obtain ⟨w1, w2, w3, w4, w5⟩ := W_ok j hj
  intro e
  induction e with
  | zero =>
    intro i n hi hn
    have hi : i = lnW j := by omega
    subst hi
    rfl
  | succ e ih =>
    intro i n hi hn
    obtain ⟨n, rfl⟩ : ∃ q, n = q + 1 := ⟨n - 1, by omega⟩
    have w6 := (w5 i (by omega)).1
    have w7 := (w5 i (by omega)).2.2
    rw [lX7_readWord_51.eq_2, if_neg (show ¬ (89 : Int32) ≤ nI (frW j + i) from nI_ge (a := frW j + i) (b := 89) (by omega) (by decide)), if_pos h2, xch_W _ (by omega), Option.bind_some, if_neg (show ¬ nI (chW (frW j + i)) = (32 : Int32) from fun q => w6 ((nI_eq (b := 32) (by omega) (by decide)).mp q)), nI_1, Nat.add_assoc, ih (i + 1) n (by omega) (by omega)]
    congr 1
    omega
theorem find_go {S T : xS} {len st bh : Nat} {b : Nat → Nat} (hC : RCr S) (hT : TP S T len b) (h2 : gI S 23 2 = 1) (h3 : gI S 23 3 = nI st) (h5 : gI S 23 5 = nI bh) (hsb : st ≤ bh) (hbl : bh ≤ len) : ∀ e j n, e + j = 18 → 10 * e < n → (∀ k, k < j → ¬ mtW b st bh k) → ∃ κ S', lX7_readWord_51 n S 23 (nI (200 + j)) (nI (frW j)) (nI (frW j)) = some S' ∧ S' = pI S 23 2 (nI κ) ∧ (κ = 1 ∨ ∃ k, k < 18 ∧ κ = 200 + k) ∧ ∀ k, k < 18 → (mtW b st bh k ↔ κ = 200 + k) := by
  have same : pI S 23 2 (nI 1) = S := by
    have : ∀ c k, (pI S 23 2 (nI 1)).1 c k = S.1 c k := fun c k => by
      show gI (pI S 23 2 (nI 1)) c k = gI S c k
      rw [gI_pI]
      by_cases q : c = 23 ∧ k = 2
      · rw [if_pos q, q.1, q.2, h2]; rfl
      · rw [if_neg q]
    have h1 : (pI S 23 2 (nI 1)).1 = S.1 := funext (fun c => funext (fun k => this c k))
    exact Prod.ext h1 rfl
  intro e
  induction e with
  | zero =>
    intro j n hj hn hp
    obtain ⟨n, rfl⟩ : ∃ q, n = q + 1 := ⟨n - 1, by omega⟩
    have hj : j = 18 := by omega
    subst hj
    refine ⟨1, S, ?_, same.symm, Or.inl rfl, fun k hk => ⟨fun h => absurd h (hp k hk), fun h => absurd h (by omega)⟩⟩
    rw [lX7_readWord_51.eq_2, if_pos (by decide)]
  | succ e ih =>
    intro j n hj hn hp
    have hj18 : j < 18 := by omega
    obtain ⟨w1, w2, w3, w4, w5⟩ := W_ok j hj18
    have hln : lnW j ≤ 8 := (show ∀ j, j < 18 → lnW j ≤ 8 by decide +kernel) j hj18
    obtain ⟨m, em⟩ : ∃ m, n - lnW j = m + 1 := ⟨n - lnW j - 1, by omega⟩
    have sc := scan_go hj18 h2 (lnW j) 0 n (by omega) (by omega)
    rw [Nat.add_zero] at sc
    obtain ⟨r, r1, r2⟩ := spells_c hC hT h3 h5 hsb hbl hj18
    rw [sc, em, lX7_readWord_51.eq_2, if_neg (show ¬ (89 : Int32) ≤ nI (frW j + lnW j) from nI_ge (a := frW j + lnW j) (b := 89) (by omega) (by decide)), if_pos h2, xch_W _ w2, Option.bind_some, w4, if_pos (by decide), r1, Option.bind_some]
    unfold jX7_readWord_93
    dsimp only
    rcases r2 with ⟨rfl, hm⟩ | ⟨rfl, hm⟩
    · rw [if_neg n10, xlet_eq]
      refine ⟨200 + j, pI S 23 2 (nI (200 + j)), ?_, rfl, Or.inr ⟨j, hj18, rfl⟩, fun k hk => ⟨fun h => by rw [mtW_one hk hj18 h hm], fun h => by rw [show k = j by omega]; exact hm⟩⟩
      obtain ⟨m, rfl⟩ : ∃ q, m = q + 1 := ⟨m - 1, by omega⟩
      rw [lX7_readWord_51.eq_2, gI_eq]
      by_cases q : (89 : Int32) ≤ nI (frW j + lnW j) + 1
      · rw [if_pos q]
      · rw [if_neg q, if_neg (show ¬ nI (200 + j) = (1 : Int32) from fun q => by have := (nI_eq (a := 200 + j) (b := 1) (by omega) (by decide)).mp q; omega)]
    · rw [if_pos rfl, nI_1, nI_1, ← w1]
      exact ih (j + 1) m (by omega) (by omega) (fun k hk => by
        by_cases q : k = j
        · subst q; exact hm
        · exact hp k (by omega))

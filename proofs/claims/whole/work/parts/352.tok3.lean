/-! TOKENS: words packed, signs -/
def pkN (f : Nat → Nat) : Nat → Nat
  | 0 => 0
  | k + 1 => pkN f k * 256 + f k
theorem pkN_lt {f : Nat → Nat} : ∀ k, (∀ i, i < k → f i < 256) → pkN f k < 256 ^ k := by
  intro k
  induction k with
  | zero => intro _; exact Nat.one_pos
  | succ k ih =>
    intro h
    have h1 := ih (fun i hi => h i (by omega))
    have h2 := h k (by omega)
    unfold pkN
    rw [Nat.pow_succ]
    omega
theorem pkN_inj {f g : Nat → Nat} : ∀ n m, (∀ i, i < n → 0 < f i ∧ f i < 256) → (∀ i, i < m → 0 < g i ∧ g i < 256) → pkN f n = pkN g m → n = m ∧ ∀ i, i < n → f i = g i := by
  intro n
  induction n with
  | zero =>
    intro m hf hg h
    cases m with
    | zero => exact ⟨rfl, fun i hi => absurd hi (Nat.not_lt_zero _)⟩
    | succ m =>
      exfalso
      have := (hg m (by omega)).1
      unfold pkN at h
      omega
  | succ n ih =>
    intro m hf hg h
    have h1 := hf n (by omega)
    cases m with
    | zero =>
      exfalso
      unfold pkN at h
      omega
    | succ m =>
      have h2 := hg m (by omega)
      unfold pkN at h
      obtain ⟨e1, e2⟩ := ih m (fun i hi => hf i (by omega)) (fun i hi => hg i (by omega)) (by omega)
      refine ⟨by omega, fun i hi => ?_⟩
      by_cases q : i = n
      · have e3 : f n = g m := by omega
        rw [q, e3, e1]
      · exact e2 i (by omega)
theorem pkN_congr {f g : Nat → Nat} : ∀ n, (∀ i, i < n → f i = g i) → pkN f n = pkN g n := by
  intro n
  induction n with
  | zero => intro _; rfl
  | succ n ih =>
    intro h
    unfold pkN
    rw [ih (fun i hi => h i (by omega)), h n (by omega)]
theorem isL_lt {x : Nat} (h : isL x = true) : 65 ≤ x ∧ x ≤ 122 := by
  unfold isL at h
  simp at h
  omega
def wk (j : Nat) : Int64 := lN (pkN (fun i => chW (frW j + i)) (lnW j))
theorem word_go {len st : Nat} {b : Nat → Nat} : ∀ e p n m S T, e + p = len → e < n → e < m → RCr S → RMr T → TP S T len b → gI S 23 5 = nI p → gI T 0 7 = nI p → gI T 0 8 = nI st → st ≤ p → (∀ i, st ≤ i → i < p → isL (b i) = true) → gJ T 0 11 = lN (pkN (fun i => b (st + i)) (if p - st < 7 then p - st else 7)) → ∃ bh S' T', p ≤ bh ∧ bh ≤ len ∧ (p < len → isL (b p) = true → p < bh) ∧ (∀ i, st ≤ i → i < bh → isL (b i) = true) ∧ lX7_readWord_0 n S 23 = jX7_readWord_38 S' 23 ∧ lX9_nextToken_161 m T 0 = some T' ∧ FC S S' ∧ FM T T' ∧ gI S' 23 5 = nI bh ∧ gI T' 0 7 = nI bh ∧ gI S' 23 3 = gI S 23 3 ∧ (gI T' 0 8 = gI T 0 8 ∧ gI T' 0 9 = gI T 0 9) ∧ gJ T' 0 11 = (if bh - st ≤ 7 then lN (pkN (fun i => b (st + i)) (bh - st)) else 0) := by
  intro e
  have fin : ∀ (T : xS) (p : Nat), RMr T → gI T 0 7 = nI p → gI T 0 8 = nI st → st ≤ p → p < 2 ^ 31 → gJ T 0 11 = lN (pkN (fun i => b (st + i)) (if p - st < 7 then p - st else 7)) → ∃ T', (if (((gI T 0 7) - (gI T 0 8)) ≤ 7 : Prop) then (some T) else (xlet (pJ T 0 11 0) fun S5 => some S5)) = some T' ∧ FM T T' ∧ gI T' 0 7 = nI p ∧ (gI T' 0 8 = gI T 0 8 ∧ gI T' 0 9 = gI T 0 9) ∧ gJ T' 0 11 = (if p - st ≤ 7 then lN (pkN (fun i => b (st + i)) (p - st)) else 0) := by
    intro T p hM h7 h8 hsp hp hw
    rw [h7, h8, pk_sub hsp]
    by_cases q : p - st ≤ 7
    · refine ⟨T, by rw [if_pos (show nI (p - st) ≤ (7 : Int32) from nI_le (b := 7) q (by decide))], FM.rfl', h7, ⟨h8, rfl⟩, ?_⟩
      rw [if_pos q, hw]
      by_cases q2 : p - st < 7
      · rw [if_pos q2]
      · rw [if_neg q2, show p - st = 7 by omega]
    · refine ⟨pJ T 0 11 0, by rw [if_neg (show ¬ nI (p - st) ≤ (7 : Int32) from nI_ge (a := 7) (b := p - st) (by omega) (by omega))]; rfl, FM.pJ, h7, ⟨h8, rfl⟩, ?_⟩
      rw [if_neg q, gJ_eq]
  induction e with
  | zero =>
    intro p n m S T hp hn hm hC hM hT h5 h7 h8 hsp hL hw
    obtain ⟨n, rfl⟩ : ∃ q, n = q + 1 := ⟨n - 1, by omega⟩
    obtain ⟨m, rfl⟩ : ∃ q, m = q + 1 := ⟨m - 1, by omega⟩
    have hl := hT.1
    obtain ⟨T', f1, f2, f3, f4, f5⟩ := fin T p hM h7 h8 hsp (by omega) hw
    refine ⟨p, S, T', Nat.le_refl _, by omega, fun h => absurd h (by omega), hL, ?_, ?_, FC.rfl', f2, h5, f3, rfl, f4, f5⟩
    · rw [lX7_readWord_0.eq_2, h5, hT.2.1, if_pos (nI_le (by omega) (by omega))]
    · rw [lX9_nextToken_161.eq_2, h7, byte_m hM hT p (by omega), Option.bind_some, if_neg (show ¬ p < len by omega), letter_m1, Option.bind_some, if_pos rfl]
      exact f1
  | succ e ih =>
    intro p n m S T hp hn hm hC hM hT h5 h7 h8 hsp hL hw
    obtain ⟨n, rfl⟩ : ∃ q, n = q + 1 := ⟨n - 1, by omega⟩
    obtain ⟨m, rfl⟩ : ∃ q, m = q + 1 := ⟨m - 1, by omega⟩
    have hl := hT.1
    have hb := (hT.2.2.2 p (by omega)).2.2
    rw [lX7_readWord_0.eq_2, h5, hT.2.1, if_neg (nI_ge (by omega) (by omega)), byte_c hC hT p (by omega), Option.bind_some, if_pos (show p < len by omega), letter_c _ hb, Option.bind_some, lX9_nextToken_161.eq_2, h7, byte_m hM hT p (by omega), Option.bind_some, if_pos (show p < len by omega), letter_m _ hb, Option.bind_some]
    dsimp only
    by_cases hd : isL (b p) = true
    · rw [if_pos hd, if_neg n10, if_neg n10, h5, nI_1, xlet_eq]
      obtain ⟨T7, t7⟩ : ∃ z, z = pI (if 7 ≤ p - st then T else pJ T 0 11 (lN (pkN (fun i => b (st + i)) (p + 1 - st)))) 0 7 (nI (p + 1)) := ⟨_, rfl⟩
      have y7 : FM T T7 := by
        rw [t7]
        by_cases q : 7 ≤ p - st
        · rw [if_pos q]; exact FM.pI (by decide)
        · rw [if_neg q]; exact FM.pJ.trans (FM.pI (by decide))
      have t8 : gI T7 0 8 = gI T 0 8 ∧ gI T7 0 9 = gI T 0 9 := by
        rw [t7, gI_nk _ _ _ _ (by decide), gI_nk _ _ _ _ (by decide)]
        by_cases q : 7 ≤ p - st
        · rw [if_pos q]; exact ⟨rfl, rfl⟩
        · rw [if_neg q]; exact ⟨rfl, rfl⟩
      have tw : gJ T7 0 11 = lN (pkN (fun i => b (st + i)) (if p + 1 - st < 7 then p + 1 - st else 7)) := by
        rw [t7, gJ_pI]
        by_cases q : 7 ≤ p - st
        · rw [if_pos q, if_neg (by omega), hw, if_neg (by omega)]
        · rw [if_neg q, gJ_eq]
          by_cases q2 : p + 1 - st < 7
          · rw [if_pos q2]
          · rw [if_neg q2, show p + 1 - st = 7 by omega]
      have fc : FC S (pI S 23 5 (nI (p + 1))) := FC.pI (by decide)
      obtain ⟨bh, S', T', r1, r2, r3, r4, r5, r6, r7, r8, r9, r10, r11, r12, r13⟩ := ih (p + 1) n m (pI S 23 5 (nI (p + 1))) T7 (by omega) (by omega) (by omega) (hC.ofR rfl) (hM.ofR y7.1) (hT.step fc y7) (gI_eq _ _ _ _) (by rw [t7, gI_eq]) (t8.1.trans h8) (by omega) (fun i h1 h2 => by
        by_cases q : i = p
        · rw [q]; exact hd
        · exact hL i h1 (by omega)) tw
      refine ⟨bh, S', T', by omega, r2, fun _ _ => by omega, r4, r5, ?_, fc.trans r7, y7.trans r8, r9, r10, r11.trans (gI_nk _ _ _ _ (by decide)), ⟨r12.1.trans t8.1, r12.2.trans t8.2⟩, r13⟩
      unfold jX9_nextToken_210
      rw [h7, h8, pk_sub hsp]
      by_cases q : 7 ≤ p - st
      · rw [if_pos (show (7 : Int32) ≤ nI (p - st) from nI_le (a := 7) q (by omega)), nI_1, xlet_eq]
        rw [if_pos q] at t7
        rw [← t7]
        exact r6
      · rw [if_neg (show ¬ (7 : Int32) ≤ nI (p - st) from nI_ge (a := p - st) (b := 7) (by omega) (by decide)), byte_m hM hT p (by omega), Option.bind_some, if_pos (show p < len by omega), xlet_eq]
        dsimp only
        rw [hw, if_pos (show p - st < 7 by omega)]
        have hpk : pkN (fun i => b (st + i)) (p - st) < 2 ^ 48 := by
          have h1 := pkN_lt (f := fun i => b (st + i)) (p - st) (fun i hi => by have := isL_lt (hL (st + i) (by omega) (by omega)); show b (st + i) < 256; omega)
          have h2 : 256 ^ (p - st) ≤ 256 ^ 6 := Nat.pow_le_pow_right (by decide) (by omega)
          exact Nat.lt_of_lt_of_le h1 h2
        have e1 : pkN (fun i => b (st + i)) (p - st) * 256 + b p = pkN (fun i => b (st + i)) (p + 1 - st) := by
          rw [show p + 1 - st = (p - st) + 1 by omega]
          show _ = pkN (fun i => b (st + i)) (p - st) * 256 + b (st + (p - st))
          rw [show st + (p - st) = p by omega]
        rw [shl8 hpk hb, e1, gI_pJ, h7, nI_1, xlet_eq]
        rw [if_neg q] at t7
        rw [← t7]
        exact r6
    · rw [if_neg hd, if_pos rfl, if_pos rfl]
      obtain ⟨T', f1, f2, f3, f4, f5⟩ := fin T p hM h7 h8 hsp (by omega) hw
      exact ⟨p, S, T', Nat.le_refl _, by omega, fun _ q => absurd q hd, hL, rfl, f1, FC.rfl', f2, h5, f3, rfl, f4, f5⟩
theorem wk_iff {T : xS} {len st bh j : Nat} {b : Nat → Nat} (hsb : st ≤ bh) (hL : ∀ i, st ≤ i → i < bh → isL (b i) = true) (hj : j < 18) (h16 : j ≠ 16) (hw : gJ T 0 11 = (if bh - st ≤ 7 then lN (pkN (fun i => b (st + i)) (bh - st)) else 0)) : gJ T 0 11 = wk j ↔ mtW b st bh j := by
  have hln : lnW j ≤ 6 := (show ∀ j, j < 18 → j ≠ 16 → lnW j ≤ 6 by decide +kernel) j hj h16
  obtain ⟨w1, w2, w3, w4, w5⟩ := W_ok j hj
  have hg : ∀ i, i < lnW j → 0 < chW (frW j + i) ∧ chW (frW j + i) < 256 := fun i hi => by have := isL_lt (w5 i hi).2.1; omega
  have hk2 : pkN (fun i => chW (frW j + i)) (lnW j) < 2 ^ 63 := Nat.lt_of_lt_of_le (pkN_lt (lnW j) (fun i hi => (hg i hi).2)) (Nat.le_trans (Nat.pow_le_pow_right (by decide) hln : 256 ^ lnW j ≤ 256 ^ 6) (by decide))
  rw [hw]
  unfold wk mtW
  by_cases q : bh - st ≤ 7
  · have hf : ∀ i, i < bh - st → 0 < b (st + i) ∧ b (st + i) < 256 := fun i hi => by have := isL_lt (hL (st + i) (by omega) (by omega)); omega
    have hk1 : pkN (fun i => b (st + i)) (bh - st) < 2 ^ 63 := Nat.lt_of_lt_of_le (pkN_lt (bh - st) (fun i hi => (hf i hi).2)) (Nat.le_trans (Nat.pow_le_pow_right (by decide) q : 256 ^ (bh - st) ≤ 256 ^ 7) (by decide))
    rw [if_pos q, pk_lEQ hk1 hk2]
    constructor
    · intro h
      obtain ⟨e1, e2⟩ := pkN_inj _ _ hf hg h
      exact ⟨by omega, fun i hi => e2 i (by omega)⟩
    · intro h
      have e1 : bh - st = lnW j := by have := h.1; omega
      rw [e1]
      exact pkN_congr _ h.2
  · rw [if_neg q]
    constructor
    · intro h
      exfalso
      have : pkN (fun i => chW (frW j + i)) (lnW j) = 0 := ((pk_lEQ (a := 0) (by decide) hk2).mp h).symm
      obtain ⟨k, ek⟩ : ∃ k, lnW j = k + 1 := ⟨lnW j - 1, by omega⟩
      rw [ek] at this
      unfold pkN at this
      have := (hg k (by omega)).1
      omega
    · intro h
      exfalso
      have := h.1
      omega
def sgB (c : Nat) : Bool := ([60, 62, 61, 35, 43, 45, 42, 47, 40, 41, 59, 63, 58] : List Nat).contains c
def chS (i : Nat) : Nat := ([60, 62, 61, 35, 43, 45, 42, 47, 40, 41, 59, 63, 58] : List Nat).getD i 0
theorem xch_S : ∀ i, i < 13 → xch 1 (nI i) = some (nI (chS i)) ∧ chS i < 256 := by decide +kernel
theorem sg_iff : ∀ c, c < 256 → (sgB c = true ↔ ∃ k, k < 13 ∧ chS k = c) := by decide +kernel
theorem sign_go (S : xS) {c : Nat} (hc : c < 256) : ∀ e i n, e + i = 13 → e < n → (∀ k, k < i → chS k ≠ c) → lX7_isSign_2 n S (nI c) (nI i) = some (if sgB c then 1 else 0, S) := by
  intro e
  induction e with
  | zero =>
    intro i n hi hn hp
    obtain ⟨n, rfl⟩ : ∃ q, n = q + 1 := ⟨n - 1, by omega⟩
    have hi : i = 13 := by omega
    subst hi
    have hs : ¬ sgB c = true := fun h => by
      obtain ⟨k, h1, h2⟩ := (sg_iff c hc).mp h
      exact hp k h1 h2
    rw [lX7_isSign_2.eq_2, if_pos (by decide), if_neg hs]
  | succ e ih =>
    intro i n hi hn hp
    obtain ⟨n, rfl⟩ : ∃ q, n = q + 1 := ⟨n - 1, by omega⟩
    have hx := xch_S i (by omega)
    rw [lX7_isSign_2.eq_2, if_neg (show ¬ (13 : Int32) ≤ nI i from nI_ge (a := i) (b := 13) (by omega) (by decide)), hx.1, Option.bind_some, nI_1]
    have hx2 := hx.2
    by_cases q : chS i = c
    · rw [if_pos (by rw [q]), if_pos ((sg_iff c hc).mpr ⟨i, by omega, q⟩)]
    · rw [if_neg (fun h => q ((nI_eq (by omega) (by omega)).mp h))]
      exact ih (i + 1) n (by omega) (by omega) (fun k hk => by
        by_cases q2 : k = i
        · subst q2; exact q
        · exact hp k (by omega))
theorem isSign_c (S : xS) {c : Nat} (hc : c < 256) : mX7_isSign S (nI c) = some (if sgB c then 1 else 0, S) := sign_go S hc 13 0 5000 rfl (by decide) (fun k hk => absurd hk (Nat.not_lt_zero _))

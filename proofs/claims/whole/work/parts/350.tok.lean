/-! TOKENS: the tape of both -/
theorem l_tn {n : Nat} (h : n < 2 ^ 64) : (lN n).toBitVec.toNat = n := Nat.mod_eq_of_lt h
theorem shl8 {x y : Nat} (hx : x < 2 ^ 48) (hy : y < 256) : (lN x <<< ((8 : Int32).toInt64 &&& 63)) ||| (nI y : Int32).toInt64 = lN (x * 256 + y) := by
  refine Int64.toBitVec_inj.mp ?_
  rw [nI_l (by omega), Int64.toBitVec_or, Int64.toBitVec_shiftLeft, show (((8 : Int32).toInt64 &&& 63).toBitVec.smod 64) = 8#64 from by decide]
  apply BitVec.eq_of_toNat_eq
  rw [BitVec.toNat_or, BitVec.shiftLeft_eq', BitVec.toNat_shiftLeft, show (8#64).toNat = 8 from rfl, l_tn (by omega), l_tn (by omega), l_tn (by omega), Nat.shiftLeft_eq, Nat.mod_eq_of_lt (by omega), ← Nat.shiftLeft_eq, ← Nat.shiftLeft_add_eq_or_of_lt hy, Nat.shiftLeft_eq]
/-- the tape: len bytes b -/
def TP (S T : xS) (len : Nat) (b : Nat → Nat) : Prop := len ≤ 300 ∧ gI S 23 1 = nI len ∧ gI T 0 4 = nI len ∧ ∀ k, k < len → gI S 24 k = nI (b k) ∧ gI T 4 k = nI (b k) ∧ b k < 256
/-- what reading a token changes -/
def FC (S S' : xS) : Prop := S'.2 = S.2 ∧ (∀ c, c ≠ 23 → gI S' c = gI S c) ∧ gI S' 23 1 = gI S 23 1
def FM (T T' : xS) : Prop := T'.2.2 = T.2.2 ∧ (∀ c, c ≠ 0 → gI T' c = gI T c) ∧ (∀ k, k < 7 ∨ 10 < k → gI T' 0 k = gI T 0 k) ∧ ∀ c, c ≠ 0 → T'.2.1 c = T.2.1 c
theorem FC.rfl' {S : xS} : FC S S := ⟨rfl, fun _ _ => rfl, rfl⟩
theorem FC.trans {S S1 S2 : xS} (h : FC S S1) (g : FC S1 S2) : FC S S2 := ⟨g.1.trans h.1, fun c hc => (g.2.1 c hc).trans (h.2.1 c hc), g.2.2.trans h.2.2⟩
theorem FM.rfl' {S : xS} : FM S S := ⟨rfl, fun _ _ => rfl, fun _ _ => rfl, fun _ _ => rfl⟩
theorem FM.trans {S S1 S2 : xS} (h : FM S S1) (g : FM S1 S2) : FM S S2 := ⟨g.1.trans h.1, fun c hc => (g.2.1 c hc).trans (h.2.1 c hc), fun k hk => (g.2.2.1 k hk).trans (h.2.2.1 k hk), fun c hc => (g.2.2.2 c hc).trans (h.2.2.2 c hc)⟩
theorem FC.pI {S : xS} {k : Nat} {v : Int32} (hk : k ≠ 1) : FC S (pI S 23 k v) := ⟨rfl, fun c h => gIf_ne _ _ _ _ h, gI_nk _ _ _ _ (Ne.symm hk)⟩
theorem FM.pI {S : xS} {k : Nat} {v : Int32} (hk : 7 ≤ k ∧ k ≤ 10) : FM S (pI S 0 k v) := ⟨rfl, fun c h => gIf_ne _ _ _ _ h, fun j hj => gI_nk _ _ _ _ (by omega), fun _ _ => rfl⟩
theorem FM.pJ {S : xS} {k : Nat} {v : Int64} : FM S (pJ S 0 k v) := ⟨rfl, fun _ _ => rfl, fun _ _ => rfl, fun c hc => by funext j; exact gJ_ne S 0 k v (k' := j) hc⟩
theorem TP.step {S T S' T' : xS} {len : Nat} {b : Nat → Nat} (h : TP S T len b) (hc : FC S S') (hm : FM T T') : TP S' T' len b := ⟨h.1, hc.2.2.trans h.2.1, (hm.2.2.1 4 (by omega)).trans h.2.2.1, fun k hk => by rw [hc.2.1 24 (by decide), hm.2.1 4 (by decide)]; exact h.2.2.2 k hk⟩
theorem byte_c {S T : xS} {len : Nat} {b : Nat → Nat} (hC : RCr S) (h : TP S T len b) (p : Nat) (hp : p < 2 ^ 31) : mX7_byteAt S 23 (nI p) = some (if p < len then nI (b p) else 0, S) := by
  unfold mX7_byteAt
  have h3 := h.1
  rw [if_neg (nI_pos hp), h.2.1]
  by_cases hl : p < len
  · rw [if_neg (nI_ge hl (by omega)), if_neg (show ¬ (300 : Int32) ≤ nI p from nI_ge (a := p) (b := 300) (by omega) (by decide)), rc_23_0 hC, Option.bind_some, aI_nI (Y := Yc) (c := 24) (by show _ < 300; omega) (by decide), Option.bind_some, (h.2.2.2 p hl).1, if_pos hl]
  · rw [if_pos (nI_le (by omega) hp), if_neg hl]
theorem byte_m {S T : xS} {len : Nat} {b : Nat → Nat} (hM : RMr T) (h : TP S T len b) (p : Nat) (hp : p < 2 ^ 31) : mX9_byteAt T 0 (nI p) = some (if p < len then nI (b p) else -1, T) := by
  unfold mX9_byteAt
  have h3 := h.1
  rw [h.2.2.1]
  by_cases hl : p < len
  · rw [if_neg (nI_ge hl (by omega)), rm_3 hM, Option.bind_some, aI_nI (Y := Ym) (c := 4) (by show _ < 300; omega) (by decide), Option.bind_some, (h.2.2.2 p hl).2.1, if_pos hl]
  · rw [if_pos (nI_le (by omega) hp), if_neg hl]
def isL (x : Nat) : Bool := (97 ≤ x && x ≤ 122) || (65 ≤ x && x ≤ 90)
def isD (x : Nat) : Bool := 48 ≤ x && x ≤ 57
theorem letter_c : ∀ x, x < 256 → ∀ S : xS, mX7_isLetter S (nI x) = some (if isL x then 1 else 0, S) := by
  intro x hx S
  have key : ∀ x, x < 256 → (if (nI x < 97 : Prop) then (if (nI x < 65 : Prop) then (0 : Int32) else (if (90 < nI x : Prop) then 0 else 1)) else (if (nI x ≤ 122 : Prop) then 1 else (if (nI x < 65 : Prop) then 0 else (if (90 < nI x : Prop) then 0 else 1)))) = if isL x then 1 else 0 := by decide +kernel
  rw [← key x hx]
  unfold mX7_isLetter jX7_isLetter_12
  repeat' split
  all_goals rfl
theorem letter_m : ∀ x, x < 256 → ∀ S : xS, mX9_isLetter S (nI x) = some (if isL x then 1 else 0, S) := by
  intro x hx S
  have key : ∀ x, x < 256 → (if ((if (nI x < 97 ∨ 122 < nI x : Prop) then (0 : Int32) else 1) = 0 : Prop) then (if ((if (nI x < 65 ∨ 90 < nI x : Prop) then (0 : Int32) else 1) = 0 : Prop) then (0 : Int32) else 1) else 1) = if isL x then 1 else 0 := by decide +kernel
  rw [← key x hx]
  unfold mX9_isLetter
  rw [isIn_eq, Option.bind_some, isIn_eq, Option.bind_some]
  dsimp only
  by_cases h1 : (if (nI x < 97 ∨ 122 < nI x : Prop) then (0 : Int32) else 1) = 0
  · rw [if_pos h1, if_pos h1]
    by_cases h2 : (if (nI x < 65 ∨ 90 < nI x : Prop) then (0 : Int32) else 1) = 0
    · rw [if_pos h2, if_pos h2]
    · rw [if_neg h2, if_neg h2]
  · rw [if_neg h1, if_neg h1]
theorem digit_c : ∀ x, x < 256 → ∀ S : xS, mX7_isDigit S (nI x) = some (if isD x then 1 else 0, S) := by
  intro x hx S
  have key : ∀ x, x < 256 → (if (nI x < 48 : Prop) then (0 : Int32) else (if (57 < nI x : Prop) then 0 else 1)) = if isD x then 1 else 0 := by decide +kernel
  rw [← key x hx]
  unfold mX7_isDigit
  repeat' split
  all_goals rfl
theorem digit_m : ∀ x, x < 256 → ∀ S : xS, mX9_isDigit S (nI x) = some (if isD x then 1 else 0, S) := by
  intro x hx S
  have key : ∀ x, x < 256 → (if (nI x < 48 ∨ 57 < nI x : Prop) then (0 : Int32) else 1) = if isD x then 1 else 0 := by decide +kernel
  rw [← key x hx]
  unfold mX9_isDigit
  rw [isIn_eq, Option.bind_some]
  dsimp only
  split <;> rfl
theorem letter_m1 (S : xS) : mX9_isLetter S (-1) = some (0, S) := by
  unfold mX9_isLetter
  rw [isIn_eq, Option.bind_some, isIn_eq, Option.bind_some]
  rfl
theorem digit_m1 (S : xS) : mX9_isDigit S (-1) = some (0, S) := by
  unfold mX9_isDigit
  rw [isIn_eq, Option.bind_some]
  rfl
theorem blank_c : ∀ x, x < 256 → ∀ S : xS, mX7_isBlank S (nI x) = some (if x = 32 ∨ x = 10 then 1 else 0, S) := by
  intro x hx S
  unfold mX7_isBlank
  by_cases h1 : x = 32
  · subst h1; rfl
  by_cases h2 : x = 10
  · subst h2; rfl
  rw [if_neg (show ¬ nI x = (32 : Int32) from fun q => h1 ((nI_eq (a := x) (b := 32) (by omega) (by decide)).mp q)), if_neg (show ¬ nI x = (10 : Int32) from fun q => h2 ((nI_eq (a := x) (b := 10) (by omega) (by decide)).mp q)), if_neg (not_or2 h1 h2)]
/-- blanks are passed over -/
def nxtM (T : xS) : Option xS := xlet (pI T 0 8 (gI T 0 7)) fun S5 => (mX9_byteAt S5 0 (gI S5 0 7)).bind fun q6 => if (0 ≤ q6.1 : Prop) then ((mX9_isDigit q6.2 q6.1).bind fun q8 => if (q8.1 = 0 : Prop) then ((mX9_isLetter q8.2 q6.1).bind fun q10 => if (q10.1 = 0 : Prop) then (xlet (pI q10.2 0 7 ((gI q10.2 0 7) + 1)) fun S12 => if (q6.1 = 60 : Prop) then (jX9_nextToken_339 S12 0 q6.1) else (if (q6.1 = 62 : Prop) then (jX9_nextToken_339 S12 0 q6.1) else (if (q6.1 = 61 : Prop) then (jX9_nextToken_339 S12 0 q6.1) else (if (q6.1 = 35 : Prop) then (jX9_nextToken_339 S12 0 q6.1) else (if (q6.1 = 43 : Prop) then (jX9_nextToken_339 S12 0 q6.1) else (if (q6.1 = 45 : Prop) then (jX9_nextToken_339 S12 0 q6.1) else (if (q6.1 = 42 : Prop) then (jX9_nextToken_339 S12 0 q6.1) else (if (q6.1 = 47 : Prop) then (jX9_nextToken_339 S12 0 q6.1) else (if (q6.1 = 40 : Prop) then (jX9_nextToken_339 S12 0 q6.1) else (if (q6.1 = 41 : Prop) then (jX9_nextToken_339 S12 0 q6.1) else (if (q6.1 = 59 : Prop) then (jX9_nextToken_339 S12 0 q6.1) else (if (q6.1 = 44 : Prop) then (jX9_nextToken_339 S12 0 q6.1) else (if (q6.1 = 63 : Prop) then (jX9_nextToken_339 S12 0 q6.1) else (if (q6.1 = 58 : Prop) then (jX9_nextToken_339 S12 0 q6.1) else (jX9_nextToken_344 S12 0 q6.1 0))))))))))))))) else (xlet (pI q10.2 0 9 2) fun S27 => xlet (pJ S27 0 11 0) fun S28 => lX9_nextToken_161 5000 S28 0)) else (xlet (pI q8.2 0 9 1) fun S29 => xlet (pI S29 0 10 0) fun S30 => lX9_nextToken_85 5000 S30 0)) else (xlet (pI q6.2 0 9 0) fun S31 => some S31)
theorem skip_go {len : Nat} {b : Nat → Nat} : ∀ e p n m S T, e + p = len → e < n → e < m → RCr S → RMr T → TP S T len b → gI S 23 5 = nI p → gI T 0 7 = nI p → ∃ st S' T', p ≤ st ∧ st ≤ len ∧ (st < len → b st ≠ 32 ∧ b st ≠ 10) ∧ lX7_advance_0 n S 23 = jX7_advance_38 S' 23 ∧ lX9_nextToken_0 m T 0 = nxtM T' ∧ FC S S' ∧ FM T T' ∧ gI S' 23 5 = nI st ∧ gI T' 0 7 = nI st := by
  intro e
  induction e with
  | zero =>
    intro p n m S T hp hn hm hC hM hT h5 h7
    obtain ⟨n, rfl⟩ : ∃ q, n = q + 1 := ⟨n - 1, by omega⟩
    obtain ⟨m, rfl⟩ : ∃ q, m = q + 1 := ⟨m - 1, by omega⟩
    have hl := hT.1
    refine ⟨p, S, T, Nat.le_refl _, by omega, fun h => absurd h (by omega), ?_, ?_, FC.rfl', FM.rfl', h5, h7⟩
    · rw [lX7_advance_0.eq_2, h5, hT.2.1, if_pos (nI_le (by omega) (by omega))]
    · rw [lX9_nextToken_0.eq_2, h7, byte_m hM hT p (by omega), Option.bind_some, if_neg (show ¬ p < len by omega), if_neg (show ¬ (-1 : Int32) = 32 by decide)]
      dsimp only
      rw [h7, byte_m hM hT p (by omega), Option.bind_some, if_neg (show ¬ p < len by omega), if_neg (show ¬ (-1 : Int32) = 10 by decide)]
      unfold nxtM
      rw [h7]
  | succ e ih =>
    intro p n m S T hp hn hm hC hM hT h5 h7
    obtain ⟨n, rfl⟩ : ∃ q, n = q + 1 := ⟨n - 1, by omega⟩
    obtain ⟨m, rfl⟩ : ∃ q, m = q + 1 := ⟨m - 1, by omega⟩
    have hl := hT.1
    have hb := (hT.2.2.2 p (by omega)).2.2
    rw [lX7_advance_0.eq_2, h5, hT.2.1, if_neg (nI_ge (by omega) (by omega)), byte_c hC hT p (by omega), Option.bind_some, if_pos (show p < len by omega), blank_c _ hb, Option.bind_some, lX9_nextToken_0.eq_2, h7, byte_m hM hT p (by omega), Option.bind_some, if_pos (show p < len by omega)]
    dsimp only
    rw [h7, byte_m hM hT p (by omega), Option.bind_some, if_pos (show p < len by omega)]
    dsimp only
    have c32 : (nI (b p) = (32 : Int32)) ↔ b p = 32 := nI_eq (a := b p) (b := 32) (by omega) (by decide)
    have c10 : (nI (b p) = (10 : Int32)) ↔ b p = 10 := nI_eq (a := b p) (b := 10) (by omega) (by decide)
    by_cases hbl : b p = 32 ∨ b p = 10
    · rw [if_pos hbl, if_neg n10, h5, nI_1, xlet_eq]
      have fc : FC S (pI S 23 5 (nI (p + 1))) := FC.pI (by decide)
      have fm : FM T (pI T 0 7 (nI (p + 1))) := FM.pI (by decide)
      obtain ⟨st, S', T', r1, r2, r3, r4, r5, r6, r7, r8, r9⟩ := ih (p + 1) n m (pI S 23 5 (nI (p + 1))) (pI T 0 7 (nI (p + 1))) (by omega) (by omega) (by omega) (hC.ofR rfl) (hM.ofR rfl) (hT.step fc fm) (gI_eq _ _ _ _) (gI_eq _ _ _ _)
      refine ⟨st, S', T', by omega, r2, r3, r4, ?_, fc.trans r6, fm.trans r7, r8, r9⟩
      unfold jX9_nextToken_26
      rw [h7, nI_1, xlet_eq]
      by_cases h32 : b p = 32
      · rw [if_pos (c32.mpr h32)]
        exact r5
      · rw [if_neg (fun q => h32 (c32.mp q)), if_pos (c10.mpr (hbl.resolve_left h32))]
        exact r5
    · refine ⟨p, S, T, Nat.le_refl _, by omega, fun _ => ⟨fun q => hbl (Or.inl q), fun q => hbl (Or.inr q)⟩, ?_, ?_, FC.rfl', FM.rfl', h5, h7⟩
      · rw [if_neg hbl, if_pos rfl]
      · rw [if_neg (fun q => hbl (Or.inl (c32.mp q))), if_neg (fun q => hbl (Or.inr (c10.mp q)))]
        unfold nxtM
        rw [h7]

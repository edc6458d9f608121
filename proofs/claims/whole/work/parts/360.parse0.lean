/-! THE PARSERS: what the reference does at a token -/
def LEAF (T : xS) (o v : Int32) : Option (Int32 × xS) := (mX9_emit T 0 o v).bind fun S1 => (mX9_nextToken S1 0).bind fun S2 => (mX9_whole S2 0).bind fun S3 => some (0, S3)
theorem sg_of (c : Nat) (h : c = 40 ∨ c = 41 ∨ c = 42 ∨ c = 43 ∨ c = 45 ∨ c = 47 ∨ c = 58 ∨ c = 59 ∨ c = 60 ∨ c = 61 ∨ c = 62 ∨ c = 63 ∨ c = 35) : sgB c = true := by
  rcases h with rfl | rfl | rfl | rfl | rfl | rfl | rfl | rfl | rfl | rfl | rfl | rfl | rfl <;> decide
theorem tk_num {T : xS} {b : Nat → Nat} {κ st v bh : Nat} (h : TMk T b κ st v bh) (hk : κ = 2) : ∃ m, m < 1000010 ∧ gI T 0 10 = nI m ∧ v = if m < 10000 then m else 10000 := by
  rcases h with ⟨h1, h2⟩ | ⟨h1, h2⟩ | ⟨h1, h2, h3⟩ | ⟨h1, h2⟩ | ⟨h1, h2⟩ | ⟨h1, h2⟩ | ⟨h2, h1 | ⟨k, h3, h1⟩, -⟩
  · omega
  · omega
  · exact h3
  · omega
  · omega
  · rw [hk] at h1; exact absurd h1 (by decide)
  · omega
  · omega
section BEGIN
variable {S T : xS} {len : Nat} {b : Nat → Nat} {κ st v bh : Nat} {ie : Bool}
theorem beg_20 (hM : RMr T) (hT : TP S T len b) (hk : TK S T len b κ st v bh) (h20 : gI T 0 20 = bI ie) : jX9_beginOne_20 T 0 0 = if 212 ≤ κ ∧ κ ≤ 217 then (if κ ≤ 214 ∨ ie = true then jX9_beginOne_39 T 0 0 (nI (κ - 212)) else some (5, T)) else jX9_beginOne_39 T 0 0 (-1) := by
  unfold jX9_beginOne_20
  rw [nameOf_m hM hT hk, Option.bind_some]
  by_cases h : 212 ≤ κ ∧ κ ≤ 217
  · rw [if_pos h, if_pos h]
    dsimp only
    rw [if_neg (nI_pos (by omega))]
    unfold mX9_isOf
    by_cases h2 : κ ≤ 214
    · rw [if_pos (show nI (κ - 212) < (3 : Int32) from nI_lt (b := 3) (by omega) (by decide)), Option.bind_some, if_neg n10, if_pos (Or.inl h2)]
    · rw [if_neg (show ¬ nI (κ - 212) < (3 : Int32) from nI_nlt (b := 3) (by omega) (by omega)), h20]
      cases ie with
      | true => rw [if_pos (by decide), Option.bind_some, if_neg n10, if_pos (Or.inr rfl)]
      | false => rw [if_neg (by decide), Option.bind_some, if_pos rfl, if_neg (fun q => q.elim h2 (fun e => by cases e))]
  · rw [if_neg h, if_neg h]
    dsimp only
    rw [if_pos (by decide)]
theorem beg_num (hM : RMr T) (hT : TP S T len b) (hk : TK S T len b κ st v bh) (h20 : gI T 0 20 = bI ie) (h2 : κ = 2) : mX9_beginOne T 0 0 = if v < 10000 then LEAF T 0 (nI v) else some (2, T) := by
  obtain ⟨m, m1, m2, m3⟩ := tk_num hk.2.2.2 h2
  have ht := (tk_spec hk.2.2.2).2.1
  unfold mX9_beginOne
  rw [if_pos (ht.mpr h2), m2]
  by_cases h : m < 10000
  · rw [if_pos h] at m3
    rw [if_pos (show nI m ≤ (9999 : Int32) from nI_le (b := 9999) (by omega) (by decide)), beg_20 hM hT hk h20, if_neg (by omega), if_pos (by omega)]
    unfold jX9_beginOne_39 jX9_beginOne_51 jX9_beginOne_65 jX9_beginOne_81 LEAF
    rw [if_pos (ht.mpr h2), if_pos (ht.mpr h2), if_pos (ht.mpr h2), m2, m3]
  · rw [if_neg h] at m3
    rw [if_neg (show ¬ nI m ≤ (9999 : Int32) from nI_ge (a := 9999) (b := m) (by omega) (by omega)), if_neg (by omega)]
theorem beg_name (hM : RMr T) (hT : TP S T len b) (hk : TK S T len b κ st v bh) (h20 : gI T 0 20 = bI ie) (h2 : 212 ≤ κ ∧ κ ≤ 217) : mX9_beginOne T 0 0 = if κ ≤ 214 ∨ ie = true then LEAF T 1 (nI (κ - 212)) else some (5, T) := by
  have ht := (tk_spec hk.2.2.2).2.1
  have n1 : ¬ gI T 0 9 = 1 := fun q => by have := ht.mp q; omega
  unfold mX9_beginOne
  rw [if_neg n1, beg_20 hM hT hk h20, if_pos h2]
  by_cases h : κ ≤ 214 ∨ ie = true
  · rw [if_pos h, if_pos h]
    unfold jX9_beginOne_39 jX9_beginOne_51 jX9_beginOne_65 jX9_beginOne_81 LEAF
    rw [if_neg n1, if_neg (nI_pos (by omega)), if_neg n1, if_neg n1]
  · rw [if_neg h, if_neg h]
/-- behind the numbers and the names -/
theorem beg_rest (hM : RMr T) (hT : TP S T len b) (hk : TK S T len b κ st v bh) (h20 : gI T 0 20 = bI ie) (h2 : κ ≠ 2) (h3 : ¬ (212 ≤ κ ∧ κ ≤ 217)) : mX9_beginOne T 0 0 = if κ = 40 then (mX9_opensBy T 0 40).bind (fun q => some (q.1, q.2)) else if κ = 45 then (mX9_opensBy T 0 2).bind (fun q => some (q.1, q.2)) else if κ = 207 then (mX9_opensBy T 0 41).bind (fun q => some (q.1, q.2)) else if κ = 210 then (mX9_isAskAhead T 0 0).bind (fun q4 => if (q4.1 = 0 : Prop) then (some (1, q4.2)) else ((mX9_opensBy q4.2 0 20).bind fun q6 => some (q6.1, q6.2))) else some (1, T) := by
  have ht := (tk_spec hk.2.2.2).2.1
  have n1 : ¬ gI T 0 9 = 1 := fun q => h2 (ht.mp q)
  have s40 := tk_sign hk.2.2.2 (c := 40) (by decide)
  have s45 := tk_sign hk.2.2.2 (c := 45) (by decide)
  unfold mX9_beginOne
  rw [if_neg n1, beg_20 hM hT hk h20, if_neg h3]
  unfold jX9_beginOne_39
  rw [if_neg n1, if_pos (by decide)]
  by_cases c40 : κ = 40
  · rw [if_pos (show gI T 0 9 = 40 from s40.mpr c40), if_pos c40]
  rw [if_neg (show ¬ gI T 0 9 = 40 from fun q => c40 (s40.mp q)), if_neg c40]
  by_cases c45 : κ = 45
  · rw [if_pos (show gI T 0 9 = 45 from s45.mpr c45), if_pos c45]
  rw [if_neg (show ¬ gI T 0 9 = 45 from fun q => c45 (s45.mp q)), if_neg c45]
  have hw := tk_word hk.2.2.2 (j := 7) (by decide) (by decide) ((mX9_opensBy T 0 41).bind fun q7 => some (q7.1, q7.2)) (jX9_beginOne_151 T 0 0)
  rw [wk_vals.2.2.1] at hw
  rw [hw]
  by_cases c207 : κ = 207
  · rw [if_pos (show κ = 200 + 7 from c207), if_pos c207]
  rw [if_neg (show ¬ κ = 200 + 7 from c207), if_neg c207]
  unfold jX9_beginOne_151
  rw [w_not T, Option.bind_some]
  dsimp only
  rw [isWord_m hk.2.2.2 (j := 10) (by decide) (by decide), Option.bind_some]
  dsimp only
  by_cases c210 : κ = 210
  · rw [if_pos (show κ = 200 + 10 from c210), if_neg n10, if_pos c210]
  · rw [if_neg (show ¬ κ = 200 + 10 from c210), if_pos rfl, if_neg c210]
end BEGIN
/-- which operator stands between, for the reference -/
def btw (κ : Nat) : Nat := if κ = 43 then 3 else if κ = 45 then 4 else if κ = 42 then 5 else 6
def cmpOf (κ : Nat) : Int32 := if κ = 60 then 10 else if κ = 3 then 11 else if κ = 62 then 12 else if κ = 4 then 13 else if κ = 61 then 14 else if κ = 35 then 15 else -1
theorem btw_arith {T : xS} {b : Nat → Nat} {κ st v bh : Nat} (h : TMk T b κ st v bh) (hk : κ = 43 ∨ κ = 45 ∨ κ = 42 ∨ κ = 47) : mX9_betweenOf T 0 0 = some (nI (btw κ), T) := by
  have s43 := tk_sign h (c := 43) (by decide)
  have s45 := tk_sign h (c := 45) (by decide)
  have s42 := tk_sign h (c := 42) (by decide)
  have s47 := tk_sign h (c := 47) (by decide)
  unfold mX9_betweenOf btw
  by_cases c1 : κ = 43
  · rw [if_pos (show gI T 0 9 = 43 from s43.mpr c1), if_pos c1]; rfl
  rw [if_neg (show ¬ gI T 0 9 = 43 from fun q => c1 (s43.mp q)), if_neg c1]
  by_cases c2 : κ = 45
  · rw [if_pos (show gI T 0 9 = 45 from s45.mpr c2), if_pos c2]; rfl
  rw [if_neg (show ¬ gI T 0 9 = 45 from fun q => c2 (s45.mp q)), if_neg c2]
  by_cases c3 : κ = 42
  · rw [if_pos (show gI T 0 9 = 42 from s42.mpr c3), if_pos c3]; rfl
  rw [if_neg (show ¬ gI T 0 9 = 42 from fun q => c3 (s42.mp q)), if_neg c3]
  have c4 : κ = 47 := by omega
  rw [if_pos (show gI T 0 9 = 47 from s47.mpr c4)]
  rfl
theorem btw_rest {T : xS} {b : Nat → Nat} {κ st v bh : Nat} (h : TMk T b κ st v bh) (hk : ¬ (κ = 43 ∨ κ = 45 ∨ κ = 42 ∨ κ = 47)) {mk : Int32} (hko : mX9_kindOpen T 0 0 = some (mk, T)) : mX9_betweenOf T 0 0 = if (mk = 41 : Prop) then ((mX9_isCompared T 0).bind fun q7 => if (q7.1 = 0 : Prop) then some (cmpOf κ, q7.2) else some (if κ = 209 then 21 else if κ = 208 then 22 else -1, T)) else some (-1, T) := by
  have s43 := tk_sign h (c := 43) (by decide)
  have s45 := tk_sign h (c := 45) (by decide)
  have s42 := tk_sign h (c := 42) (by decide)
  have s47 := tk_sign h (c := 47) (by decide)
  unfold mX9_betweenOf
  rw [if_neg (show ¬ gI T 0 9 = 43 from fun q => hk (Or.inl (s43.mp q))), if_neg (show ¬ gI T 0 9 = 45 from fun q => hk (Or.inr (Or.inl (s45.mp q)))), if_neg (show ¬ gI T 0 9 = 42 from fun q => hk (Or.inr (Or.inr (Or.inl (s42.mp q))))), if_neg (show ¬ gI T 0 9 = 47 from fun q => hk (Or.inr (Or.inr (Or.inr (s47.mp q))))), hko, Option.bind_some]
  dsimp only
  by_cases c41 : mk = 41
  · rw [if_pos c41, if_pos c41]
    have hcmp : ∃ r, mX9_isCompared T 0 = some (r, T) ∨ mX9_isCompared T 0 = none := by
      cases hq : mX9_isCompared T 0 with
      | none => exact ⟨0, Or.inr rfl⟩
      | some p => exact ⟨p.1, Or.inl (by
          obtain ⟨r, T'⟩ := p
          have : T' = T := by
            have key : ∀ n (x : Int32) r T', lX9_isCompared_7 n T 0 x = some (r, T') → T' = T := by
              intro n
              induction n with
              | zero => intro x r T' h; cases h
              | succ n ih =>
                intro x r T' h
                have rkT : ∀ (y : Int32) p, mX9_rank T y = some p → p.2 = T := by
                  intro y p hp
                  unfold mX9_rank at hp
                  repeat' split at hp
                  all_goals (cases hp; rfl)
                have fin : ∀ (y : Int32) r T', jX9_isCompared_30 T 0 y = some (r, T') → T' = T := by
                  intro y r T' h
                  unfold jX9_isCompared_30 at h
                  split at h
                  · cases h; rfl
                  · obtain ⟨d, -, h⟩ := xb h
                    obtain ⟨z, -, h⟩ := xb h
                    obtain ⟨p, hp, h⟩ := xb h
                    have := rkT _ _ hp
                    split at h <;> (cases h; exact this)
                rw [lX9_isCompared_7.eq_2] at h
                split at h
                · exact fin _ _ _ h
                · obtain ⟨d, -, h⟩ := xb h
                  obtain ⟨z, -, h⟩ := xb h
                  obtain ⟨p, hp, h⟩ := xb h
                  have e := rkT _ _ hp
                  split at h
                  · rw [e] at h; exact fin _ _ _ h
                  · rw [e] at h; exact ih _ _ _ h
            exact key 5000 _ r T' hq
          rw [this])⟩
    obtain ⟨r, hr⟩ := hcmp
    rcases hr.symm with hr | hr
    · rw [hr]; rfl
    rw [hr, Option.bind_some, Option.bind_some]
    dsimp only
    by_cases hr0 : r = 0
    · rw [if_pos hr0, if_pos hr0]
      unfold mX9_compareOf cmpOf
      have s60 := tk_sign h (c := 60) (by decide)
      have s62 := tk_sign h (c := 62) (by decide)
      have s61 := tk_sign h (c := 61) (by decide)
      have s35 := tk_sign h (c := 35) (by decide)
      obtain ⟨-, -, p4, p5⟩ := tk_spec h
      by_cases d1 : κ = 60
      · rw [if_pos (show gI T 0 9 = 60 from s60.mpr d1), if_pos d1]; rfl
      rw [if_neg (show ¬ gI T 0 9 = 60 from fun q => d1 (s60.mp q)), if_neg d1]
      by_cases d2 : κ = 3
      · rw [if_pos (p4.mpr d2), if_pos d2]; rfl
      rw [if_neg (fun q => d2 (p4.mp q)), if_neg d2]
      by_cases d3 : κ = 62
      · rw [if_pos (show gI T 0 9 = 62 from s62.mpr d3), if_pos d3]; rfl
      rw [if_neg (show ¬ gI T 0 9 = 62 from fun q => d3 (s62.mp q)), if_neg d3]
      by_cases d4 : κ = 4
      · rw [if_pos (p5.mpr d4), if_pos d4]; rfl
      rw [if_neg (fun q => d4 (p5.mp q)), if_neg d4]
      by_cases d5 : κ = 61
      · rw [if_pos (show gI T 0 9 = 61 from s61.mpr d5), if_pos d5]; rfl
      rw [if_neg (show ¬ gI T 0 9 = 61 from fun q => d5 (s61.mp q)), if_neg d5]
      by_cases d6 : κ = 35
      · rw [if_pos (show gI T 0 9 = 35 from s35.mpr d6), if_pos d6]; rfl
      rw [if_neg (show ¬ gI T 0 9 = 35 from fun q => d6 (s35.mp q)), if_neg d6]
      rfl
    · rw [if_neg hr0, if_neg hr0, w_and T, Option.bind_some]
      dsimp only
      rw [isWord_m h (j := 9) (by decide) (by decide), Option.bind_some]
      dsimp only
      by_cases d1 : κ = 209
      · rw [if_pos (show κ = 200 + 9 from d1), if_neg n10, if_pos d1]
      · rw [if_neg (show ¬ κ = 200 + 9 from d1), if_pos rfl, if_neg d1]
        have hw := tk_word h (j := 8) (by decide) (by decide) (some ((22 : Int32), T)) (some ((-1 : Int32), T))
        rw [wk_vals.2.2.2] at hw
        rw [hw]
        by_cases d2 : κ = 208
        · rw [if_pos (show κ = 200 + 8 from d2), if_pos d2]
        · rw [if_neg (show ¬ κ = 200 + 8 from d2), if_neg d2]
  · rw [if_neg c41, if_neg c41]

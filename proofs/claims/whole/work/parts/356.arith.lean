/-! WHAT THE STEPS OF A LAW DO TO NUMBERS -/
def clipI (x : Int) : Int := if 1000000 < x then 1000000 else if x < -1000000 then -1000000 else x
def op2 (o : Nat) (x y : Int) : Int := if o = 3 then clipI (x + y) else if o = 4 then clipI (x - y) else if o = 5 then clipI (x * y) else if y = 0 then 0 else clipI (x.tdiv y)
def cmpB (o : Nat) (x y : Int) : Bool := if o = 10 then decide (x < y) else if o = 11 then decide (x ≤ y) else if o = 12 then decide (y < x) else if o = 13 then decide (y ≤ x) else if o = 14 then decide (x = y) else decide (x ≠ y)
def inM (x : Int) : Prop := -1000000 ≤ x ∧ x ≤ 1000000
theorem clipI_in (x : Int) : inM (clipI x) := by
  unfold clipI inM
  split
  · omega
  · split <;> omega
theorem op2_in (o : Nat) (x y : Int) : inM (op2 o x y) := by
  unfold op2
  repeat' split
  all_goals first | exact clipI_in _ | (unfold inM; omega)
theorem clip_m (S : xS) (z : Int64) : ∃ r, mX9_clip S z = some (r, S) ∧ r.toInt = clipI z.toInt := by
  unfold mX9_clip clipI
  have e1 : (1000000 : Int64).toInt = 1000000 := by decide
  have e2 : (-1000000 : Int64).toInt = -1000000 := by decide
  by_cases h1 : z ≤ 1000000
  · have d1 := Int64.le_iff_toInt_le.mp h1
    rw [e1] at d1
    rw [if_pos ((lg_cmp_le _ _).mpr h1)]
    by_cases h2 : -1000000 ≤ z
    · have d2 := Int64.le_iff_toInt_le.mp h2
      rw [e2] at d2
      exact ⟨z, by rw [if_pos ((lg_cmp_ge _ _).mpr h2)], by rw [if_neg (by omega), if_neg (by omega)]⟩
    · have d2 := Int64.lt_iff_toInt_lt.mp (Int64.not_le.mp h2)
      rw [e2] at d2
      exact ⟨-1000000, by rw [if_neg (fun q => h2 ((lg_cmp_ge _ _).mp q))], by rw [if_neg (by omega), if_pos d2]; exact e2⟩
  · have d1 := Int64.lt_iff_toInt_lt.mp (Int64.not_le.mp h1)
    rw [e1] at d1
    exact ⟨1000000, by rw [if_neg (fun q => h1 ((lg_cmp_le _ _).mp q))], by rw [if_pos d1]; exact e1⟩
theorem held_c (S : xS) (z : Int64) : ∃ r, mX5_held S z = some (r, S) ∧ r.toInt = clipI z.toInt := by
  unfold mX5_held clipI
  have e1 : (1000000 : Int64).toInt = 1000000 := by decide
  have e2 : (-1000000 : Int64).toInt = -1000000 := by decide
  by_cases h1 : z ≤ 1000000
  · have d1 := Int64.le_iff_toInt_le.mp h1
    rw [e1] at d1
    rw [if_pos ((lg_cmp_le _ _).mpr h1)]
    by_cases h2 : -1000000 ≤ z
    · have d2 := Int64.le_iff_toInt_le.mp h2
      rw [e2] at d2
      refine ⟨z.toInt32, by rw [if_pos ((lg_cmp_ge _ _).mpr h2)], ?_⟩
      rw [if_neg (by omega), if_neg (by omega), Int64.toInt_toInt32]
      exact Int.bmod_eq_of_le (by omega) (by omega)
    · have d2 := Int64.lt_iff_toInt_lt.mp (Int64.not_le.mp h2)
      rw [e2] at d2
      exact ⟨-1000000, by rw [if_neg (fun q => h2 ((lg_cmp_ge _ _).mp q))], by rw [if_neg (by omega), if_pos d2]; decide⟩
  · have d1 := Int64.lt_iff_toInt_lt.mp (Int64.not_le.mp h1)
    rw [e1] at d1
    exact ⟨1000000, by rw [if_neg (fun q => h1 ((lg_cmp_le _ _).mp q))], by rw [if_pos d1]; decide⟩
theorem mul_in {x y : Int} (hx : inM x) (hy : inM y) : -1000000000000 ≤ x * y ∧ x * y ≤ 1000000000000 := by
  obtain ⟨a, b⟩ := hx
  obtain ⟨c, d⟩ := hy
  have h1 : (x * y).natAbs ≤ 1000000 * 1000000 := by
    rw [Int.natAbs_mul]
    exact Nat.mul_le_mul (by omega) (by omega)
  omega
theorem tdiv_in {x y : Int} (hx : inM x) : inM (x.tdiv y) := by
  obtain ⟨a, b⟩ := hx
  have h1 : (x.tdiv y).natAbs ≤ x.natAbs := by
    rw [Int.natAbs_tdiv]
    exact Nat.div_le_self _ _
  unfold inM
  omega
theorem add64 {x y : Int64} (hx : inM x.toInt) (hy : inM y.toInt) : (x + y).toInt = x.toInt + y.toInt := by
  obtain ⟨a, b⟩ := hx
  obtain ⟨c, d⟩ := hy
  rw [Int64.toInt_add]
  exact Int.bmod_eq_of_le (by omega) (by omega)
theorem sub64 {x y : Int64} (hx : inM x.toInt) (hy : inM y.toInt) : (x - y).toInt = x.toInt - y.toInt := by
  obtain ⟨a, b⟩ := hx
  obtain ⟨c, d⟩ := hy
  rw [Int64.toInt_sub]
  exact Int.bmod_eq_of_le (by omega) (by omega)
theorem mul64 {x y : Int64} (hx : inM x.toInt) (hy : inM y.toInt) : (x * y).toInt = x.toInt * y.toInt := by
  have := mul_in hx hy
  rw [Int64.toInt_mul]
  exact Int.bmod_eq_of_le (by omega) (by omega)
theorem div64 {x y : Int64} (hx : inM x.toInt) : (x / y).toInt = x.toInt.tdiv y.toInt := by
  have := tdiv_in (y := y.toInt) hx
  obtain ⟨a, b⟩ := this
  rw [Int64.toInt_div]
  exact Int.bmod_eq_of_le (by omega) (by omega)
theorem two_m {S : xS} {o : Nat} {x y : Int64} (ho : o = 3 ∨ o = 4 ∨ o = 5 ∨ o = 6) (hx : inM x.toInt) (hy : inM y.toInt) : ∃ r, mX9_two S (nI o) x y = some (r, S) ∧ r.toInt = op2 o x.toInt y.toInt := by
  unfold mX9_two op2
  rcases ho with rfl | rfl | rfl | rfl
  · obtain ⟨r, r1, r2⟩ := clip_m S (x + y)
    refine ⟨r, by rw [if_pos (by decide), r1]; rfl, ?_⟩
    rw [if_pos rfl, r2, add64 hx hy]
  · obtain ⟨r, r1, r2⟩ := clip_m S (x - y)
    refine ⟨r, by rw [if_neg (by decide), if_pos (by decide), r1]; rfl, ?_⟩
    rw [if_neg (by decide), if_pos rfl, r2, sub64 hx hy]
  · obtain ⟨r, r1, r2⟩ := clip_m S (x * y)
    refine ⟨r, by rw [if_neg (by decide), if_neg (by decide), if_pos (by decide), r1]; rfl, ?_⟩
    rw [if_neg (by decide), if_neg (by decide), if_pos rfl, r2, mul64 hx hy]
  · rw [if_neg (by decide), if_neg (by decide), if_neg (by decide)]
    rw [if_neg (show ¬ 6 = 3 by decide), if_neg (show ¬ 6 = 4 by decide), if_neg (show ¬ 6 = 5 by decide)]
    by_cases h0 : y = 0
    · refine ⟨0, by rw [if_pos ((lg_cmp_eq _ _).mpr h0)], ?_⟩
      rw [if_pos (by rw [h0]; decide)]
      decide
    · obtain ⟨r, r1, r2⟩ := clip_m S (x / y)
      refine ⟨r, by rw [if_neg (fun q => h0 ((lg_cmp_eq _ _).mp q)), if_neg h0, r1]; rfl, ?_⟩
      rw [if_neg (fun q => h0 (Int64.toInt_inj.mp (q.trans (by decide)))), r2, div64 hx]
theorem asked_m {S : xS} {o : Nat} {x y : Int64} (ho : o = 10 ∨ o = 11 ∨ o = 12 ∨ o = 13 ∨ o = 14 ∨ o = 15) : mX9_isAsked S (nI o) x y = some (if cmpB o x.toInt y.toInt then 1 else 0, S) := by
  unfold mX9_isAsked cmpB
  rcases ho with rfl | rfl | rfl | rfl | rfl | rfl
  · rw [if_pos (by decide), if_pos rfl]
    by_cases h : x < y
    · rw [if_neg (fun q => absurd ((lg_cmp_ge _ _).mp q) (Int64.not_le.mpr h)), if_pos (decide_eq_true (Int64.lt_iff_toInt_lt.mp h))]
    · rw [if_pos ((lg_cmp_ge _ _).mpr (Int64.not_lt.mp h)), if_neg (by rw [decide_eq_false (fun q => h (Int64.lt_iff_toInt_lt.mpr q))]; decide)]
  · rw [if_neg (by decide), if_pos (by decide), if_neg (show ¬ 11 = 10 by decide), if_pos rfl]
    by_cases h : x ≤ y
    · rw [if_neg (fun q => absurd ((lg_cmp_gt _ _).mp q) (Int64.not_lt.mpr h)), if_pos (decide_eq_true (Int64.le_iff_toInt_le.mp h))]
    · rw [if_pos ((lg_cmp_gt _ _).mpr (Int64.not_le.mp h)), if_neg (by rw [decide_eq_false (fun q => h (Int64.le_iff_toInt_le.mpr q))]; decide)]
  · rw [if_neg (by decide), if_neg (by decide), if_pos (by decide), if_neg (show ¬ 12 = 10 by decide), if_neg (show ¬ 12 = 11 by decide), if_pos rfl]
    by_cases h : y < x
    · rw [if_neg (fun q => absurd ((lg_cmp_le _ _).mp q) (Int64.not_le.mpr h)), if_pos (decide_eq_true (Int64.lt_iff_toInt_lt.mp h))]
    · rw [if_pos ((lg_cmp_le _ _).mpr (Int64.not_lt.mp h)), if_neg (by rw [decide_eq_false (fun q => h (Int64.lt_iff_toInt_lt.mpr q))]; decide)]
  · rw [if_neg (by decide), if_neg (by decide), if_neg (by decide), if_pos (by decide), if_neg (show ¬ 13 = 10 by decide), if_neg (show ¬ 13 = 11 by decide), if_neg (show ¬ 13 = 12 by decide), if_pos rfl]
    by_cases h : y ≤ x
    · rw [if_neg (fun q => absurd ((lg_cmp_lt _ _).mp q) (Int64.not_lt.mpr h)), if_pos (decide_eq_true (Int64.le_iff_toInt_le.mp h))]
    · rw [if_pos ((lg_cmp_lt _ _).mpr (Int64.not_le.mp h)), if_neg (by rw [decide_eq_false (fun q => h (Int64.le_iff_toInt_le.mpr q))]; decide)]
  · rw [if_neg (by decide), if_neg (by decide), if_neg (by decide), if_neg (by decide), if_pos (by decide), if_neg (show ¬ 14 = 10 by decide), if_neg (show ¬ 14 = 11 by decide), if_neg (show ¬ 14 = 12 by decide), if_neg (show ¬ 14 = 13 by decide), if_pos rfl]
    by_cases h : x = y
    · rw [if_pos ((lg_cmp_eq _ _).mpr h), if_pos (decide_eq_true (by rw [h]))]
    · rw [if_neg (fun q => h ((lg_cmp_eq _ _).mp q)), if_neg (by rw [decide_eq_false (fun q => h (Int64.toInt_inj.mp q))]; decide)]
  · rw [if_neg (by decide), if_neg (by decide), if_neg (by decide), if_neg (by decide), if_neg (by decide), if_neg (show ¬ 15 = 10 by decide), if_neg (show ¬ 15 = 11 by decide), if_neg (show ¬ 15 = 12 by decide), if_neg (show ¬ 15 = 13 by decide), if_neg (show ¬ 15 = 14 by decide)]
    by_cases h : x = y
    · rw [if_pos ((lg_cmp_eq _ _).mpr h), if_neg (by rw [decide_eq_false (fun q => q (by rw [h]))]; decide)]
    · rw [if_neg (fun q => h ((lg_cmp_eq _ _).mp q)), if_pos (decide_eq_true (show x.toInt ≠ y.toInt from fun q => h (Int64.toInt_inj.mp q)))]
theorem i2l_in {x : Int32} (h : inM x.toInt) : inM x.toInt64.toInt := by rw [Int32.toInt_toInt64]; exact h
/-- the class's steps of two, with what they are held to: those of numbers, those of questions -/
def cTwo (S : xS) (o x y : Int32) : Option (Int32 × xS) := (mX5_ofTwo S o x.toInt64 y.toInt64).bind fun q => mX5_held q.2 q.1
theorem cTwo_of {S : xS} {o x y : Int32} {z : Int64} (h : mX5_ofTwo S o x.toInt64 y.toInt64 = some (z, S)) : ∃ r, cTwo S o x y = some (r, S) ∧ r.toInt = clipI z.toInt := by
  obtain ⟨r, r1, r2⟩ := held_c S z
  refine ⟨r, ?_, r2⟩
  unfold cTwo
  rw [h, Option.bind_some]
  exact r1
theorem cTwo_n {S : xS} {o : Nat} {x y : Int32} (ho : o = 3 ∨ o = 4 ∨ o = 5 ∨ o = 6) (hx : inM x.toInt) (hy : inM y.toInt) : ∃ r, cTwo S (nI (o + 3)) x y = some (r, S) ∧ r.toInt = op2 o x.toInt y.toInt := by
  have hx' := i2l_in hx
  have hy' := i2l_in hy
  unfold op2
  rcases ho with rfl | rfl | rfl | rfl
  · obtain ⟨r, r1, r2⟩ := cTwo_of (S := S) (o := nI (3 + 3)) (x := x) (y := y) (z := x.toInt64 + y.toInt64) (by unfold mX5_ofTwo; rw [if_pos (by decide)])
    refine ⟨r, r1, ?_⟩
    rw [if_pos rfl, r2, add64 hx' hy', Int32.toInt_toInt64, Int32.toInt_toInt64]
  · obtain ⟨r, r1, r2⟩ := cTwo_of (S := S) (o := nI (4 + 3)) (x := x) (y := y) (z := x.toInt64 - y.toInt64) (by unfold mX5_ofTwo; rw [if_neg (by decide), if_pos (by decide)])
    refine ⟨r, r1, ?_⟩
    rw [if_neg (by decide), if_pos rfl, r2, sub64 hx' hy', Int32.toInt_toInt64, Int32.toInt_toInt64]
  · obtain ⟨r, r1, r2⟩ := cTwo_of (S := S) (o := nI (5 + 3)) (x := x) (y := y) (z := x.toInt64 * y.toInt64) (by unfold mX5_ofTwo; rw [if_neg (by decide), if_neg (by decide), if_pos (by decide)])
    refine ⟨r, r1, ?_⟩
    rw [if_neg (by decide), if_neg (by decide), if_pos rfl, r2, mul64 hx' hy', Int32.toInt_toInt64, Int32.toInt_toInt64]
  · rw [if_neg (show ¬ 6 = 3 by decide), if_neg (show ¬ 6 = 4 by decide), if_neg (show ¬ 6 = 5 by decide)]
    by_cases h0 : y = 0
    · obtain ⟨r, r1, r2⟩ := cTwo_of (S := S) (o := nI (6 + 3)) (x := x) (y := y) (z := 0) (by unfold mX5_ofTwo; rw [if_neg (by decide), if_neg (by decide), if_neg (by decide), if_pos (by decide), if_pos ((lg_cmp_eq _ _).mpr (by rw [h0]; decide))])
      refine ⟨r, r1, ?_⟩
      rw [if_pos (by rw [h0]; decide), r2]
      decide
    · have h0' : ¬ y.toInt64 = 0 := fun q => h0 (Int32.toInt_inj.mp (by have := congrArg Int64.toInt q; rw [Int32.toInt_toInt64] at this; rw [this]; decide))
      obtain ⟨r, r1, r2⟩ := cTwo_of (S := S) (o := nI (6 + 3)) (x := x) (y := y) (z := x.toInt64 / y.toInt64) (by unfold mX5_ofTwo; rw [if_neg (by decide), if_neg (by decide), if_neg (by decide), if_pos (by decide), if_neg (fun q => h0' ((lg_cmp_eq _ _).mp q)), if_neg h0'])
      refine ⟨r, r1, ?_⟩
      rw [if_neg (fun q => h0 (Int32.toInt_inj.mp (q.trans (by decide)))), r2, div64 hx', Int32.toInt_toInt64, Int32.toInt_toInt64]
theorem ofTwo_q {S : xS} {o : Nat} {x y : Int64} (ho : o = 10 ∨ o = 11 ∨ o = 12 ∨ o = 13 ∨ o = 14 ∨ o = 15) : mX5_ofTwo S (nI o) x y = some (if cmpB o x.toInt y.toInt then 1 else 0, S) := by
  unfold mX5_ofTwo cmpB
  rcases ho with rfl | rfl | rfl | rfl | rfl | rfl
  · rw [if_neg (by decide), if_neg (by decide), if_neg (by decide), if_neg (by decide), if_pos (by decide), if_pos rfl]
    by_cases h : x < y
    · rw [if_neg (fun q => absurd ((lg_cmp_ge _ _).mp q) (Int64.not_le.mpr h)), if_pos (decide_eq_true (Int64.lt_iff_toInt_lt.mp h))]
    · rw [if_pos ((lg_cmp_ge _ _).mpr (Int64.not_lt.mp h)), if_neg (by rw [decide_eq_false (fun q => h (Int64.lt_iff_toInt_lt.mpr q))]; decide)]
  · rw [if_neg (by decide), if_neg (by decide), if_neg (by decide), if_neg (by decide), if_neg (by decide), if_pos (by decide), if_neg (show ¬ 11 = 10 by decide), if_pos rfl]
    by_cases h : x ≤ y
    · rw [if_neg (fun q => absurd ((lg_cmp_gt _ _).mp q) (Int64.not_lt.mpr h)), if_pos (decide_eq_true (Int64.le_iff_toInt_le.mp h))]
    · rw [if_pos ((lg_cmp_gt _ _).mpr (Int64.not_le.mp h)), if_neg (by rw [decide_eq_false (fun q => h (Int64.le_iff_toInt_le.mpr q))]; decide)]
  · rw [if_neg (by decide), if_neg (by decide), if_neg (by decide), if_neg (by decide), if_neg (by decide), if_neg (by decide), if_pos (by decide), if_neg (show ¬ 12 = 10 by decide), if_neg (show ¬ 12 = 11 by decide), if_pos rfl]
    by_cases h : y < x
    · rw [if_neg (fun q => absurd ((lg_cmp_le _ _).mp q) (Int64.not_le.mpr h)), if_pos (decide_eq_true (Int64.lt_iff_toInt_lt.mp h))]
    · rw [if_pos ((lg_cmp_le _ _).mpr (Int64.not_lt.mp h)), if_neg (by rw [decide_eq_false (fun q => h (Int64.lt_iff_toInt_lt.mpr q))]; decide)]
  · rw [if_neg (by decide), if_neg (by decide), if_neg (by decide), if_neg (by decide), if_neg (by decide), if_neg (by decide), if_neg (by decide), if_pos (by decide), if_neg (show ¬ 13 = 10 by decide), if_neg (show ¬ 13 = 11 by decide), if_neg (show ¬ 13 = 12 by decide), if_pos rfl]
    by_cases h : y ≤ x
    · rw [if_neg (fun q => absurd ((lg_cmp_lt _ _).mp q) (Int64.not_lt.mpr h)), if_pos (decide_eq_true (Int64.le_iff_toInt_le.mp h))]
    · rw [if_pos ((lg_cmp_lt _ _).mpr (Int64.not_le.mp h)), if_neg (by rw [decide_eq_false (fun q => h (Int64.le_iff_toInt_le.mpr q))]; decide)]
  · rw [if_neg (by decide), if_neg (by decide), if_neg (by decide), if_neg (by decide), if_neg (by decide), if_neg (by decide), if_neg (by decide), if_neg (by decide), if_pos (by decide), if_neg (show ¬ 14 = 10 by decide), if_neg (show ¬ 14 = 11 by decide), if_neg (show ¬ 14 = 12 by decide), if_neg (show ¬ 14 = 13 by decide), if_pos rfl]
    by_cases h : x = y
    · rw [if_pos ((lg_cmp_eq _ _).mpr h), if_pos (decide_eq_true (by rw [h]))]
    · rw [if_neg (fun q => h ((lg_cmp_eq _ _).mp q)), if_neg (by rw [decide_eq_false (fun q => h (Int64.toInt_inj.mp q))]; decide)]
  · rw [if_neg (by decide), if_neg (by decide), if_neg (by decide), if_neg (by decide), if_neg (by decide), if_neg (by decide), if_neg (by decide), if_neg (by decide), if_neg (by decide), if_pos (by decide), if_neg (show ¬ 15 = 10 by decide), if_neg (show ¬ 15 = 11 by decide), if_neg (show ¬ 15 = 12 by decide), if_neg (show ¬ 15 = 13 by decide), if_neg (show ¬ 15 = 14 by decide)]
    by_cases h : x = y
    · rw [if_pos ((lg_cmp_eq _ _).mpr h), if_neg (by rw [decide_eq_false (fun q => q (by rw [h]))]; decide)]
    · rw [if_neg (fun q => h ((lg_cmp_eq _ _).mp q)), if_pos (decide_eq_true (show x.toInt ≠ y.toInt from fun q => h (Int64.toInt_inj.mp q)))]
theorem held_b (S : xS) (b : Bool) : mX5_held S (if b then 1 else 0) = some (if b then 1 else 0, S) := by
  cases b <;> rfl
theorem cTwo_q {S : xS} {o : Nat} {x y : Int32} (ho : o = 10 ∨ o = 11 ∨ o = 12 ∨ o = 13 ∨ o = 14 ∨ o = 15) : cTwo S (nI o) x y = some (if cmpB o x.toInt y.toInt then 1 else 0, S) := by
  unfold cTwo
  rw [ofTwo_q ho, Option.bind_some, Int32.toInt_toInt64, Int32.toInt_toInt64]
  exact held_b S _
def bI (t : Bool) : Int32 := if t then 1 else 0
theorem cTwo_and {S : xS} (s t : Bool) : cTwo S 16 (bI s) (bI t) = some (bI (s && t), S) := by
  unfold cTwo mX5_ofTwo
  rw [if_neg (by decide), if_neg (by decide), if_neg (by decide), if_neg (by decide), if_neg (by decide), if_neg (by decide), if_neg (by decide), if_neg (by decide), if_neg (by decide), if_neg (by decide), if_pos (by decide)]
  cases s <;> cases t <;> rfl
theorem cTwo_or {S : xS} (s t : Bool) : cTwo S 17 (bI s) (bI t) = some (bI (s || t), S) := by
  unfold cTwo mX5_ofTwo
  rw [if_neg (by decide), if_neg (by decide), if_neg (by decide), if_neg (by decide), if_neg (by decide), if_neg (by decide), if_neg (by decide), if_neg (by decide), if_neg (by decide), if_neg (by decide), if_neg (by decide), if_pos (by decide)]
  cases s <;> cases t <;> rfl

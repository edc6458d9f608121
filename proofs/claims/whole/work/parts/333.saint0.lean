/-! saint: seats as numbers in base 3, sets; the best of all -/
/-- the number whose first n digits (the first the heaviest) are f's -/
def val3 (f : Nat → Nat) : Nat → Nat
  | 0 => 0
  | k + 1 => 3 * val3 f k + f k
/-- how many of the first n differ -/
def chN (f g : Nat → Nat) : Nat → Nat
  | 0 => 0
  | k + 1 => chN f g k + (if f k = g k then 0 else 1)
/-- who of the first n has t -/
def stN (f : Nat → Nat) (t : Nat) : Nat → Nat
  | 0 => 0
  | k + 1 => if f k = t then stN f t k ||| 2 ^ k else stN f t k
def dg (n x s : Nat) : Nat := x / 3 ^ (n - 1 - s) % 3
/-- the seats that a set is tried with -/
def trN (cs : Nat → Nat) (t set s : Nat) : Nat := if set.testBit s then t else if cs s = t then 1 - t else cs s
theorem dg_lt (n x s : Nat) : dg n x s < 3 := Nat.mod_lt _ (by decide)
theorem val3_dg {n x : Nat} (hx : x < 3 ^ n) : ∀ k, k ≤ n → val3 (dg n x) k = x / 3 ^ (n - k) := by
  intro k
  induction k with
  | zero =>
    intro _
    rw [Nat.sub_zero, Nat.div_eq_of_lt hx]
    rfl
  | succ k ih =>
    intro hk
    show 3 * val3 (dg n x) k + dg n x k = _
    rw [ih (by omega)]
    unfold dg
    rw [show n - (k + 1) = n - 1 - k by omega, show n - k = n - 1 - k + 1 by omega, Nat.pow_succ, ← Nat.div_div_eq_div_mul]
    omega
theorem val3_all {n x : Nat} (hx : x < 3 ^ n) : val3 (dg n x) n = x := by
  rw [val3_dg hx n (Nat.le_refl _), Nat.sub_self]
  exact Nat.div_one x
theorem val3_div {f : Nat → Nat} (hf : ∀ s, f s < 3) (k : Nat) : ∀ j, val3 f (k + j) / 3 ^ j = val3 f k := by
  intro j
  induction j with
  | zero => exact Nat.div_one _
  | succ j ih =>
    show (3 * val3 f (k + j) + f (k + j)) / 3 ^ (j + 1) = _
    have h := hf (k + j)
    rw [Nat.pow_succ, Nat.mul_comm (3 ^ j) 3, ← Nat.div_div_eq_div_mul, show (3 * val3 f (k + j) + f (k + j)) / 3 = val3 f (k + j) by omega]
    exact ih
theorem dg_val3 {f : Nat → Nat} (hf : ∀ s, f s < 3) {n s : Nat} (hs : s < n) : dg n (val3 f n) s = f s := by
  unfold dg
  have h := val3_div hf (s + 1) (n - 1 - s)
  rw [show s + 1 + (n - 1 - s) = n by omega] at h
  rw [h]
  show (3 * val3 f s + f s) % 3 = f s
  have := hf s
  omega
theorem val3_lt {f : Nat → Nat} (hf : ∀ s, f s < 3) : ∀ n, val3 f n < 3 ^ n := by
  intro n
  induction n with
  | zero => exact Nat.one_pos
  | succ n ih =>
    show 3 * val3 f n + f n < 3 ^ (n + 1)
    have := hf n
    rw [Nat.pow_succ]
    omega
theorem val3_congr {f g : Nat → Nat} : ∀ n, (∀ s, s < n → f s = g s) → val3 f n = val3 g n := by
  intro n
  induction n with
  | zero => intro _; rfl
  | succ n ih =>
    intro h
    show 3 * val3 f n + f n = 3 * val3 g n + g n
    rw [ih (fun s hs => h s (by omega)), h n (by omega)]
theorem val3_le {f g : Nat → Nat} : ∀ n, (∀ s, s < n → f s ≤ g s) → val3 f n ≤ val3 g n := by
  intro n
  induction n with
  | zero => intro _; exact Nat.le_refl _
  | succ n ih =>
    intro h
    show 3 * val3 f n + f n ≤ 3 * val3 g n + g n
    have h1 := ih (fun s hs => h s (by omega))
    have h2 := h n (by omega)
    omega
theorem val3_lex {f g : Nat → Nat} (hf : ∀ s, f s < 3) {i : Nat} (he : ∀ s, s < i → f s = g s) (hi : f i < g i) : ∀ j, val3 f (i + 1 + j) < val3 g (i + 1 + j) := by
  intro j
  induction j with
  | zero =>
    show 3 * val3 f i + f i < 3 * val3 g i + g i
    rw [val3_congr i he]
    omega
  | succ j ih =>
    show 3 * val3 f (i + 1 + j) + f (i + 1 + j) < 3 * val3 g (i + 1 + j) + g (i + 1 + j)
    have := hf (i + 1 + j)
    omega
theorem val3_tail {f g : Nat → Nat} {n : Nat} : ∀ j, (∀ s, n ≤ s → f s = g s) → (val3 f (n + j) < val3 g (n + j) ↔ val3 f n < val3 g n) := by
  intro j
  induction j with
  | zero => intro _; exact Iff.rfl
  | succ j ih =>
    intro h
    show 3 * val3 f (n + j) + f (n + j) < 3 * val3 g (n + j) + g (n + j) ↔ _
    rw [h (n + j) (by omega), ← ih h]
    omega
theorem chN_congr {f f' g : Nat → Nat} : ∀ n, (∀ s, s < n → f s = f' s) → chN f g n = chN f' g n := by
  intro n
  induction n with
  | zero => intro _; rfl
  | succ n ih =>
    intro h
    unfold chN
    rw [ih (fun s hs => h s (by omega)), h n (by omega)]
theorem chN_tail {f g : Nat → Nat} {n : Nat} : ∀ j, (∀ s, n ≤ s → f s = g s) → chN f g (n + j) = chN f g n := by
  intro j
  induction j with
  | zero => intro _; rfl
  | succ j ih =>
    intro h
    show chN f g (n + j) + (if f (n + j) = g (n + j) then 0 else 1) = _
    rw [if_pos (h (n + j) (by omega)), ih h]
    rfl
theorem chN_le {f g : Nat → Nat} : ∀ n, chN f g n ≤ n := by
  intro n
  induction n with
  | zero => exact Nat.le_refl _
  | succ n ih =>
    unfold chN
    split <;> omega
theorem stN_bit (f : Nat → Nat) (t : Nat) : ∀ n s, (stN f t n).testBit s = decide (s < n ∧ f s = t) := by
  intro n
  induction n with
  | zero =>
    intro s
    show (0 : Nat).testBit s = _
    simp
  | succ n ih =>
    intro s
    unfold stN
    by_cases h : f n = t
    · rw [if_pos h, Nat.testBit_or, ih, Nat.testBit_two_pow]
      by_cases h2 : n = s
      · subst h2
        simp [h]
      · have h3 : (s < n + 1) ↔ (s < n) := by omega
        simp [h2, h3]
    · rw [if_neg h, ih]
      by_cases h2 : n = s
      · subst h2
        simp [h]
      · have h3 : (s < n + 1) ↔ (s < n) := by omega
        simp [h3]
theorem stN_lt (f : Nat → Nat) (t : Nat) : ∀ k, stN f t k < 2 ^ k := by
  intro k
  induction k with
  | zero => exact Nat.one_pos
  | succ k ih =>
    have h2 : stN f t k < 2 ^ (k + 1) := Nat.lt_trans ih (Nat.pow_lt_pow_right (by decide) (Nat.lt_succ_self k))
    unfold stN
    split
    · exact Nat.or_lt_two_pow h2 (Nat.pow_lt_pow_right (by decide) (Nat.lt_succ_self k))
    · exact h2
theorem stN_congr {f g : Nat → Nat} {t : Nat} : ∀ n, (∀ s, s < n → f s = g s) → stN f t n = stN g t n := by
  intro n
  induction n with
  | zero => intro _; rfl
  | succ n ih =>
    intro h
    unfold stN
    rw [ih (fun s hs => h s (by omega)), h n (by omega)]
theorem trN_lt {cs : Nat → Nat} (hcs : ∀ s, cs s < 3) {t : Nat} (ht : t < 2) (set s : Nat) : trN cs t set s < 3 := by
  unfold trN
  have := hcs s
  split
  · omega
  · split <;> omega
theorem st_tr {cs : Nat → Nat} {t set n : Nat} (ht : t < 2) (hset : set < 2 ^ n) : stN (trN cs t set) t n = set := by
  refine Nat.eq_of_testBit_eq (fun s => ?_)
  rw [stN_bit]
  by_cases hs : s < n
  · unfold trN
    by_cases hb : set.testBit s = true
    · simp [hs, hb]
    · have hb : set.testBit s = false := by simpa using hb
      rw [hb]
      simp only [hs, true_and]
      by_cases hc : cs s = t
      · simp [hc]
        omega
      · simp [hc]
  · rw [Nat.testBit_lt_two_pow (Nat.lt_of_lt_of_le hset (Nat.pow_le_pow_right (by decide) (by omega)))]
    simp [hs]
theorem ite_le1 (p : Prop) [Decidable p] : (if p then 0 else 1 : Nat) ≤ 1 := by split <;> omega
/-- of all seats with a set, those tried are the best: fewest changes, and then the lowest -/
theorem tr_best {cs : Nat → Nat} (hcs : ∀ s, cs s < 3) {t set n : Nat} (ht : t < 2) {f : Nat → Nat} (hf : ∀ s, f s < 3) (hst : stN f t n = set) : chN (trN cs t set) cs n ≤ chN f cs n ∧ (chN f cs n = chN (trN cs t set) cs n → val3 (trN cs t set) n ≤ val3 f n) := by
  have hb : ∀ s, s < n → (set.testBit s = true ↔ f s = t) := fun s hs => by
    rw [← hst, stN_bit]
    simp [hs]
  -- digit by digit
  have h1 : ∀ s, s < n → (if trN cs t set s = cs s then 0 else 1) ≤ (if f s = cs s then 0 else 1) := fun s hs => by
    have h2 := hb s hs
    unfold trN
    by_cases hq : set.testBit s = true
    · rw [if_pos hq, h2.mp hq]
      exact Nat.le_refl _
    · rw [if_neg hq]
      have h3 : f s ≠ t := fun q => hq (h2.mpr q)
      by_cases hc : cs s = t
      · rw [if_neg (show ¬ f s = cs s by omega)]
        exact ite_le1 _
      · rw [if_neg hc, if_pos rfl]
        exact Nat.zero_le _
  have h2 : ∀ s, s < n → (if trN cs t set s = cs s then 0 else 1) = (if f s = cs s then 0 else 1) → trN cs t set s ≤ f s := fun s hs he => by
    have h2 := hb s hs
    have h4 := hf s
    have h5 := hcs s
    unfold trN at he ⊢
    by_cases hq : set.testBit s = true
    · rw [if_pos hq, h2.mp hq]
      exact Nat.le_refl _
    · rw [if_neg hq] at he ⊢
      have h3 : f s ≠ t := fun q => hq (h2.mpr q)
      by_cases hc : cs s = t
      · rw [if_pos hc]
        omega
      · rw [if_neg hc] at he ⊢
        rw [if_pos rfl] at he
        by_cases hfs : f s = cs s
        · omega
        · rw [if_neg hfs] at he
          omega
  have key : ∀ k, k ≤ n → chN (trN cs t set) cs k ≤ chN f cs k ∧ (chN f cs k = chN (trN cs t set) cs k → ∀ s, s < k → trN cs t set s ≤ f s) := by
    intro k
    induction k with
    | zero => intro _; exact ⟨Nat.le_refl _, fun _ s hs => absurd hs (Nat.not_lt_zero s)⟩
    | succ k ih =>
      intro hk
      obtain ⟨i1, i2⟩ := ih (by omega)
      have q1 := h1 k (by omega)
      unfold chN
      refine ⟨by omega, fun he s hs => ?_⟩
      by_cases hsk : s = k
      · subst hsk
        exact h2 s (by omega) (by omega)
      · exact i2 (by omega) s (by omega)
  obtain ⟨k1, k2⟩ := key n (Nat.le_refl _)
  exact ⟨k1, fun he => val3_le n (k2 he)⟩
/-- the order in which seats are better -/
def le2 (a b c d : Nat) : Prop := a < c ∨ (a = c ∧ b ≤ d)
/-- the best of the sets is the best of all seats -/
theorem best_eq {cs : Nat → Nat} (hcs : ∀ s, cs s < 3) {t n : Nat} (ht : t < 2) {J : Nat → Prop} {b y : Nat} (hb : b < 2 ^ n) (hJb : J b) (hmin : ∀ set, set < 2 ^ n → J set → le2 (chN (trN cs t b) cs n) (val3 (trN cs t b) n) (chN (trN cs t set) cs n) (val3 (trN cs t set) n)) (hy : y < 3 ^ n) (hJy : J (stN (dg n y) t n)) (hmin2 : ∀ x, x < 3 ^ n → J (stN (dg n x) t n) → le2 (chN (dg n y) cs n) y (chN (dg n x) cs n) x) : y = val3 (trN cs t b) n ∧ chN (dg n y) cs n = chN (trN cs t b) cs n := by
  have htr := fun set => trN_lt hcs ht set
  have e1 : ∀ s, s < n → dg n (val3 (trN cs t b) n) s = trN cs t b s := fun s hs => dg_val3 (htr b) hs
  have e2 : stN (dg n (val3 (trN cs t b) n)) t n = b := (stN_congr n e1).trans (st_tr ht hb)
  have e3 : chN (dg n (val3 (trN cs t b) n)) cs n = chN (trN cs t b) cs n := chN_congr n e1
  have m1 := hmin2 (val3 (trN cs t b) n) (val3_lt (htr b) n) (by rw [e2]; exact hJb)
  rw [e3] at m1
  have m2 := hmin (stN (dg n y) t n) (stN_lt _ _ _) hJy
  obtain ⟨m3, m4⟩ := tr_best hcs ht (f := dg n y) (n := n) (dg_lt n y) rfl
  rw [val3_all hy] at m4
  unfold le2 at m1 m2
  have h1 : chN (dg n y) cs n = chN (trN cs t b) cs n := by omega
  have h2 : chN (dg n y) cs n = chN (trN cs t (stN (dg n y) t n)) cs n := by omega
  have h3 := m4 h2
  exact ⟨by omega, h1⟩

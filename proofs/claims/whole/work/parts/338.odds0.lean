/-! odds: the divisor, the power of ten -/
theorem rem64 (a b : Int64) : (a - a / b * b).toInt = a.toInt.tmod b.toInt := by
  have h := Int64.toInt_mod a b
  have h1 := Int64.le_toInt (a % b)
  have h2 := Int64.toInt_lt (a % b)
  rw [Int64.toInt_sub, Int64.toInt_mul, Int64.toInt_div, Int.sub_bmod_bmod, ← Int.sub_bmod_bmod, Int.bmod_mul_bmod, Int.sub_bmod_bmod, Int.mul_comm, ← Int.tmod_def, ← h]
  exact Int.bmod_eq_of_le (by omega) (by omega)
theorem rem_abs (a b : Int64) : (a - a / b * b).toInt.natAbs = a.toInt.natAbs % b.toInt.natAbs := by
  rw [rem64, Int.natAbs_tmod]
theorem abs64 (a : Int64) : a.toInt.natAbs < 2 ^ 64 := by
  have h1 := Int64.le_toInt a
  have h2 := Int64.toInt_lt a
  omega
theorem zero64 {a : Int64} (h : a.toInt.natAbs = 0) : a = 0 := by
  refine Int64.toInt_inj.mp ?_
  rw [show (0 : Int64).toInt = 0 from by decide]
  omega
theorem ne64 {a : Int64} (h : ¬ a = 0) : 0 < a.toInt.natAbs := Nat.pos_of_ne_zero (fun q => h (zero64 q))
theorem gcd_go (S T : xS) : ∀ k (p q : Int64) n m i, q.toInt.natAbs < 2 ^ k → 2 * k < n → 2 * k < m → i + 2 * k < 200 → ∃ g, lX2_commonDivisor_9 n S p q (nI i) = some (g, S) ∧ lX9_common_6 m T p q = some (g, T) ∧ (¬ (p = 0 ∧ q = 0) → ¬ g = 0) := by
  intro k
  induction k with
  | zero =>
    intro p q n m i hq hn hm hi
    obtain ⟨n, rfl⟩ : ∃ z, n = z + 1 := ⟨n - 1, by omega⟩
    obtain ⟨m, rfl⟩ : ∃ z, m = z + 1 := ⟨m - 1, by omega⟩
    have hz : q = 0 := zero64 (by omega)
    refine ⟨p, ?_, ?_, fun h => fun g => h ⟨g, hz⟩⟩
    · rw [lX2_commonDivisor_9.eq_2, if_neg (show ¬ (200 : Int32) ≤ nI i from nI_ge (a := i) (b := 200) (by omega) (by decide)), if_pos ((lg_cmp_eq _ _).mpr hz)]
    · rw [lX9_common_6.eq_2, if_pos ((lg_cmp_eq _ _).mpr hz)]
  | succ k ih =>
    intro p q n m i hq hn hm hi
    obtain ⟨n, rfl⟩ : ∃ z, n = z + 1 + 1 := ⟨n - 2, by omega⟩
    obtain ⟨m, rfl⟩ : ∃ z, m = z + 1 + 1 := ⟨m - 2, by omega⟩
    rw [lX2_commonDivisor_9.eq_2, if_neg (show ¬ (200 : Int32) ≤ nI i from nI_ge (a := i) (b := 200) (by omega) (by decide)), lX9_common_6.eq_2]
    by_cases hz : q = 0
    · refine ⟨p, ?_, ?_, fun h => fun g => h ⟨g, hz⟩⟩
      · rw [if_pos ((lg_cmp_eq _ _).mpr hz)]
      · rw [if_pos ((lg_cmp_eq _ _).mpr hz)]
    · rw [if_neg (fun e => hz ((lg_cmp_eq _ _).mp e)), if_neg (fun e => hz ((lg_cmp_eq _ _).mp e)), if_neg hz, if_neg hz]
      obtain ⟨r, er⟩ : ∃ z, z = p - p / q * q := ⟨_, rfl⟩
      have hr : r.toInt.natAbs = p.toInt.natAbs % q.toInt.natAbs := by rw [er]; exact rem_abs p q
      have hq0 := ne64 hz
      have hrq : r.toInt.natAbs < q.toInt.natAbs := by rw [hr]; exact Nat.mod_lt _ hq0
      rw [← er, nI_1, lX2_commonDivisor_9.eq_2, if_neg (show ¬ (200 : Int32) ≤ nI (i + 1) from nI_ge (a := i + 1) (b := 200) (by omega) (by decide)), lX9_common_6.eq_2]
      by_cases hz2 : r = 0
      · refine ⟨q, ?_, ?_, fun _ => hz⟩
        · rw [if_pos ((lg_cmp_eq _ _).mpr hz2)]
        · rw [if_pos ((lg_cmp_eq _ _).mpr hz2)]
      · rw [if_neg (fun e => hz2 ((lg_cmp_eq _ _).mp e)), if_neg (fun e => hz2 ((lg_cmp_eq _ _).mp e)), if_neg hz2, if_neg hz2, nI_1]
        have hs := rem_abs q r
        have hr0 := ne64 hz2
        have h3 : q.toInt.natAbs % r.toInt.natAbs < r.toInt.natAbs := Nat.mod_lt _ hr0
        have h4 := Nat.div_add_mod q.toInt.natAbs r.toInt.natAbs
        have h5 : 1 ≤ q.toInt.natAbs / r.toInt.natAbs := Nat.div_pos (by omega) hr0
        have h6 : r.toInt.natAbs ≤ r.toInt.natAbs * (q.toInt.natAbs / r.toInt.natAbs) := Nat.le_mul_of_pos_right _ h5
        obtain ⟨g, g1, g2, g3⟩ := ih r (q - q / r * r) n m (i + 1 + 1) (by rw [hs]; rw [Nat.pow_succ] at hq; omega) (by omega) (by omega) (by omega)
        exact ⟨g, g1, g2, fun _ => g3 (fun e => hz2 e.1)⟩
def pw : Nat → Int64
  | 0 => 1
  | k + 1 => pw k * 10
theorem pw_ne : ∀ n, n < 16 → ¬ pw n = 0 := by decide +kernel
theorem pw_go (S : xS) {N : Nat} (hN : N ≤ 15) : ∀ e i n, e + i = N → e < n → lX2_powerOfTen_4 n S (nI N) (pw i) (nI i) = some (pw N, S) := by
  intro e
  induction e with
  | zero =>
    intro i n hi hn
    obtain ⟨n, rfl⟩ : ∃ z, n = z + 1 := ⟨n - 1, by omega⟩
    have hi : i = N := by omega
    subst hi
    rw [lX2_powerOfTen_4.eq_2, if_pos (nI_le (Nat.le_refl _) (by omega))]
  | succ e ih =>
    intro i n hi hn
    obtain ⟨n, rfl⟩ : ∃ z, n = z + 1 := ⟨n - 1, by omega⟩
    rw [lX2_powerOfTen_4.eq_2, if_neg (nI_ge (by omega) (by omega)), nI_1]
    exact ih (i + 1) n (by omega) (by omega)
/-! reading of longs behind a writing -/
theorem gJ_nk (S : xS) (c k : Nat) (v : Int64) {c' k' : Nat} (h : k' ≠ k) : gJ (pJ S c k v) c' k' = gJ S c' k' := by rw [gJ_pJ, if_neg (fun q => h q.2)]
theorem gJ_eq (S : xS) (c k : Nat) (v : Int64) : gJ (pJ S c k v) c k = v := by rw [gJ_pJ, if_pos ⟨rfl, rfl⟩]
theorem gJ_ne (S : xS) (c k : Nat) (v : Int64) {c' k' : Nat} (h : c' ≠ c) : gJ (pJ S c k v) c' k' = gJ S c' k' := by rw [gJ_pJ, if_neg (fun q => h q.1)]
/-- a row of longs is filled with 0 -/
theorem fill_go {c : Nat} (hx : xn Yc c = 976) : ∀ e i n (S : xS), e + i = 976 → e < n → (∀ j, j < i → gJ S c j = 0) → ∃ S', lJ7_fill_d0a16_6 n S c 0 (nI i) (nI 976) = some S' ∧ S'.1 = S.1 ∧ S'.2.2 = S.2.2 ∧ (∀ c', c' ≠ c → ∀ j, gJ S' c' j = gJ S c' j) ∧ ∀ j, j < 976 → gJ S' c j = 0 := by
  intro e
  induction e with
  | zero =>
    intro i n S hi hn hp
    obtain ⟨n, rfl⟩ : ∃ z, n = z + 1 := ⟨n - 1, by omega⟩
    have hi : i = 976 := by omega
    subst hi
    exact ⟨S, by rw [lJ7_fill_d0a16_6.eq_2, if_pos (nI_le (Nat.le_refl _) (by decide))], rfl, rfl, fun _ _ _ => rfl, hp⟩
  | succ e ih =>
    intro i n S hi hn hp
    obtain ⟨n, rfl⟩ : ∃ z, n = z + 1 := ⟨n - 1, by omega⟩
    obtain ⟨S', q1, q2, q3, q4, q5⟩ := ih (i + 1) n (pJ S c i 0) (by omega) (by omega) (fun j hj => by
      by_cases h : j = i
      · subst h; rw [gJ_eq]
      · rw [gJ_nk _ _ _ _ h]; exact hp j (by omega))
    refine ⟨S', ?_, q2, q3, fun c' hc j => (q4 c' hc j).trans (gJ_ne _ _ _ _ hc), q5⟩
    rw [lJ7_fill_d0a16_6.eq_2, if_neg (nI_ge (by omega) (by decide)), sJ_nI (by rw [hx]; omega) (by rw [hx]; decide), Option.bind_some, nI_1]
    exact q1
theorem fill_c {c : Nat} (hx : xn Yc c = 976) (S : xS) : ∃ S', mJ7_fill_d0a16 S c 0 = some S' ∧ S'.1 = S.1 ∧ S'.2.2 = S.2.2 ∧ (∀ c', c' ≠ c → ∀ j, gJ S' c' j = gJ S c' j) ∧ ∀ j, j < 976 → gJ S' c j = 0 := by
  unfold mJ7_fill_d0a16
  rw [hx]
  exact fill_go hx 976 0 5000 S rfl (by decide) (fun j hj => absurd hj (Nat.not_lt_zero _))
theorem more_go {v1 v2 : Int32} : ∀ e i n (T : xS), e + i = 976 → e < n → RMr T → (∀ j, j < i → gJ T 10 j = 0) → ∃ T', lX9_spread_2 n T 0 v1 v2 (nI i) = lX9_spread_24 5000 T' 0 v1 v2 0 ∧ T'.1 = T.1 ∧ T'.2.2 = T.2.2 ∧ (∀ c', c' ≠ 10 → ∀ j, gJ T' c' j = gJ T c' j) ∧ ∀ j, j < 976 → gJ T' 10 j = 0 := by
  intro e
  induction e with
  | zero =>
    intro i n T hi hn hM hp
    obtain ⟨n, rfl⟩ : ∃ z, n = z + 1 := ⟨n - 1, by omega⟩
    have hi : i = 976 := by omega
    subst hi
    exact ⟨T, by rw [lX9_spread_2.eq_2, if_pos (by decide)], rfl, rfl, fun _ _ _ => rfl, hp⟩
  | succ e ih =>
    intro i n T hi hn hM hp
    obtain ⟨n, rfl⟩ : ∃ z, n = z + 1 := ⟨n - 1, by omega⟩
    obtain ⟨T', q1, q2, q3, q4, q5⟩ := ih (i + 1) n (pJ T 10 i 0) (by omega) (by omega) (hM.ofR rfl) (fun j hj => by
      by_cases h : j = i
      · subst h; rw [gJ_eq]
      · rw [gJ_nk _ _ _ _ h]; exact hp j (by omega))
    refine ⟨T', ?_, q2, q3, fun c' hc j => (q4 c' hc j).trans (gJ_ne _ _ _ _ hc), q5⟩
    rw [lX9_spread_2.eq_2, if_neg (show ¬ (976 : Int32) ≤ nI i from nI_ge (a := i) (b := 976) (by omega) (by decide)), rm_31 hM, Option.bind_some, sJ_nI (Y := Ym) (c := 10) (by show _ < 976; omega) (by decide), Option.bind_some, nI_1]
    exact q1
theorem back_go : ∀ e i n (T : xS), e + i = 976 → e < n → RMr T → (∀ j, j < i → gJ T 9 j = gJ T 10 j) → ∃ T', lX9_spread_158 n T 0 (nI i) = some T' ∧ T'.1 = T.1 ∧ T'.2.2 = T.2.2 ∧ ∀ j, j < 976 → gJ T' 9 j = gJ T 10 j := by
  intro e
  induction e with
  | zero =>
    intro i n T hi hn hM hp
    obtain ⟨n, rfl⟩ : ∃ z, n = z + 1 := ⟨n - 1, by omega⟩
    have hi : i = 976 := by omega
    subst hi
    exact ⟨T, by rw [lX9_spread_158.eq_2, if_pos (by decide)], rfl, rfl, hp⟩
  | succ e ih =>
    intro i n T hi hn hM hp
    obtain ⟨n, rfl⟩ : ∃ z, n = z + 1 := ⟨n - 1, by omega⟩
    obtain ⟨T', q1, q2, q3, q4⟩ := ih (i + 1) n (pJ T 9 i (gJ T 10 i)) (by omega) (by omega) (hM.ofR rfl) (fun j hj => by
      rw [gJ_ne _ _ _ _ (show 10 ≠ 9 by decide)]
      by_cases h : j = i
      · subst h; rw [gJ_eq]
      · rw [gJ_nk _ _ _ _ h]; exact hp j (by omega))
    refine ⟨T', ?_, q2, q3, fun j hj => (q4 j hj).trans (gJ_ne _ _ _ _ (by decide))⟩
    rw [lX9_spread_158.eq_2, if_neg (show ¬ (976 : Int32) ≤ nI i from nI_ge (a := i) (b := 976) (by omega) (by decide)), rm_30 hM, Option.bind_some, rm_31 hM, Option.bind_some, aJ_nI (Y := Ym) (c := 10) (by show _ < 976; omega) (by decide), Option.bind_some, sJ_nI (Y := Ym) (c := 9) (by show _ < 976; omega) (by decide), Option.bind_some, nI_1]
    exact q1

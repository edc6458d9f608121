/-! THE CLASS'S CODE: put together -/
theorem cev_two {o a : Nat → Int32} {m L0 L1 L2 D D2 D' op : Nat} {f g : (Nat → Nat) → Int} (hop : op = 3 ∨ op = 4 ∨ op = 5 ∨ op = 6) (h : CEV o a m L0 L1 D f) (h2 : CEV o a m L1 L2 D2 g) (hL : L0 ≤ L1) (hL2 : L1 ≤ L2) (ho : o L2 = nI (op + 3)) (hD : D ≤ D') (hD2 : D2 + 1 ≤ D') (h1 : 1 ≤ D2) : CEV o a m L0 (L2 + 1) D' (fun N => op2 op (f N) (g N)) := by
  intro t S N τ E ht hC hc hτ hE hE2 hN
  have h6 : ∀ z : Int32, z = 0 ∨ z = 1 ∨ z = 2 ∨ z = 3 ∨ z = 4 ∨ z = 5 → ¬ nI (op + 3) = z := by
    rcases hop with rfl | rfl | rfl | rfl <;> intro z hz <;> rcases hz with rfl | rfl | rfl | rfl | rfl | rfl <;> decide
  obtain ⟨K, S', k1, k2, k3, k4, k5, k6⟩ := ctwo h6 ht hC hc (show τ + D ≤ 64 by omega) (show τ + 1 + D2 ≤ 64 by omega) h1 hE hE2 hN hL hL2 ho (P := fun x => x.toInt = f N ∧ inM (f N)) (Q := fun y => y.toInt = g N ∧ inM (g N))
    (h t S N τ E ht hC (fun i p q => hc i p (by omega)) (by omega) (by omega) hE2 hN)
    (fun S1 hC1 hc1 hN1 => h2 t S1 N (τ + 1) E ht hC1 hc1 (by omega) (by omega) hE2 hN1)
    (fun r => r.toInt = op2 op (f N) (g N)) (fun S2 x y hx hy => by
      obtain ⟨r, r1, r2⟩ := cTwo_n (S := S2) hop (by rw [hx.1]; exact hx.2) (by rw [hy.1]; exact hy.2)
      exact ⟨r, r1, by rw [r2, hx.1, hy.1]⟩)
  exact ⟨K, S', k1, k2, k3, k4, k5, k6, op2_in _ _ _⟩
theorem cet_cmp {o a : Nat → Int32} {m L0 L1 L2 D D2 D' op : Nat} {f g : (Nat → Nat) → Int} (hop : op = 10 ∨ op = 11 ∨ op = 12 ∨ op = 13 ∨ op = 14 ∨ op = 15) (h : CEV o a m L0 L1 D f) (h2 : CEV o a m L1 L2 D2 g) (hL : L0 ≤ L1) (hL2 : L1 ≤ L2) (ho : o L2 = nI op) (hD : D ≤ D') (hD2 : D2 + 1 ≤ D') (h1 : 1 ≤ D2) : CET o a m L0 (L2 + 1) D' (fun N => cmpB op (f N) (g N)) := by
  intro t S N τ E ht hC hc hτ hE hE2 hN
  have h6 : ∀ z : Int32, z = 0 ∨ z = 1 ∨ z = 2 ∨ z = 3 ∨ z = 4 ∨ z = 5 → ¬ nI op = z := by
    rcases hop with rfl | rfl | rfl | rfl | rfl | rfl <;> intro z hz <;> rcases hz with rfl | rfl | rfl | rfl | rfl | rfl <;> decide
  obtain ⟨K, S', k1, k2, k3, k4, k5, k6⟩ := ctwo h6 ht hC hc (show τ + D ≤ 64 by omega) (show τ + 1 + D2 ≤ 64 by omega) h1 hE hE2 hN hL hL2 ho (P := fun x => x.toInt = f N ∧ inM (f N)) (Q := fun y => y.toInt = g N ∧ inM (g N))
    (h t S N τ E ht hC (fun i p q => hc i p (by omega)) (by omega) (by omega) hE2 hN)
    (fun S1 hC1 hc1 hN1 => h2 t S1 N (τ + 1) E ht hC1 hc1 (by omega) (by omega) hE2 hN1)
    (fun r => r = bI (cmpB op (f N) (g N))) (fun S2 x y hx hy => ⟨_, cTwo_q hop, by rw [hx.1, hy.1]; rfl⟩)
  exact ⟨K, S', k1, k2, k3, k4, k5, k6⟩
theorem cet_and {o a : Nat → Int32} {m L0 L1 L2 D D2 D' : Nat} {f g : (Nat → Nat) → Bool} (h : CET o a m L0 L1 D f) (h2 : CET o a m L1 L2 D2 g) (hL : L0 ≤ L1) (hL2 : L1 ≤ L2) (ho : o L2 = 16) (hD : D ≤ D') (hD2 : D2 + 1 ≤ D') (h1 : 1 ≤ D2) : CET o a m L0 (L2 + 1) D' (fun N => f N && g N) := by
  intro t S N τ E ht hC hc hτ hE hE2 hN
  have h6 : ∀ z : Int32, z = 0 ∨ z = 1 ∨ z = 2 ∨ z = 3 ∨ z = 4 ∨ z = 5 → ¬ (16 : Int32) = z := by
    intro z hz
    rcases hz with rfl | rfl | rfl | rfl | rfl | rfl <;> decide
  obtain ⟨K, S', k1, k2, k3, k4, k5, k6⟩ := ctwo h6 ht hC hc (show τ + D ≤ 64 by omega) (show τ + 1 + D2 ≤ 64 by omega) h1 hE hE2 hN hL hL2 ho (P := fun x => x = bI (f N)) (Q := fun y => y = bI (g N))
    (h t S N τ E ht hC (fun i p q => hc i p (by omega)) (by omega) (by omega) hE2 hN)
    (fun S1 hC1 hc1 hN1 => h2 t S1 N (τ + 1) E ht hC1 hc1 (by omega) (by omega) hE2 hN1)
    (fun r => r = bI (f N && g N)) (fun S2 x y hx hy => ⟨_, by rw [hx, hy]; exact cTwo_and _ _, rfl⟩)
  exact ⟨K, S', k1, k2, k3, k4, k5, k6⟩
theorem cet_or {o a : Nat → Int32} {m L0 L1 L2 D D2 D' : Nat} {f g : (Nat → Nat) → Bool} (h : CET o a m L0 L1 D f) (h2 : CET o a m L1 L2 D2 g) (hL : L0 ≤ L1) (hL2 : L1 ≤ L2) (ho : o L2 = 17) (hD : D ≤ D') (hD2 : D2 + 1 ≤ D') (h1 : 1 ≤ D2) : CET o a m L0 (L2 + 1) D' (fun N => f N || g N) := by
  intro t S N τ E ht hC hc hτ hE hE2 hN
  have h6 : ∀ z : Int32, z = 0 ∨ z = 1 ∨ z = 2 ∨ z = 3 ∨ z = 4 ∨ z = 5 → ¬ (17 : Int32) = z := by
    intro z hz
    rcases hz with rfl | rfl | rfl | rfl | rfl | rfl <;> decide
  obtain ⟨K, S', k1, k2, k3, k4, k5, k6⟩ := ctwo h6 ht hC hc (show τ + D ≤ 64 by omega) (show τ + 1 + D2 ≤ 64 by omega) h1 hE hE2 hN hL hL2 ho (P := fun x => x = bI (f N)) (Q := fun y => y = bI (g N))
    (h t S N τ E ht hC (fun i p q => hc i p (by omega)) (by omega) (by omega) hE2 hN)
    (fun S1 hC1 hc1 hN1 => h2 t S1 N (τ + 1) E ht hC1 hc1 (by omega) (by omega) hE2 hN1)
    (fun r => r = bI (f N || g N)) (fun S2 x y hx hy => ⟨_, by rw [hx, hy]; exact cTwo_or _ _, rfl⟩)
  exact ⟨K, S', k1, k2, k3, k4, k5, k6⟩
theorem cet_not {o a : Nat → Int32} {m L0 L1 D : Nat} {f : (Nat → Nat) → Bool} (h : CET o a m L0 L1 D f) (hL : L0 ≤ L1) (ho : o L1 = 5) (hD : 1 ≤ D) : CET o a m L0 (L1 + 1) D (fun N => !(f N)) := by
  intro t S N τ E ht hC hc hτ hE hE2 hN
  obtain ⟨K, S', k1, k2, k3, k4, k5, k6⟩ := h t S N τ E ht hC (fun i a b => hc i a (by omega)) hτ (by omega) hE2 hN
  have hC' : RCr S' := hC.ofR (by rw [k3])
  obtain ⟨c1, c2⟩ := hc L1 (by omega) (by omega)
  refine ⟨K + 1, pI S' 16 τ (1 - (gI S' 16 τ)), by omega, fun n => ?_, k3, fun c hc => (gIf_ne _ _ _ _ hc).trans (k4 c hc), fun j hj => (gI_nk _ _ _ _ (by omega)).trans (k5 j hj), ?_⟩
  · rw [show n + (K + 1) = n + 1 + K by omega, k2, w_not5 hC' ht (by omega) hE2 (by omega) (by rw [k4 _ (by omega)]; exact c1.trans ho), nI_1]
  · rw [gI_eq, k6]
    show 1 - bI (f N) = bI (!(f N))
    cases f N <;> decide
/-- where the GOs lead: behind -/
theorem aim_to {i x : Nat} (h : i < x) (hx : x ≤ 300) : (if nI i < (nI x - 1) then (nI x - 1) else nI i) + 1 = nI x := by
  rw [show (1 : Int32) = nI 1 from rfl, pk_sub (by omega)]
  by_cases q : i < x - 1
  · rw [if_pos (nI_lt q (by omega)), nI_add]
    congr 1
    omega
  · rw [if_neg (nI_nlt (by omega) (by omega)), nI_add]
    congr 1
    omega
theorem cev_if {o a : Nat → Int32} {m L0 L1 L2 L3 D : Nat} {c : (Nat → Nat) → Bool} {f g : (Nat → Nat) → Int} (hc : CET o a m L0 L1 D c) (hf : CEV o a m (L1 + 1) L2 D f) (hg : CEV o a m (L2 + 1) L3 D g) (hL1 : L0 ≤ L1) (hL2 : L1 + 1 ≤ L2) (hL3 : L2 + 1 ≤ L3) (o1 : o L1 = 3) (a1 : a L1 = nI (L2 + 1)) (o2 : o L2 = 2) (a2 : a L2 = nI L3) (hD : 1 ≤ D) : CEV o a m L0 L3 D (fun N => if c N then f N else g N) := by
  intro t S N τ E ht hC hcd hτ hE hE2 hN
  obtain ⟨K, S1, k1, k2, k3, k4, k5, k6⟩ := hc t S N τ E ht hC (fun i a b => hcd i a (by omega)) hτ (by omega) hE2 hN
  have hC1 : RCr S1 := hC.ofR (by rw [k3])
  have hcd1 : ∀ i, L0 ≤ i → i < L3 → gI S1 (26 + 6 * t + 1) i = o i ∧ gI S1 (26 + 6 * t + 2) i = a i := fun i p q => by rw [k4 _ (by omega), k4 _ (by omega)]; exact hcd i p q
  have hN1 : ∀ k, k < m → N k < 10000 ∧ gI S1 15 k = nI (N k) := fun k hk => by rw [k4 15 (by decide)]; exact hN k hk
  have u := fun n => w_unl (n := n) hC1 ht (show L1 < E by omega) hE2 (show τ < 64 by omega) ((hcd1 L1 (by omega) (by omega)).1.trans o1)
  by_cases hcn : c N = true
  · -- the first
    obtain ⟨K2, S2, q1, q2, q3, q4, q5, q6, q7⟩ := hf t S1 N τ E ht hC1 (fun i a b => hcd1 i (by omega) (by omega)) hτ (by omega) hE2 hN1
    have hC2 : RCr S2 := hC1.ofR (by rw [q3])
    have v := fun n => w_go (τ := τ + 1) (n := n) hC2 ht (show L2 < E by omega) hE2 (by rw [q4 _ (by omega)]; exact (hcd1 L2 (by omega) (by omega)).1.trans o2)
    refine ⟨K + 1 + K2 + 1, S2, by omega, fun n => ?_, q3.trans k3, fun d hd => (q4 d hd).trans (k4 d hd), fun j hj => (q5 j hj).trans (k5 j hj), ?_, ?_⟩
    · rw [show n + (K + 1 + K2 + 1) = n + 1 + K2 + 1 + K by omega, k2, u, if_neg (by rw [k6, hcn]; decide), nI_1, q2, v, q4 _ (by omega), (hcd1 L2 (by omega) (by omega)).2, a2, aim_to (by omega) (by omega)]
    · show (gI S2 16 τ).toInt = if c N = true then f N else g N
      rw [if_pos hcn]; exact q6
    · show inM (if c N = true then f N else g N)
      rw [if_pos hcn]; exact q7
  · -- the other
    obtain ⟨K2, S2, q1, q2, q3, q4, q5, q6, q7⟩ := hg t S1 N τ E ht hC1 (fun i a b => hcd1 i (by omega) (by omega)) hτ (by omega) hE2 hN1
    have hcn' : c N = false := by simpa using hcn
    refine ⟨K + 1 + K2, S2, by omega, fun n => ?_, q3.trans k3, fun d hd => (q4 d hd).trans (k4 d hd), fun j hj => (q5 j hj).trans (k5 j hj), ?_, ?_⟩
    · rw [show n + (K + 1 + K2) = n + K2 + 1 + K by omega, k2, u, if_pos (by rw [k6, hcn']; decide), (hcd1 L1 (by omega) (by omega)).2, a1, aim_to (by omega) (by omega)]
      exact q2 n
    · show (gI S2 16 τ).toInt = if c N = true then f N else g N
      rw [if_neg hcn]; exact q6
    · show inM (if c N = true then f N else g N)
      rw [if_neg hcn]; exact q7
theorem cw_of {Sc : xS} {t fr to m D : Nat} {f : (Nat → Nat) → Int} (ht : t < 4) (h : CEV (gI Sc (26 + 6 * t + 1)) (gI Sc (26 + 6 * t + 2)) m fr to D f) (hD : D ≤ 64) (hft : fr < to) (hto : to ≤ 300) : CW1 Sc (26 + 6 * t) fr to m f := by
  intro S N hC h1 h2 hN
  obtain ⟨K, S', k1, k2, k3, k4, k5, k6, k7⟩ := h t S N 0 to ht hC (fun i _ _ => by rw [h1, h2]; exact ⟨rfl, rfl⟩) (by omega) (Nat.le_refl _) hto hN
  have hC' : RCr S' := hC.ofR (by rw [k3])
  refine ⟨gI S' 16 0, S', ?_, k6, k3, k4⟩
  unfold mX5_worked
  obtain ⟨n, hn⟩ : ∃ n, 5000 = n + 1 + K := ⟨5000 - 1 - K, by omega⟩
  rw [if_neg (fun q => by cases q), if_neg (nI_pos (by omega)), if_pos (show nI to ≤ (300 : Int32) from nI_le (b := 300) hto (by decide)), hn, show (0 : Int32) = nI 0 from rfl, k2, lX5_worked_23.eq_2, if_pos (nI_le (Nat.le_refl _) (by omega)), rc_14_1 hC', Option.bind_some, show aI Yc S' 16 0 = some (gI S' 16 0) from aI_nI (Y := Yc) (c := 16) (i := 0) (by decide) (by decide), Option.bind_some]

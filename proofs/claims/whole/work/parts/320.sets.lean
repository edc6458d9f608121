/-! SETS OF SISTERS, of; what a call may change that nothing remembers -/
theorem bit_c : ∀ s, s < 64 → ∀ i, i < 6 → ((nI s >>> (nI i &&& 31)) &&& 1) = (if s.testBit i then 1 else 0) := by decide +kernel
theorem or_c : ∀ s, s < 64 → ∀ i, i < 6 → nI s ||| (1 <<< (nI i &&& 31)) = nI (s ||| 2 ^ i) := by decide +kernel
/-- who of the first k sits at v -/
def sitP (f : Nat → Int32) (v : Int32) : Nat → Nat
  | 0 => 0
  | k + 1 => if f k = v then sitP f v k ||| 2 ^ k else sitP f v k
theorem sitP_lt (f : Nat → Int32) (v : Int32) : ∀ k, sitP f v k < 2 ^ k := by
  intro k
  induction k with
  | zero => exact Nat.one_pos
  | succ k ih =>
    have h2 : sitP f v k < 2 ^ (k + 1) := Nat.lt_trans ih (Nat.pow_lt_pow_right (by decide) (Nat.lt_succ_self k))
    unfold sitP
    split
    · exact Nat.or_lt_two_pow h2 (Nat.pow_lt_pow_right (by decide) (Nat.lt_succ_self k))
    · exact h2
theorem sitP_congr {f g : Nat → Int32} {v : Int32} : ∀ k, (∀ s, s < k → f s = g s) → sitP f v k = sitP g v k := by
  intro k
  induction k with
  | zero => intro _; rfl
  | succ k ih =>
    intro h
    unfold sitP
    rw [ih (fun s hs => h s (by omega)), h k (by omega)]
theorem sitP_lt64 {f : Nat → Int32} {v : Int32} {k : Nat} (h : k ≤ 6) : sitP f v k < 64 := Nat.lt_of_lt_of_le (sitP_lt f v k) (Nat.pow_le_pow_right (by decide) h : 2 ^ k ≤ 2 ^ 6)
theorem sitters_go {S : xS} (hC : RCr S) {nS : Nat} (hn : nS ≤ 6) (h5 : gI S 1 5 = nI nS) (v : Int32) : ∀ d i n, d + i = nS → d < n → lX1_sitters_4 n S 1 v (nI (sitP (fun s => gI S 2 (6 + s)) v i)) (nI i) = some (nI (sitP (fun s => gI S 2 (6 + s)) v nS), S) := by
  intro d
  induction d with
  | zero =>
    intro i n hi hn2
    obtain ⟨n, rfl⟩ : ∃ m, n = m + 1 := ⟨n - 1, by omega⟩
    have hi : i = nS := by omega
    subst hi
    rw [lX1_sitters_4.eq_2, h5, if_pos (nI_le (Nat.le_refl _) (by omega))]
  | succ d ih =>
    intro i n hi hn2
    obtain ⟨n, rfl⟩ : ∃ m, n = m + 1 := ⟨n - 1, by omega⟩
    have h2 := ih (i + 1) n (by omega) (by omega)
    rw [lX1_sitters_4.eq_2, h5, if_neg (nI_ge (by omega) (by omega)), seatOf_c hC (by omega), Option.bind_some, nI_1, or_c _ (sitP_lt64 (by omega)) i (by omega)]
    dsimp only
    by_cases hv : gI S 2 (6 + i) = v
    · rw [if_pos hv, ← h2, show sitP (fun s => gI S 2 (6 + s)) v (i + 1) = sitP (fun s => gI S 2 (6 + s)) v i ||| 2 ^ i from if_pos hv]
    · rw [if_neg hv, ← h2, show sitP (fun s => gI S 2 (6 + s)) v (i + 1) = sitP (fun s => gI S 2 (6 + s)) v i from if_neg hv]
theorem sitters_c {S : xS} (hC : RCr S) {nS : Nat} (hn : nS ≤ 6) (h5 : gI S 1 5 = nI nS) (v : Int32) : mX1_sitters S 1 v = some (nI (sitP (fun s => gI S 2 (6 + s)) v nS), S) := sitters_go hC hn h5 v nS 0 5000 rfl (by omega)
theorem ixs (s : Nat) : ((16 : Int32) + (2 * nI s)) + 1 = nI (16 + 2 * s + 1) := by rw [show (2 : Int32) = nI 2 from rfl, show (16 : Int32) = nI 16 from rfl, pk_mul, nI_add, nI_1]
theorem ixa (s : Nat) : ((16 : Int32) + (2 * nI s)) = nI (16 + 2 * s) := by rw [show (2 : Int32) = nI 2 from rfl, show (16 : Int32) = nI 16 from rfl, pk_mul, nI_add]
theorem ix0 (t : Nat) : ((10 : Int32) + (3 * nI t)) = nI (10 + 3 * t) := by rw [show (3 : Int32) = nI 3 from rfl, show (10 : Int32) = nI 10 from rfl, pk_mul, nI_add]
theorem seatOf_m2 {S : xS} (hM : RMr S) {s : Nat} (hs : s < 6) : mX9_seatOf S 0 (nI s) = some (gI S 1 (16 + 2 * s + 1), S) := by
  unfold mX9_seatOf
  rw [rm_0 hM, Option.bind_some, ixs, aI_nI (Y := Ym) (c := 1) (by show _ < 486; omega) (by decide)]
  rfl
theorem or_0 (x : Int32) : x ||| 0 = x := by simp
theorem sitting_go {S : xS} (hM : RMr S) {nS : Nat} (hn : nS ≤ 6) (h0 : gI S 1 0 = nI nS) (v : Int32) : ∀ d i n, d + i = nS → d < n → lX9_sittingAt_4 n S 0 v (nI (sitP (fun s => gI S 1 (16 + 2 * s + 1)) v i)) (nI i) = some (nI (sitP (fun s => gI S 1 (16 + 2 * s + 1)) v nS), S) := by
  intro d
  induction d with
  | zero =>
    intro i n hi hn2
    obtain ⟨n, rfl⟩ : ∃ m, n = m + 1 := ⟨n - 1, by omega⟩
    have hi : i = nS := by omega
    subst hi
    rw [lX9_sittingAt_4.eq_2, rm_0 hM, Option.bind_some, aI_lit (Y := Ym) (c := 1) (i := 0) 0 rfl (by decide) (by decide), Option.bind_some, h0, if_pos (nI_le (Nat.le_refl _) (by omega))]
  | succ d ih =>
    intro i n hi hn2
    obtain ⟨n, rfl⟩ : ∃ m, n = m + 1 := ⟨n - 1, by omega⟩
    have h2 := ih (i + 1) n (by omega) (by omega)
    rw [lX9_sittingAt_4.eq_2, rm_0 hM, Option.bind_some, aI_lit (Y := Ym) (c := 1) (i := 0) 0 rfl (by decide) (by decide), Option.bind_some, h0, if_neg (nI_ge (by omega) (by omega)), seatOf_m2 hM (by omega), Option.bind_some, nI_1, or_c _ (sitP_lt64 (by omega)) i (by omega), or_0]
    dsimp only
    by_cases hv : gI S 1 (16 + 2 * i + 1) = v
    · rw [if_pos hv, ← h2, show sitP (fun s => gI S 1 (16 + 2 * s + 1)) v (i + 1) = sitP (fun s => gI S 1 (16 + 2 * s + 1)) v i ||| 2 ^ i from if_pos hv]
    · rw [if_neg hv, ← h2, show sitP (fun s => gI S 1 (16 + 2 * s + 1)) v (i + 1) = sitP (fun s => gI S 1 (16 + 2 * s + 1)) v i from if_neg hv]
theorem sitting_m {S : xS} (hM : RMr S) {nS : Nat} (hn : nS ≤ 6) (h0 : gI S 1 0 = nI nS) (v : Int32) : mX9_sittingAt S 0 v = some (nI (sitP (fun s => gI S 1 (16 + 2 * s + 1)) v nS), S) := sitting_go hM hn h0 v nS 0 5000 rfl (by omega)
theorem dayAt_eq {S : xS} {t : Nat} (ht : t < 2) : mX1_dayAt S (nI t) = some (nI (3 * t), S) := by
  rcases (show t = 0 ∨ t = 1 by omega) with rfl | rfl <;> rfl
/-- nothing that is remembered has changed -/
theorem RelW.scr {RT : xS → xS → Nat → Prop} {Sc Sm Sc' Sm' : xS} (hRT : RTloc RT) (h : RelW RT Sc Sm) (hC : RCr Sc') (hM : RMr Sm') (h3 : gR Sc' 12 3 = gR Sc 12 3) (h5 : (gR Sc' 17 5 = some 21 ∧ gR Sc' 17 6 = some 22) ∨ (gR Sc' 17 5 = some 22 ∧ gR Sc' 17 6 = some 21)) (hc : ∀ c, c ≤ 11 ∨ 23 ≤ c → gI Sc' c = gI Sc c) (hm : ∀ c, 1 ≤ c → c ≤ 4 → gI Sm' c = gI Sm c) (h0 : ∀ k, k = 4 ∨ k = 5 ∨ k = 6 → gI Sm' 0 k = gI Sm 0 k) : RelW RT Sc' Sm' := by
  refine RelW.upd hRT h hC hM ?_ (fun c hc' => hc c (by omega)) (fun c hc' => hm c (by omega) (by omega)) (congrFun (hc 23 (by omega)) 1) (fun k _ => congrFun (hc 25 (by omega)) k) h0 (fun nS nT ns sc nx hV => ⟨nS, ns, sc, nx, hV.congr (fun i hi => hc _ (by omega)) (hm 1 (by omega) (by omega))⟩)
  have hK := h.2.2.1
  unfold RKd at hK ⊢
  rw [hc 1 (by omega), h3]
  exact ⟨hK.1, h5⟩
theorem RelW.scr2 {RT : xS → xS → Nat → Prop} {Sc Sm Sc' Sm' : xS} (hRT : RTloc RT) (h : RelW RT Sc Sm) (hC : Sc'.2.2 = Sc.2.2) (hM : Sm'.2.2 = Sm.2.2) (hc : ∀ c, c ≤ 11 ∨ 23 ≤ c → gI Sc' c = gI Sc c) (hm : ∀ c, 1 ≤ c → c ≤ 4 → gI Sm' c = gI Sm c) (h0 : ∀ k, k = 4 ∨ k = 5 ∨ k = 6 → gI Sm' 0 k = gI Sm 0 k) : RelW RT Sc' Sm' := by
  have e : ∀ c k, gR Sc' c k = gR Sc c k := fun c k => by unfold gR; rw [hC]
  refine RelW.scr hRT h (h.1.ofR hC) (h.2.1.ofR hM) (e _ _) ?_ hc hm h0
  rw [e, e]
  exact h.2.2.1.2
theorem sim_of_ok {RT : xS → xS → Nat → Prop} : sim_of (RelW RT) := by
  intro Sc Sm p w h
  have hC := h.1
  have hM := h.2.1
  obtain ⟨nS, nT, ns, sc, nx, nS', nT', ns', sc', nx', hV, hV', hT, hRt⟩ := h.2.2.2.1
  obtain ⟨a1, a2, a3, a4, a5, a6, a7, a8, a9, a10, a11, a12, a13⟩ := hV
  unfold mX8_of mX9_of
  rcases (tab_cases p).symm with c | ⟨t, ht, rfl, c⟩
  · exact ⟨-1, Sc, Sm, by rw [(c Sc).1, Option.bind_some, if_pos rfl], by rw [(c Sm).2, Option.bind_some, if_pos rfl], h⟩
  rw [(c Sc).1, (c Sm).2, Option.bind_some, Option.bind_some, if_neg n10, if_neg n10, isIn_eq, Option.bind_some, rc_0_0 hC, rm_0 hM, dayAt_eq ht, leftAt_eq ht, hiddenAt_eq ht]
  simp only [Option.bind_some]
  rw [sitters_c hC a1.1 a2.1, sitting_m hM a1.1 a2.2]
  simp only [Option.bind_some]
  have hg : ∀ k, k < 3 → gI Sc 2 (3 * t + k) = gI Sm 1 (10 + 3 * t + k) := fun k hk => by
    have := a10.2.2 (3 * t + k) (by omega)
    rw [show 10 + 3 * t + k = 10 + (3 * t + k) by omega]
    exact this.symm
  rw [get_eq (3 * t) rfl (by omega) (rc_1_0 hC) rfl, get_eq (3 * t + 1) rfl (by omega) (rc_1_0 hC) rfl, get_eq (3 * t + 2) rfl (by omega) (rc_1_0 hC) rfl]
  simp only [Option.bind_some]
  by_cases h0 : w = 0
  · subst h0
    refine ⟨gI Sc 2 (3 * t), Sc, Sm, by rw [if_pos rfl], ?_, h⟩
    rw [if_neg (by decide), if_neg (by decide), ix0, show nI (10 + 3 * t) + 0 = nI (10 + 3 * t) from nI_add _ 0, aI_nI (Y := Ym) (c := 1) (by show _ < 486; omega) (by decide), Option.bind_some, show gI Sc 2 (3 * t) = gI Sm 1 (10 + 3 * t) from hg 0 (by decide)]
  by_cases h1 : w = 1
  · subst h1
    refine ⟨gI Sc 2 (3 * t + 1), Sc, Sm, by rw [if_neg h0, if_pos rfl], ?_, h⟩
    rw [if_neg (by decide), if_neg (by decide), ix1, aI_nI (Y := Ym) (c := 1) (by show _ < 486; omega) (by decide), Option.bind_some, hg 1 (by decide)]
  by_cases h2 : w = 2
  · subst h2
    refine ⟨gI Sc 2 (3 * t + 2), Sc, Sm, by rw [if_neg h0, if_neg h1, if_pos rfl], ?_, h⟩
    rw [if_neg (by decide), if_neg (by decide), ix2, aI_nI (Y := Ym) (c := 1) (by show _ < 486; omega) (by decide), Option.bind_some, hg 2 (by decide)]
  by_cases h3 : w = 3
  · subst h3
    refine ⟨_, Sc, Sm, by rw [if_neg h0, if_neg h1, if_neg h2, if_pos rfl], ?_, h⟩
    rw [if_neg (by decide), if_pos (by decide)]
    rw [sitP_congr nS (f := fun s => gI Sc 2 (6 + s)) (g := fun s => gI Sm 1 (16 + 2 * s + 1)) (fun s hs => (a11 s hs).2.1.symm)]
  · refine ⟨-1, Sc, Sm, by rw [if_neg h0, if_neg h1, if_neg h2, if_neg h3], ?_, h⟩
    by_cases hr : w < 0 ∨ 3 < w
    · rw [if_pos hr, if_pos rfl]
    · exfalso
      have q1 : ¬ w < 0 := fun q => hr (Or.inl q)
      obtain ⟨v, hv, e⟩ := bd_of (B := 3) q1 (Int32.not_lt.mp (fun q => hr (Or.inr q))) (by decide)
      rcases (show v = 0 ∨ v = 1 ∨ v = 2 ∨ v = 3 by omega) with rfl | rfl | rfl | rfl
      · exact h0 e
      · exact h1 e
      · exact h2 e
      · exact h3 e

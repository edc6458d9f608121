/-! THE LAWS: what the texts say to both -/
def CW1 (Sc : xS) (b fr to m : Nat) (f : (Nat → Nat) → Int) : Prop := ∀ (S : xS) (N : Nat → Nat), RCr S → gI S (b + 1) = gI Sc (b + 1) → gI S (b + 2) = gI Sc (b + 2) → (∀ k, k < m → N k < 10000 ∧ gI S 15 k = nI (N k)) → ∃ (v : Int32) (S' : xS), mX5_worked S 14 (some b) (nI fr) (nI to) = some (v, S') ∧ v.toInt = f N ∧ S'.2 = S.2 ∧ ∀ c, c ≠ 16 → gI S' c = gI S c
def MW1 (Sm : xS) (t k m : Nat) (f : (Nat → Nat) → Int) : Prop := ∀ (S : xS) (N : Nat → Nat), RMr S → (∀ i, 680 * t ≤ i → i < 680 * t + 680 → gI S 3 i = gI Sm 3 i) → gI S 1 5 = nI t → (∀ j, j < m → N j < 10000 ∧ gI S 6 j = nI (N j)) → ∃ S' : xS, mX9_work S 0 (nI k) = some S' ∧ (gJ S' 7 0).toInt = f N ∧ S'.2.2 = S.2.2 ∧ (∀ c, c ≠ 7 → S'.2.1 c = S.2.1 c) ∧ ∀ c, c ≠ 8 → gI S' c = gI S c
/-- the law of a sort (0: slices, 1: eats) of text t, of n clauses, with m names: none at all, or one and the same -/
def TLaw (Sc Sm : xS) (t n sort m : Nat) : Prop :=
  ((∀ k, k < n → gI Sm 3 (680 * t + 1 + 3 * k) ≠ nI sort) ∧ gI Sc (26 + 6 * t) (4 + 2 * sort) ≤ gI Sc (26 + 6 * t) (3 + 2 * sort)) ∨
  ∃ (k fr to : Nat) (f : (Nat → Nat) → Int), k < n ∧ (∀ j, j < k → gI Sm 3 (680 * t + 1 + 3 * j) ≠ nI sort) ∧ gI Sm 3 (680 * t + 1 + 3 * k) = nI sort ∧ gI Sc (26 + 6 * t) (3 + 2 * sort) = nI fr ∧ gI Sc (26 + 6 * t) (4 + 2 * sort) = nI to ∧ fr < to ∧ to ≤ 300 ∧ CW1 Sc (26 + 6 * t) fr to m f ∧ MW1 Sm t k m f
def RTx (Sc Sm : xS) (nT : Nat) : Prop := ∀ t, t < nT → ∃ n, n ≤ 24 ∧ gI Sc (26 + 6 * t) 10 = nI n ∧ gI Sm 3 (680 * t) = nI n ∧
  (∀ k, k < n → ∃ s, s < 6 ∧ gI Sc (26 + 6 * t + 3) k = nI (200 + s) ∧ gI Sm 3 (680 * t + 1 + 3 * k) = nI s ∧ (2 ≤ s → gI Sc (26 + 6 * t + 4) k = gI Sm 3 (680 * t + 1 + 3 * k + 1)) ∧ (2 ≤ s → s ≤ 4 → gI Sc (26 + 6 * t + 5) k = gI Sm 3 (680 * t + 1 + 3 * k + 2))) ∧
  TLaw Sc Sm t n 0 3 ∧ TLaw Sc Sm t n 1 6
theorem CW1.congr {Sc Sc' : xS} {b fr to m : Nat} {f : (Nat → Nat) → Int} (h : CW1 Sc b fr to m f) (h1 : gI Sc' (b + 1) = gI Sc (b + 1)) (h2 : gI Sc' (b + 2) = gI Sc (b + 2)) : CW1 Sc' b fr to m f := fun S N a b c d => h S N a (b.trans h1) (c.trans h2) d
theorem MW1.loc {Sm Sm' : xS} {t k m : Nat} {f : (Nat → Nat) → Int} (h : MW1 Sm t k m f) (h1 : ∀ i, 680 * t ≤ i → i < 680 * t + 680 → gI Sm' 3 i = gI Sm 3 i) : MW1 Sm' t k m f := fun S N a b c d => h S N a (fun i x y => (b i x y).trans (h1 i x y)) c d
theorem MW1.congr {Sm Sm' : xS} {t k m : Nat} {f : (Nat → Nat) → Int} (h : MW1 Sm t k m f) (h1 : gI Sm' 3 = gI Sm 3) : MW1 Sm' t k m f := h.loc (fun i _ _ => by rw [h1])
theorem TLaw.congr {Sc Sm Sc' Sm' : xS} {t n sort m : Nat} (h : TLaw Sc Sm t n sort m) (hc : ∀ c, 26 ≤ c → gI Sc' c = gI Sc c) (hm : gI Sm' 3 = gI Sm 3) : TLaw Sc' Sm' t n sort m := by
  unfold TLaw at h ⊢
  rw [hc _ (by omega), hm]
  rcases h with h | ⟨k, fr, to, f, h1, h2, h3, h4, h5, h6, h7, h8, h9⟩
  · exact Or.inl h
  · exact Or.inr ⟨k, fr, to, f, h1, h2, h3, h4, h5, h6, h7, h8.congr (hc _ (by omega)) (hc _ (by omega)), h9.congr hm⟩
theorem RTx_loc : RTloc RTx := by
  intro Sc Sm Sc' Sm' k hc hm h t ht
  have hc' : ∀ c, 26 ≤ c → gI Sc' c = gI Sc c := hc
  have hm' : gI Sm' 3 = gI Sm 3 := hm
  obtain ⟨n, h1, h2, h3, h4, h5, h6⟩ := h t ht
  refine ⟨n, h1, ?_, ?_, ?_, h5.congr hc' hm', h6.congr hc' hm'⟩
  · rw [hc' _ (by omega)]; exact h2
  · rw [hm']; exact h3
  · rw [hc' _ (by omega), hc' _ (by omega), hc' _ (by omega), hm']; exact h4
theorem RTx_mono : RTmono RTx := fun Sc Sm k k' hk h t ht => h t (by omega)
/-- a number held between two -/
def clN (lo hi : Nat) (v : Int) : Nat := if v < lo then lo else if (hi : Int) < v then hi else v.toNat
theorem clN_le (lo hi : Nat) (h : lo ≤ hi) (v : Int) : lo ≤ clN lo hi v ∧ clN lo hi v ≤ hi := by
  unfold clN
  split
  · omega
  · split <;> omega
theorem nI_of_toInt {x : Int32} {n : Nat} (h : x.toInt = (n : Int)) : x = nI n := by
  have h2 : n < 2 ^ 31 := by
    have := Int32.toInt_lt x
    omega
  exact Int32.toInt_inj.mp (by rw [h, nI_toInt h2])
theorem cl_c (lo hi : Nat) (h1 : lo ≤ hi) (h2 : hi < 2 ^ 31) (v : Int32) : (if nI lo < (if v < nI hi then v else nI hi) then (if v < nI hi then v else nI hi) else nI lo) = nI (clN lo hi v.toInt) := by
  have e1 := nI_toInt (n := lo) (by omega)
  have e2 := nI_toInt (n := hi) h2
  unfold clN
  by_cases c1 : v < nI hi
  · rw [if_pos c1]
    have d1 := Int32.lt_iff_toInt_lt.mp c1
    rw [e2] at d1
    by_cases c2 : nI lo < v
    · have d2 := Int32.lt_iff_toInt_lt.mp c2
      rw [e1] at d2
      rw [if_pos c2, if_neg (by omega), if_neg (by omega)]
      exact nI_of_toInt (by omega)
    · have d2 := Int32.le_iff_toInt_le.mp (Int32.not_lt.mp c2)
      rw [e1] at d2
      rw [if_neg c2]
      by_cases c3 : v.toInt < lo
      · rw [if_pos c3]
      · rw [if_neg c3, if_neg (by omega)]
        congr 1
        omega
  · rw [if_neg c1]
    have d1 := Int32.le_iff_toInt_le.mp (Int32.not_lt.mp c1)
    rw [e2] at d1
    by_cases c2 : lo < hi
    · rw [if_pos (nI_lt c2 h2), if_neg (by omega)]
      by_cases c3 : (hi : Int) < v.toInt
      · rw [if_pos c3]
      · rw [if_neg c3]
        congr 1
        omega
    · have e : lo = hi := by omega
      subst e
      rw [if_neg (nI_nlt (Nat.le_refl _) h2), if_neg (by omega)]
      by_cases c3 : (lo : Int) < v.toInt
      · rw [if_pos c3]
      · rw [if_neg c3]
        congr 1
        omega
theorem between_eq {S : xS} (lo hi : Nat) (h1 : lo ≤ hi) (h2 : hi < 2 ^ 31) (x : Int64) : mX9_between S x (nI lo) (nI hi) = some (nI (clN lo hi x.toInt), S) := by
  unfold mX9_between clN
  have e1 : (nI lo).toInt64.toInt = lo := by rw [Int32.toInt_toInt64, nI_toInt (by omega)]
  have e2 : (nI hi).toInt64.toInt = hi := by rw [Int32.toInt_toInt64, nI_toInt h2]
  by_cases c1 : (nI lo).toInt64 ≤ x
  · have d1 := Int64.le_iff_toInt_le.mp c1
    rw [e1] at d1
    rw [if_pos ((lg_cmp_ge _ _).mpr c1), if_neg (show ¬ x.toInt < (lo : Int) by omega)]
    by_cases c2 : x ≤ (nI hi).toInt64
    · have d2 := Int64.le_iff_toInt_le.mp c2
      rw [e2] at d2
      rw [if_pos ((lg_cmp_le _ _).mpr c2), if_neg (show ¬ (hi : Int) < x.toInt by omega)]
      congr 2
      refine nI_of_toInt ?_
      rw [Int64.toInt_toInt32, Int.bmod_eq_of_le (by omega) (by omega)]
      omega
    · have d2 := Int64.lt_iff_toInt_lt.mp (Int64.not_le.mp c2)
      rw [e2] at d2
      rw [if_neg (fun q => c2 ((lg_cmp_le _ _).mp q)), if_pos d2]
  · have d1 := Int64.lt_iff_toInt_lt.mp (Int64.not_le.mp c1)
    rw [e1] at d1
    rw [if_neg (fun q => c1 ((lg_cmp_ge _ _).mp q)), if_pos d1]
/-- the names of a law -/
def nm (d t w s a l k : Nat) : Nat := if k = 0 then d else if k = 1 then t else if k = 2 then w else if k = 3 then s else if k = 4 then a else l
theorem nm_lt {d t w s a l k : Nat} (h0 : d < 10000) (h1 : t < 10000) (h2 : w < 10000) (h3 : s < 10000) (h4 : a < 10000) (h5 : l < 10000) : nm d t w s a l k < 10000 := by
  unfold nm
  repeat' split
  all_goals omega
theorem ix680 (t : Nat) : (680 : Int32) * nI t = nI (680 * t) := pk_mul 680 t
theorem ixk (t k : Nat) : (((680 : Int32) * nI t) + 1) + (3 * nI k) = nI (680 * t + 1 + 3 * k) := by rw [ix680, nI_1, show (3 : Int32) * nI k = nI (3 * k) from pk_mul 3 k, nI_add]
/-- sumOf: no text rules; no clause of the sort; one -/
theorem sum_none {S : xS} (hM : RMr S) (h5 : gI S 1 5 = -1) (a b c w : Int32) : mX9_sumOf S 0 a b c w = some (w, S) := by
  unfold mX9_sumOf
  rw [show (5000 : Nat) = 4999 + 1 from rfl, lX9_sumOf_3.eq_2, rm_0 hM, Option.bind_some, aI_lit (Y := Ym) (c := 1) (i := 5) 5 rfl (by decide) (by decide), Option.bind_some, h5, if_pos (by decide)]
theorem sum_step {S : xS} (hM : RMr S) {t n i m : Nat} (ht : t < 4) (hn : n ≤ 24) (hi : i < n) (h5 : gI S 1 5 = nI t) (h3 : gI S 3 (680 * t) = nI n) {a b c w : Int32} : lX9_sumOf_3 (m + 1) S 0 a b c w (nI i) = if gI S 3 (680 * t + 1 + 3 * i) = a then ((mX9_work S 0 (nI i)).bind fun S14 => (dO Ym (gR S14 0 23) 11).bind fun d15 => (aJ Ym S14 d15 0).bind fun x16 => (mX9_between S14 x16 b c).bind fun q17 => some (q17.1, q17.2)) else lX9_sumOf_3 m S 0 a b c w (nI (i + 1)) := by
  rw [lX9_sumOf_3.eq_2, rm_0 hM, Option.bind_some, aI_lit (Y := Ym) (c := 1) (i := 5) 5 rfl (by decide) (by decide), Option.bind_some, h5, if_neg (nI_pos (by omega)), rm_2 hM, Option.bind_some, Option.bind_some, aI_lit (Y := Ym) (c := 1) (i := 5) 5 rfl (by decide) (by decide), Option.bind_some, h5, ix680, aI_nI (Y := Ym) (c := 3) (by show _ < 2720; omega) (by decide), Option.bind_some, h3, if_neg (nI_ge hi (by omega)), Option.bind_some, Option.bind_some, aI_lit (Y := Ym) (c := 1) (i := 5) 5 rfl (by decide) (by decide), Option.bind_some, h5, ixk, aI_nI (Y := Ym) (c := 3) (by show _ < 2720; omega) (by decide), Option.bind_some, nI_1]
theorem sum_end {S : xS} (hM : RMr S) {t n m : Nat} (ht : t < 4) (hn : n ≤ 24) (h5 : gI S 1 5 = nI t) (h3 : gI S 3 (680 * t) = nI n) {a b c w : Int32} : lX9_sumOf_3 (m + 1) S 0 a b c w (nI n) = some (w, S) := by
  rw [lX9_sumOf_3.eq_2, rm_0 hM, Option.bind_some, aI_lit (Y := Ym) (c := 1) (i := 5) 5 rfl (by decide) (by decide), Option.bind_some, h5, if_neg (nI_pos (by omega)), rm_2 hM, Option.bind_some, Option.bind_some, aI_lit (Y := Ym) (c := 1) (i := 5) 5 rfl (by decide) (by decide), Option.bind_some, h5, ix680, aI_nI (Y := Ym) (c := 3) (by show _ < 2720; omega) (by decide), Option.bind_some, h3, if_pos (nI_le (Nat.le_refl _) (by omega))]
theorem sum_go {S : xS} (hM : RMr S) {t n : Nat} (ht : t < 4) (hn : n ≤ 24) (h5 : gI S 1 5 = nI t) (h3 : gI S 3 (680 * t) = nI n) {a b c w : Int32} {k : Nat} (hk : k ≤ n) (hno : ∀ j, j < k → gI S 3 (680 * t + 1 + 3 * j) ≠ a) : ∀ d i m, d + i = k → d < m → lX9_sumOf_3 m S 0 a b c w (nI i) = lX9_sumOf_3 (m - d) S 0 a b c w (nI k) := by
  intro d
  induction d with
  | zero =>
    intro i m hi hm
    have hi : i = k := by omega
    subst hi
    rfl
  | succ d ih =>
    intro i m hi hm
    obtain ⟨m, rfl⟩ : ∃ q, m = q + 1 := ⟨m - 1, by omega⟩
    rw [sum_step hM ht hn (by omega) h5 h3, if_neg (hno i (by omega)), ih (i + 1) m (by omega) (by omega)]
    congr 1
    omega
theorem sum_no {S : xS} (hM : RMr S) {t n : Nat} (ht : t < 4) (hn : n ≤ 24) (h5 : gI S 1 5 = nI t) (h3 : gI S 3 (680 * t) = nI n) {a b c w : Int32} (hno : ∀ j, j < n → gI S 3 (680 * t + 1 + 3 * j) ≠ a) : mX9_sumOf S 0 a b c w = some (w, S) := by
  unfold mX9_sumOf
  obtain ⟨m, e⟩ : ∃ m, 5000 - n = m + 1 := ⟨5000 - n - 1, by omega⟩
  rw [show (0 : Int32) = nI 0 from rfl, sum_go hM ht hn h5 h3 (Nat.le_refl n) hno n 0 5000 (by omega) (by omega), e, sum_end hM ht hn h5 h3]
theorem sum_yes {S Sm : xS} (hM : RMr S) {t n k m : Nat} (ht : t < 4) (hn : n ≤ 24) (h5 : gI S 1 5 = nI t) (h3 : gI S 3 (680 * t) = nI n) {a w : Int32} {lo hi : Nat} (hlo : lo ≤ hi) (hhi : hi < 2 ^ 31) (hk : k < n) (hno : ∀ j, j < k → gI S 3 (680 * t + 1 + 3 * j) ≠ a) (hyes : gI S 3 (680 * t + 1 + 3 * k) = a) {f : (Nat → Nat) → Int} (hW : MW1 Sm t k m f) (hs : gI S 3 = gI Sm 3) {N : Nat → Nat} (hN : ∀ j, j < m → N j < 10000 ∧ gI S 6 j = nI (N j)) : ∃ S', mX9_sumOf S 0 a (nI lo) (nI hi) w = some (nI (clN lo hi (f N)), S') ∧ S'.2.2 = S.2.2 ∧ (∀ c, c ≠ 7 → S'.2.1 c = S.2.1 c) ∧ ∀ c, c ≠ 8 → gI S' c = gI S c := by
  obtain ⟨S', w1, w2, w3, w4, w5⟩ := hW S N hM (fun i _ _ => by rw [hs]) h5 hN
  refine ⟨S', ?_, w3, w4, w5⟩
  unfold mX9_sumOf
  obtain ⟨q, e⟩ : ∃ q, 5000 - k = q + 1 := ⟨5000 - k - 1, by omega⟩
  rw [show (0 : Int32) = nI 0 from rfl, sum_go hM ht hn h5 h3 (by omega) hno k 0 5000 (by omega) (by omega), e, sum_step hM ht hn hk h5 h3, if_pos hyes, w1, Option.bind_some, rm_23 (hM.ofR w3), Option.bind_some, show aJ Ym S' 7 0 = some (gJ S' 7 0) from aJ_nI (Y := Ym) (c := 7) (i := 0) (by decide) (by decide), Option.bind_some, between_eq lo hi hlo hhi, w2]
  rfl

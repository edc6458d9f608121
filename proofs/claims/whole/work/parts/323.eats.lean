/-! THE LAWS: eatenBy and eatsOf -/
/-- what is left when the first k sisters, those of the set, have eaten -/
def eatN (ea : Nat → Nat → Nat → Nat → Nat → Nat) (set t d w : Nat) : Nat → Nat → Nat
  | 0, l => l
  | k + 1, l => if set.testBit k then eatN ea set t d w k l - ea k t d w (eatN ea set t d w k l) else eatN ea set t d w k l
theorem eatN_le (ea : Nat → Nat → Nat → Nat → Nat → Nat) (set t d w : Nat) : ∀ k l, eatN ea set t d w k l ≤ l := by
  intro k l
  induction k with
  | zero => exact Nat.le_refl _
  | succ k ih =>
    unfold eatN
    split
    · omega
    · exact ih
theorem eatN_ge (ea : Nat → Nat → Nat → Nat → Nat → Nat) {set nS : Nat} (hs : set < 2 ^ nS) (t d w l : Nat) : ∀ e, eatN ea set t d w (nS + e) l = eatN ea set t d w nS l := by
  intro e
  induction e with
  | zero => rfl
  | succ e ih =>
    have hb : set.testBit (nS + e) = false := Nat.testBit_lt_two_pow (Nat.lt_of_lt_of_le hs (Nat.pow_le_pow_right (by decide) (by omega)))
    show (if set.testBit (nS + e) then _ else eatN ea set t d w (nS + e) l) = _
    rw [hb, if_neg (by decide)]
    exact ih
theorem set64 {set nS : Nat} (hs : set < 2 ^ nS) (hn : nS ≤ 6) : set < 64 := Nat.lt_of_lt_of_le hs (Nat.pow_le_pow_right (by decide) hn : 2 ^ nS ≤ 2 ^ 6)
def FrQ (q : Nat) (S S' : xS) (v : Int32) : Prop := S'.2 = S.2 ∧ (∀ c, c ≠ 15 → c ≠ 16 → c ≠ q → gI S' c = gI S c) ∧ gI S' q 2 = v ∧ ∀ k, k ≠ 2 → gI S' q k = gI S q k
def EAc (Sc : xS) (nS : Nat) (ea : Nat → Nat → Nat → Nat → Nat → Nat) : Prop := ∀ S, CB Sc S → ∀ q t d w l set, (q = 13 ∨ q = 18) → t < 2 → d < 1000 → w < 2000 → l ≤ 60 → set < 2 ^ nS → gI S q 0 = nI t → gI S q 1 = nI d → gI S q 2 = nI l → gI S q 4 = nI w → ∃ S', mX3_eatenBy S 12 (nI set) q = some (nI (l - eatN ea set t d w nS l), S') ∧ FrQ q S S' (nI (eatN ea set t d w nS l))
def EAm (Sm : xS) (nS : Nat) (ea : Nat → Nat → Nat → Nat → Nat → Nat) : Prop := ∀ S, MB Sm S → ∀ s t d w l, s < nS → t < 2 → d < 1000 → w < 2000 → l ≤ 60 → ∃ S', mX9_eatsOf S 0 (nI s) (nI t) (nI d) (nI w) (nI l) = some (nI (ea s t d w l), S') ∧ FrM S S'
theorem appetite_c {S : xS} (hC : RCr S) {s : Nat} (hs : s < 6) : mX1_appetiteOf S 1 (nI s) = some (gI S 4 s, S) := by
  unfold mX1_appetiteOf
  rw [if_neg (nI_pos (by omega)), if_neg (show ¬ (6 : Int32) ≤ nI s from nI_ge (a := s) (b := 6) hs (by decide)), rc_1_4 hC, Option.bind_some, aI_nI (Y := Yc) (c := 4) (by show _ < 6; omega) (by decide)]
  rfl
theorem min_c {l a : Nat} (hl : l < 2 ^ 31) (ha : a < 2 ^ 31) : nI l - (if nI l < nI a then nI l else nI a) = nI (l - (if l < a then l else a)) := by
  by_cases h : l < a
  · rw [if_pos (nI_lt h ha), if_pos h, pk_sub (Nat.le_refl _)]
  · rw [if_neg (nI_nlt (by omega) hl), if_neg h, pk_sub (by omega)]
theorem eat_loop {Sc : xS} {nS : Nat} {ea : Nat → Nat → Nat → Nat → Nat → Nat} (hn : nS ≤ 6) (r v3 : Int32) {q t d w set : Nat} (hq : q = 13 ∨ q = 18) (hset : set < 2 ^ nS)
    (hst : ∀ S i l n, CB Sc S → (gI S 15 0 = nI d ∧ gI S 15 1 = nI t ∧ gI S 15 2 = nI w) → gI S q 2 = nI l → l ≤ 60 → i < nS → set.testBit i = true → ∃ S', lX3_eatenBy_51 (n + 1) S 12 (nI set) q v3 r (nI i) = lX3_eatenBy_51 n S' 12 (nI set) q v3 r (nI (i + 1)) ∧ FrQ q S S' (nI (l - ea i t d w l)) ∧ (∀ k, k < 3 → gI S' 15 k = gI S 15 k)) (l : Nat) (hl : l ≤ 60) :
    ∀ e i n S, e + i = 6 → e < n → CB Sc S → (gI S 15 0 = nI d ∧ gI S 15 1 = nI t ∧ gI S 15 2 = nI w) → gI S q 2 = nI (eatN ea set t d w i l) → ∃ S', lX3_eatenBy_51 n S 12 (nI set) q v3 r (nI i) = some (v3 - nI (eatN ea set t d w 6 l), S') ∧ FrQ q S S' (nI (eatN ea set t d w 6 l)) := by
  intro e
  induction e with
  | zero =>
    intro i n S hi hn2 hB hN h2
    obtain ⟨n, rfl⟩ : ∃ m, n = m + 1 := ⟨n - 1, by omega⟩
    have hi : i = 6 := by omega
    subst hi
    exact ⟨S, by rw [lX3_eatenBy_51.eq_2, if_pos (by decide), h2], rfl, fun _ _ _ _ => rfl, h2, fun _ _ => rfl⟩
  | succ e ih =>
    intro i n S hi hn2 hB hN h2
    obtain ⟨n, rfl⟩ : ∃ m, n = m + 1 := ⟨n - 1, by omega⟩
    by_cases hb : set.testBit i = true
    · have hiS : i < nS := by
        rcases Nat.lt_or_ge i nS with g | g
        · exact g
        · rw [Nat.testBit_lt_two_pow (Nat.lt_of_lt_of_le hset (Nat.pow_le_pow_right (by decide) g))] at hb
          cases hb
      obtain ⟨S1, s1, ⟨s2, s3, s4, s5⟩, s6⟩ := hst S i _ n hB hN h2 (Nat.le_trans (eatN_le ea set t d w i l) hl) hiS hb
      have e1 : eatN ea set t d w (i + 1) l = eatN ea set t d w i l - ea i t d w (eatN ea set t d w i l) := if_pos hb
      obtain ⟨S', f1, ⟨f2, f3, f4, f5⟩⟩ := ih (i + 1) n S1 (by omega) (by omega) (hB.step (by rw [s2]) (fun c hc => s3 c (by omega) (by omega) (by omega))) ⟨(s6 0 (by decide)).trans hN.1, (s6 1 (by decide)).trans hN.2.1, (s6 2 (by decide)).trans hN.2.2⟩ (by rw [e1]; exact s4)
      exact ⟨S', s1.trans f1, f2.trans s2, fun c a b c' => (f3 c a b c').trans (s3 c a b c'), f4, fun k hk => (f5 k hk).trans (s5 k hk)⟩
    · have hb : set.testBit i = false := by simpa using hb
      have e1 : eatN ea set t d w (i + 1) l = eatN ea set t d w i l := if_neg (by rw [hb]; decide)
      obtain ⟨S', f1, f2⟩ := ih (i + 1) n S (by omega) (by omega) hB hN (by rw [e1]; exact h2)
      refine ⟨S', ?_, f2⟩
      rw [lX3_eatenBy_51.eq_2, if_neg (show ¬ (6 : Int32) ≤ nI i from nI_ge (a := i) (b := 6) (by omega) (by decide)), bit_c set (set64 hset hn) i (by omega), hb, if_pos (by decide), nI_1]
      exact f1
/-- eatenBy: the names told, then the loop -/
theorem eaten_of {Sc : xS} {nS : Nat} {ea : Nat → Nat → Nat → Nat → Nat → Nat} (hn : nS ≤ 6) (r : Int32)
    (hj : ∀ S q p, CB Sc S → mX3_eatenBy S 12 p q = jX3_eatenBy_27 S 12 p q (gI S q 2) r)
    (hst : ∀ q t d w set v3, (q = 13 ∨ q = 18) → t < 2 → d < 1000 → w < 2000 → set < 2 ^ nS → ∀ S i l n, CB Sc S → (gI S 15 0 = nI d ∧ gI S 15 1 = nI t ∧ gI S 15 2 = nI w) → gI S q 2 = nI l → l ≤ 60 → i < nS → set.testBit i = true → ∃ S', lX3_eatenBy_51 (n + 1) S 12 (nI set) q v3 r (nI i) = lX3_eatenBy_51 n S' 12 (nI set) q v3 r (nI (i + 1)) ∧ FrQ q S S' (nI (l - ea i t d w l)) ∧ (∀ k, k < 3 → gI S' 15 k = gI S 15 k)) : EAc Sc nS ea := by
  intro S hS q t d w l set hq ht hd hw hl hset g0 g1 g2 g4
  obtain ⟨S1, e1⟩ : ∃ z, z = pI (pI (pI S 15 0 (nI d)) 15 1 (nI t)) 15 2 (nI w) := ⟨_, rfl⟩
  have r1 : S1.2 = S.2 := by rw [e1]; rfl
  have c1 : ∀ c, c ≠ 15 → gI S1 c = gI S c := fun c hc => by rw [e1, gIf_ne _ _ _ _ hc, gIf_ne _ _ _ _ hc, gIf_ne _ _ _ _ hc]
  have hB : CB Sc S1 := hS.step (by rw [r1]) (fun c hc => c1 c (by omega))
  obtain ⟨S', f1, f2, f3, f4, f5⟩ := eat_loop (v3 := gI S q 2) hn r hq hset (hst q t d w set _ hq ht hd hw hset) l hl 6 0 5000 S1 rfl (by decide) hB ⟨by rw [e1, gI_nk _ _ _ _ (by decide), gI_nk _ _ _ _ (by decide), gI_eq], by rw [e1, gI_nk _ _ _ _ (by decide), gI_eq], by rw [e1, gI_eq]⟩ (by rw [c1 q (by omega)]; exact g2)
  obtain ⟨e, he⟩ : ∃ e, 6 = nS + e := ⟨6 - nS, by omega⟩
  rw [show eatN ea set t d w 6 l = eatN ea set t d w nS l from by rw [he]; exact eatN_ge ea hset t d w l e] at f1 f4
  refine ⟨S', ?_, f2.trans r1, fun c a b c' => (f3 c a b c').trans (c1 c a), f4, fun k hk => (f5 k hk).trans (by rw [c1 q (by omega)])⟩
  rw [hj S q _ hS]
  unfold jX3_eatenBy_27
  rw [rc_12_2 hS.1, Option.bind_some, g1, g0, g4, tell_eq hS.1, Option.bind_some, ← e1, show (0 : Int32) = nI 0 from rfl, f1, g2, pk_sub (eatN_le _ _ _ _ _ _ _)]
/-- one who eats what her appetite says -/
theorem step_plain {Sc : xS} {nS : Nat} {ap : Nat → Nat} (hn : nS ≤ 6) (hap : ∀ s, s < nS → gI Sc 4 s = nI (ap s) ∧ ap s < 10) {q set : Nat} {v3 : Int32} (hq : q = 13 ∨ q = 18) (hset : set < 2 ^ nS) (S : xS) (i l n : Nat) (hS : CB Sc S) (h2 : gI S q 2 = nI l) (hl : l ≤ 60) (hi : i < nS) (hb : set.testBit i = true) : ∃ S', lX3_eatenBy_51 (n + 1) S 12 (nI set) q v3 0 (nI i) = lX3_eatenBy_51 n S' 12 (nI set) q v3 0 (nI (i + 1)) ∧ FrQ q S S' (nI (l - (if l < ap i then l else ap i))) ∧ (∀ k, k < 3 → gI S' 15 k = gI S 15 k) := by
  refine ⟨pI S q 2 (nI (l - (if l < ap i then l else ap i))), ?_, ⟨rfl, fun c _ _ h => gIf_ne _ _ _ _ h, gI_eq _ _ _ _, fun k hk => gI_nk _ _ _ _ hk⟩, fun k _ => gI_ne _ _ _ _ (by omega)⟩
  rw [lX3_eatenBy_51.eq_2, if_neg (show ¬ (6 : Int32) ≤ nI i from nI_ge (a := i) (b := 6) (by omega) (by decide)), bit_c set (set64 hset hn) i (by omega), hb, if_neg (by decide), rc_12_0 hS.1, Option.bind_some, appetite_c hS.1 (by omega), Option.bind_some, if_pos rfl]
  unfold jX3_eatenBy_137
  dsimp only
  rw [xlet_eq, h2, hS.2.2.1, (hap i hi).1, min_c (by omega) (by have := (hap i hi).2; omega), nI_1]
/-- one who eats what the law says -/
theorem step_ruled {Sc : xS} {nS t0 fr to : Nat} {f : (Nat → Nat) → Int} {ap : Nat → Nat} (hn : nS ≤ 6) (hap : ∀ s, s < nS → gI Sc 4 s = nI (ap s) ∧ ap s < 10) (ht0 : t0 < 4) (k1 : gR Sc 12 3 = some (26 + 6 * t0)) (e5 : gI Sc (26 + 6 * t0) 5 = nI fr) (e6 : gI Sc (26 + 6 * t0) 6 = nI to) (hcw : CW1 Sc (26 + 6 * t0) fr to 6 f) {q t d w set : Nat} {v3 : Int32} (hq : q = 13 ∨ q = 18) (ht : t < 2) (hd : d < 1000) (hw : w < 2000) (hset : set < 2 ^ nS) (S : xS) (i l n : Nat) (hS : CB Sc S) (hN : gI S 15 0 = nI d ∧ gI S 15 1 = nI t ∧ gI S 15 2 = nI w) (h2 : gI S q 2 = nI l) (hl : l ≤ 60) (hi : i < nS) (hb : set.testBit i = true) : ∃ S', lX3_eatenBy_51 (n + 1) S 12 (nI set) q v3 1 (nI i) = lX3_eatenBy_51 n S' 12 (nI set) q v3 1 (nI (i + 1)) ∧ FrQ q S S' (nI (l - (if l < clN 0 9 (f (nm d t w i (ap i) l)) then l else clN 0 9 (f (nm d t w i (ap i) l))))) ∧ (∀ k, k < 3 → gI S' 15 k = gI S 15 k) := by
  have ha := hap i hi
  obtain ⟨S1, e1⟩ : ∃ z, z = pI (pI (pI S 15 3 (nI i)) 15 4 (nI (ap i))) 15 5 (nI l) := ⟨_, rfl⟩
  have r1 : S1.2 = S.2 := by rw [e1]; rfl
  have c1 : ∀ c, c ≠ 15 → gI S1 c = gI S c := fun c hc => by rw [e1, gIf_ne _ _ _ _ hc, gIf_ne _ _ _ _ hc, gIf_ne _ _ _ _ hc]
  have n1 : ∀ k, k < 3 → gI S1 15 k = gI S 15 k := fun k hk => by rw [e1, gI_nk _ _ _ _ (by omega), gI_nk _ _ _ _ (by omega), gI_nk _ _ _ _ (by omega)]
  have hB : CB Sc S1 := hS.step (by rw [r1]) (fun c hc => c1 c (by omega))
  obtain ⟨v, S2, w1, w2, w3, w4⟩ := hcw S1 (nm d t w i (ap i) l) hB.1 (hB.2.2.2 _ (by omega)) (hB.2.2.2 _ (by omega)) (fun j hj => ⟨nm_lt (by omega) (by omega) (by omega) (by omega) (by omega) (by omega), by
    rcases (show j = 0 ∨ j = 1 ∨ j = 2 ∨ j = 3 ∨ j = 4 ∨ j = 5 by omega) with rfl | rfl | rfl | rfl | rfl | rfl
    · exact (n1 0 (by decide)).trans hN.1
    · exact (n1 1 (by decide)).trans hN.2.1
    · exact (n1 2 (by decide)).trans hN.2.2
    · rw [e1, gI_nk _ _ _ _ (by decide), gI_nk _ _ _ _ (by decide), gI_eq]; rfl
    · rw [e1, gI_nk _ _ _ _ (by decide), gI_eq]; rfl
    · rw [e1, gI_eq]; rfl⟩)
  have h22 : gI S2 q 2 = nI l := by rw [w4 q (by omega), c1 q (by omega)]; exact h2
  refine ⟨pI S2 q 2 (nI (l - (if l < clN 0 9 (f (nm d t w i (ap i) l)) then l else clN 0 9 (f (nm d t w i (ap i) l))))), ?_, ⟨w3.trans r1, fun c a b h => (gIf_ne _ _ _ _ h).trans ((w4 c b).trans (c1 c a)), gI_eq _ _ _ _, fun k hk => (gI_nk _ _ _ _ hk).trans (by rw [w4 q (by omega), c1 q (by omega)])⟩, fun k hk => (gI_ne _ _ _ _ (by omega)).trans (by rw [w4 15 (by decide)]; exact n1 k hk)⟩
  have hcl := (clN_le 0 9 (by decide) (f (nm d t w i (ap i) l))).2
  rw [lX3_eatenBy_51.eq_2, if_neg (show ¬ (6 : Int32) ≤ nI i from nI_ge (a := i) (b := 6) (by omega) (by decide)), bit_c set (set64 hset hn) i (by omega), hb, if_neg (by decide), rc_12_0 hS.1, Option.bind_some, appetite_c hS.1 (by omega), Option.bind_some, if_neg (by decide)]
  dsimp only
  rw [rc_12_2 hS.1, Option.bind_some, hS.2.2.1, ha.1, h2, tellEater_eq hS.1, Option.bind_some, ← e1, rc_12_2 hB.1, Option.bind_some, hB.2.1, k1, dO_text ht0, Option.bind_some, Option.bind_some, hB.2.2.2 _ (by omega), e5, e6, w1, Option.bind_some, xlet_eq]
  unfold jX3_eatenBy_137
  dsimp only
  rw [xlet_eq, show (if (0 : Int32) < (if v < 9 then v else 9) then (if v < 9 then v else 9) else 0) = nI (clN 0 9 v.toInt) from cl_c 0 9 (by decide) (by decide) v, w2, h22, min_c (by omega) (by omega), nI_1]

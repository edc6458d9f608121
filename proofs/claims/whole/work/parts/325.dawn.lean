/-! A DAWN at one table, on a cake apart: both -/
def LW (Sc Sm : xS) (nS : Nat) (sl : Nat → Nat → Nat → Nat) (ea : Nat → Nat → Nat → Nat → Nat → Nat) : Prop := (∀ t d w, 1 ≤ sl t d w ∧ sl t d w ≤ 60) ∧ (∀ s t d w l, ea s t d w l ≤ l) ∧ SLc Sc sl ∧ SLm Sm sl ∧ EAc Sc nS ea ∧ EAm Sm nS ea ∧ nS ≤ 6 ∧ gI Sm 1 0 = nI nS
theorem RelW.law {Sc Sm : xS} (h : RelW RTx Sc Sm) {nS nT ns sc nx : Nat} (hV : RV Sc Sm 1 1 nS nT ns sc nx) : ∃ sl ea, LW Sc Sm nS sl ea := by
  obtain ⟨a1, a2, a3, a4, a5, a6, a7, a8, a9, a10, a11, a12, a13⟩ := hV
  obtain ⟨sl, s1, s2, s3⟩ := slices_law h
  obtain ⟨ea, e1, e2, e3⟩ := eats_law h a1.1 (fun s hs => ⟨(a11 s hs).1, (a11 s hs).2.2⟩)
  exact ⟨sl, ea, s1, e1, s2, s3, e2, e3, a1.1, a2.2⟩
def bakeD (d l h : Nat) : Nat := if l = 0 ∧ h = 0 ∧ d < 999 then d + 1 else d
def bakeL (sl : Nat → Nat → Nat → Nat) (t d l h w : Nat) : Nat := if l = 0 ∧ h = 0 ∧ d < 999 then sl t (d + 1) w else l
def dawnL (sl : Nat → Nat → Nat → Nat) (ea : Nat → Nat → Nat → Nat → Nat → Nat) (nS set t d l h w : Nat) : Nat := eatN ea set t (bakeD d l h) w nS (bakeL sl t d l h w)
theorem bakeD_lt {d l h : Nat} (hd : d < 1000) : bakeD d l h < 1000 := by unfold bakeD; split <;> omega
theorem bakeL_le {sl : Nat → Nat → Nat → Nat} (hsl : ∀ t d w, 1 ≤ sl t d w ∧ sl t d w ≤ 60) {t d l h w : Nat} (hl : l ≤ 60) : bakeL sl t d l h w ≤ 60 := by
  unfold bakeL
  split
  · exact (hsl _ _ _).2
  · exact hl
theorem dawnL_le {sl : Nat → Nat → Nat → Nat} (hsl : ∀ t d w, 1 ≤ sl t d w ∧ sl t d w ≤ 60) {ea : Nat → Nat → Nat → Nat → Nat → Nat} {nS set t d l h w : Nat} (hl : l ≤ 60) : dawnL sl ea nS set t d l h w ≤ 60 := Nat.le_trans (eatN_le _ _ _ _ _ _ _) (bakeL_le hsl hl)
/-- the class's cake, the reference's -/
def CK (q : Nat) (S : xS) (t d l h w : Nat) : Prop := gI S q 0 = nI t ∧ gI S q 1 = nI d ∧ gI S q 2 = nI l ∧ gI S q 3 = nI h ∧ gI S q 4 = nI w
def MK (S : xS) (t d l h set : Nat) : Prop := gI S 0 25 = nI t ∧ gI S 0 26 = nI d ∧ gI S 0 27 = nI l ∧ gI S 0 28 = nI h ∧ gI S 0 29 = nI set
def FrX (q : Nat) (S S' : xS) : Prop := S'.2 = S.2 ∧ ∀ c, c ≠ 15 → c ≠ 16 → c ≠ q → gI S' c = gI S c
def FrY (S S' : xS) : Prop := S'.2.2 = S.2.2 ∧ (∀ c, c ≠ 7 → S'.2.1 c = S.2.1 c) ∧ (∀ c, c ≠ 0 → c ≠ 6 → c ≠ 8 → gI S' c = gI S c) ∧ ∀ k, k < 25 ∨ 30 ≤ k → gI S' 0 k = gI S 0 k
theorem FrX.rfl' {q : Nat} {S : xS} : FrX q S S := ⟨rfl, fun _ _ _ _ => rfl⟩
theorem FrX.trans {q : Nat} {S S1 S2 : xS} (h : FrX q S S1) (g : FrX q S1 S2) : FrX q S S2 := ⟨g.1.trans h.1, fun c a b d => (g.2 c a b d).trans (h.2 c a b d)⟩
theorem FrY.rfl' {S : xS} : FrY S S := ⟨rfl, fun _ _ => rfl, fun _ _ _ _ => rfl, fun _ _ => rfl⟩
theorem FrY.trans {S S1 S2 : xS} (h : FrY S S1) (g : FrY S1 S2) : FrY S S2 := ⟨g.1.trans h.1, fun c a => (g.2.1 c a).trans (h.2.1 c a), fun c a b d => (g.2.2.1 c a b d).trans (h.2.2.1 c a b d), fun k hk => (g.2.2.2 k hk).trans (h.2.2.2 k hk)⟩
theorem FrX.cb {q : Nat} {Sc S S' : xS} (hq : q = 13 ∨ q = 18) (h : FrX q S S') (hB : CB Sc S) : CB Sc S' := hB.step (by rw [h.1]) (fun c hc => h.2 c (by omega) (by omega) (by omega))
theorem FrY.mb {Sm S S' : xS} (h : FrY S S') (hB : MB Sm S) : MB Sm S' := hB.step h.1 (fun c hc => h.2.2.1 c (by omega) (by omega) (by omega))
theorem FrX.pI {q : Nat} {S : xS} {k : Nat} {v : Int32} : FrX q S (pI S q k v) := ⟨rfl, fun c _ _ h => gIf_ne _ _ _ _ h⟩
theorem FrY.pI {S : xS} {k : Nat} {v : Int32} (hk : 25 ≤ k ∧ k < 30) : FrY S (pI S 0 k v) := ⟨rfl, fun _ _ => rfl, fun c h _ _ => gIf_ne _ _ _ _ h, fun j hj => gI_nk _ _ _ _ (by omega)⟩
theorem FrM.y {S S' : xS} (h : FrM S S') : FrY S S' := ⟨h.1, h.2.1, fun c _ a b => h.2.2 c a b, fun k _ => by rw [h.2.2 0 (by decide) (by decide)]⟩
theorem LW.dawn_c {Sc Sm : xS} {nS : Nat} {sl : Nat → Nat → Nat → Nat} {ea : Nat → Nat → Nat → Nat → Nat → Nat} (hL : LW Sc Sm nS sl ea) {S : xS} (hS : CB Sc S) {q t d l h w set : Nat} (hq : q = 13 ∨ q = 18) (ht : t < 2) (hd : d < 1000) (hl : l ≤ 60) (hh : h ≤ 60) (hw : w < 1999) (hset : set < 2 ^ nS) (hk : CK q S t d l h w) : ∃ S', mX3_dawnAt S 12 q (nI set) = some (nI (bakeL sl t d l h (w + 1) - dawnL sl ea nS set t d l h (w + 1)), S') ∧ CK q S' t (bakeD d l h) (dawnL sl ea nS set t d l h (w + 1)) h (w + 1) ∧ FrX q S S' := by
  obtain ⟨l1, l2, l3, l4, l5, l6, l7, l8⟩ := hL
  obtain ⟨k0, k1, k2, k3, k4⟩ := hk
  obtain ⟨S1, e1⟩ : ∃ z, z = pI S q 4 (nI (w + 1)) := ⟨_, rfl⟩
  have f1 : FrX q S S1 := by rw [e1]; exact FrX.pI
  have hB1 := f1.cb hq hS
  have g0 : gI S1 q 0 = nI t := by rw [e1, gI_nk _ _ _ _ (by decide)]; exact k0
  have g1 : gI S1 q 1 = nI d := by rw [e1, gI_nk _ _ _ _ (by decide)]; exact k1
  have g2 : gI S1 q 2 = nI l := by rw [e1, gI_nk _ _ _ _ (by decide)]; exact k2
  have g3 : gI S1 q 3 = nI h := by rw [e1, gI_nk _ _ _ _ (by decide)]; exact k3
  have g4 : gI S1 q 4 = nI (w + 1) := by rw [e1, gI_eq]
  have key : ∀ S2, CB Sc S2 → CK q S2 t (bakeD d l h) (bakeL sl t d l h (w + 1)) h (w + 1) → ∃ S', jX3_dawnAt_64 S2 12 q (nI set) = some (nI (bakeL sl t d l h (w + 1) - dawnL sl ea nS set t d l h (w + 1)), S') ∧ CK q S' t (bakeD d l h) (dawnL sl ea nS set t d l h (w + 1)) h (w + 1) ∧ FrX q S2 S' := by
    intro S2 hB2 hk2
    obtain ⟨S', p1, p2, p3, p4, p5⟩ := l5 S2 hB2 q t (bakeD d l h) (w + 1) (bakeL sl t d l h (w + 1)) set hq ht (bakeD_lt hd) (by omega) (bakeL_le l1 hl) hset hk2.1 hk2.2.1 hk2.2.2.1 hk2.2.2.2.2
    refine ⟨S', ?_, ⟨(p5 0 (by decide)).trans hk2.1, (p5 1 (by decide)).trans hk2.2.1, p4, (p5 3 (by decide)).trans hk2.2.2.2.1, (p5 4 (by decide)).trans hk2.2.2.2.2⟩, p2, p3⟩
    unfold jX3_dawnAt_64
    rw [p1]
    rfl
  unfold mX3_dawnAt
  rw [xlet_eq, k4, nI_1, ← e1, g2, g3, g1]
  by_cases hb : l = 0 ∧ h = 0 ∧ d < 999
  · obtain ⟨b1, b2, b3⟩ := hb
    subst b1 b2
    rw [if_pos (by decide), if_pos (by decide), if_neg (show ¬ (999 : Int32) ≤ nI d from nI_ge (a := d) (b := 999) b3 (by decide)), xlet_eq, nI_1]
    obtain ⟨S5, e5⟩ : ∃ z, z = pI S1 q 1 (nI (d + 1)) := ⟨_, rfl⟩
    have f5 : FrX q S1 S5 := by rw [e5]; exact FrX.pI
    have hB5 := f5.cb hq hB1
    obtain ⟨S6, q1, q2, q3⟩ := l3 S5 hB5 t (d + 1) (w + 1) ht (by omega) (by omega)
    have f6 : FrX q S5 S6 := ⟨q2, fun c a b _ => q3 c a b⟩
    have q5 : ∀ k, gI S6 q k = gI S5 q k := fun k => by rw [q3 q (by omega) (by omega)]
    have hD : bakeD d 0 0 = d + 1 := if_pos ⟨rfl, rfl, b3⟩
    have hBL : bakeL sl t d 0 0 (w + 1) = sl t (d + 1) (w + 1) := if_pos ⟨rfl, rfl, b3⟩
    obtain ⟨S', r1, r2, r3⟩ := key (pI S6 q 2 (nI (sl t (d + 1) (w + 1)))) ((FrX.pI (q := q)).cb hq (f6.cb hq hB5)) ⟨by rw [gI_nk _ _ _ _ (by decide), q5, e5, gI_nk _ _ _ _ (by decide)]; exact g0, by rw [gI_nk _ _ _ _ (by decide), q5, e5, gI_eq, hD], by rw [gI_eq, hBL], by rw [gI_nk _ _ _ _ (by decide), q5, e5, gI_nk _ _ _ _ (by decide)]; exact g3, by rw [gI_nk _ _ _ _ (by decide), q5, e5, gI_nk _ _ _ _ (by decide)]; exact g4⟩
    refine ⟨S', ?_, r2, f1.trans (f5.trans (f6.trans (FrX.pI.trans r3)))⟩
    rw [← e5, show gI S5 q 0 = nI t by rw [e5, gI_nk _ _ _ _ (by decide)]; exact g0, show gI S5 q 1 = nI (d + 1) by rw [e5, gI_eq], show gI S5 q 4 = nI (w + 1) by rw [e5, gI_nk _ _ _ _ (by decide)]; exact g4, q1, Option.bind_some, xlet_eq]
    exact r1
  · have hD : bakeD d l h = d := if_neg hb
    have hBL : bakeL sl t d l h (w + 1) = l := if_neg hb
    obtain ⟨S', r1, r2, r3⟩ := key S1 hB1 ⟨g0, by rw [hD]; exact g1, by rw [hBL]; exact g2, g3, g4⟩
    refine ⟨S', ?_, r2, f1.trans r3⟩
    by_cases b1 : l = 0
    · subst b1
      rw [if_pos (by decide)]
      by_cases b2 : h = 0
      · subst b2
        rw [if_pos (by decide), if_pos (show (999 : Int32) ≤ nI d from nI_le (a := 999) (by omega) (by omega))]
        exact r1
      · rw [if_neg (nI_ne0 (by omega) (by omega))]
        exact r1
    · rw [if_neg (nI_ne0 (by omega) (by omega))]
      exact r1
theorem LW.bake_m {Sc Sm : xS} {nS : Nat} {sl : Nat → Nat → Nat → Nat} {ea : Nat → Nat → Nat → Nat → Nat → Nat} (hL : LW Sc Sm nS sl ea) {S : xS} (hS : MB Sm S) {t d l h w set : Nat} (ht : t < 2) (hd : d < 1000) (hl : l ≤ 60) (hh : h ≤ 60) (hw : w < 2000) (hk : MK S t d l h set) : ∃ S', mX9_bake S 0 (nI w) = some S' ∧ MK S' t (bakeD d l h) (bakeL sl t d l h w) h set ∧ FrY S S' := by
  obtain ⟨l1, l2, l3, l4, l5, l6, l7, l8⟩ := hL
  obtain ⟨k0, k1, k2, k3, k4⟩ := id hk
  unfold mX9_bake
  rw [k2, k3, k1]
  by_cases hb : l = 0 ∧ h = 0 ∧ d < 999
  · obtain ⟨b1, b2, b3⟩ := hb
    subst b1 b2
    have hD : bakeD d 0 0 = d + 1 := if_pos ⟨rfl, rfl, b3⟩
    have hBL : bakeL sl t d 0 0 w = sl t (d + 1) w := if_pos ⟨rfl, rfl, b3⟩
    rw [if_neg (by decide), if_neg (by decide), if_neg (show ¬ nI d = (999 : Int32) from fun q => by have := (nI_eq (a := d) (b := 999) (by omega) (by decide)).mp q; omega), xlet_eq, nI_1]
    obtain ⟨S5, e5⟩ : ∃ z, z = pI S 0 26 (nI (d + 1)) := ⟨_, rfl⟩
    have f5 : FrY S S5 := by rw [e5]; exact FrY.pI (by decide)
    obtain ⟨S6, q1, q2⟩ := l4 S5 (f5.mb hS) t (d + 1) w ht (by omega) hw
    have q5 : ∀ k, gI S6 0 k = gI S5 0 k := fun k => by rw [q2.2.2 0 (by decide) (by decide)]
    refine ⟨pI S6 0 27 (nI (sl t (d + 1) w)), ?_, ⟨by rw [gI_nk _ _ _ _ (by decide), q5, e5, gI_nk _ _ _ _ (by decide)]; exact k0, by rw [gI_nk _ _ _ _ (by decide), q5, e5, gI_eq, hD], by rw [gI_eq, hBL], by rw [gI_nk _ _ _ _ (by decide), q5, e5, gI_nk _ _ _ _ (by decide)]; exact k3, by rw [gI_nk _ _ _ _ (by decide), q5, e5, gI_nk _ _ _ _ (by decide)]; exact k4⟩, f5.trans (q2.y.trans (FrY.pI (by decide)))⟩
    rw [← e5, show gI S5 0 25 = nI t by rw [e5, gI_nk _ _ _ _ (by decide)]; exact k0, show gI S5 0 26 = nI (d + 1) by rw [e5, gI_eq], q1]
    rfl
  · have hD : bakeD d l h = d := if_neg hb
    have hBL : bakeL sl t d l h w = l := if_neg hb
    refine ⟨S, ?_, by rw [hD, hBL]; exact hk, FrY.rfl'⟩
    by_cases b1 : l = 0
    · subst b1
      rw [if_neg (by decide)]
      by_cases b2 : h = 0
      · subst b2
        rw [if_neg (by decide), if_pos (show nI d = (999 : Int32) by rw [show d = 999 by omega]; rfl)]
      · rw [if_pos (show (0 : Int32) < nI h from nI_lt (a := 0) (by omega) (by omega))]
    · rw [if_pos (show (0 : Int32) < nI l from nI_lt (a := 0) (by omega) (by omega))]
theorem LW.eat_go {Sc Sm : xS} {nS : Nat} {sl : Nat → Nat → Nat → Nat} {ea : Nat → Nat → Nat → Nat → Nat → Nat} (hL : LW Sc Sm nS sl ea) {t d l h w set : Nat} {v2 : Int32} (ht : t < 2) (hd : d < 1000) (hl : l ≤ 60) (hw : w < 2000) (hset : set < 64) : ∀ e i n S, e + i = nS → e < n → MB Sm S → MK S t d (eatN ea set t d w i l) h set → ∃ S', lX9_eat_7 n S 0 (nI w) v2 (nI i) = some (v2 - nI (eatN ea set t d w nS l), S') ∧ MK S' t d (eatN ea set t d w nS l) h set ∧ FrY S S' := by
  obtain ⟨l1, l2, l3, l4, l5, l6, l7, l8⟩ := hL
  intro e
  induction e with
  | zero =>
    intro i n S hi hn hS hk
    obtain ⟨n, rfl⟩ : ∃ m, n = m + 1 := ⟨n - 1, by omega⟩
    have hi : i = nS := by omega
    subst hi
    refine ⟨S, ?_, hk, FrY.rfl'⟩
    rw [lX9_eat_7.eq_2, rm_0 hS.1, Option.bind_some, aI_lit (Y := Ym) (c := 1) (i := 0) 0 rfl (by decide) (by decide), Option.bind_some, hS.2.2.2.1, l8, if_pos (nI_le (Nat.le_refl _) (by omega)), hk.2.2.1]
  | succ e ih =>
    intro i n S hi hn hS hk
    obtain ⟨n, rfl⟩ : ∃ m, n = m + 1 := ⟨n - 1, by omega⟩
    obtain ⟨k0, k1, k2, k3, k4⟩ := id hk
    rw [lX9_eat_7.eq_2, rm_0 hS.1, Option.bind_some, aI_lit (Y := Ym) (c := 1) (i := 0) 0 rfl (by decide) (by decide), Option.bind_some, hS.2.2.2.1, l8, if_neg (nI_ge (by omega) (by omega))]
    unfold mX9_has
    rw [k4, bit_c set hset i (by omega)]
    by_cases hb : set.testBit i = true
    · have e1 : eatN ea set t d w (i + 1) l = eatN ea set t d w i l - ea i t d w (eatN ea set t d w i l) := if_pos hb
      have hll := eatN_le ea set t d w i l
      obtain ⟨S1, q1, q2⟩ := l6 S hS i t d w (eatN ea set t d w i l) (by omega) ht hd hw (by omega)
      have q5 : ∀ k, gI S1 0 k = gI S 0 k := fun k => by rw [q2.2.2 0 (by decide) (by decide)]
      obtain ⟨S2, e2⟩ : ∃ z, z = pI S1 0 27 (nI (eatN ea set t d w (i + 1) l)) := ⟨_, rfl⟩
      have f2 : FrY S S2 := q2.y.trans (by rw [e2]; exact FrY.pI (by decide))
      obtain ⟨S', r1, r2, r3⟩ := ih (i + 1) n S2 (by omega) (by omega) (f2.mb hS) ⟨by rw [e2, gI_nk _ _ _ _ (by decide), q5]; exact k0, by rw [e2, gI_nk _ _ _ _ (by decide), q5]; exact k1, by rw [e2, gI_eq], by rw [e2, gI_nk _ _ _ _ (by decide), q5]; exact k3, by rw [e2, gI_nk _ _ _ _ (by decide), q5]; exact k4⟩
      refine ⟨S', ?_, r2, f2.trans r3⟩
      rw [hb, if_pos rfl, if_pos rfl, Option.bind_some, if_neg n10]
      dsimp only
      rw [k0, k1, k2, q1, Option.bind_some, xlet_eq]
      dsimp only
      rw [pk_sub (l2 _ _ _ _ _), ← e1, ← e2, nI_1]
      exact r1
    · have hb : set.testBit i = false := by simpa using hb
      have e1 : eatN ea set t d w (i + 1) l = eatN ea set t d w i l := if_neg (by rw [hb]; decide)
      obtain ⟨S', r1, r2, r3⟩ := ih (i + 1) n S (by omega) (by omega) hS (by rw [e1]; exact hk)
      refine ⟨S', ?_, r2, r3⟩
      rw [hb, if_neg (show ¬ (if false = true then (1 : Int32) else 0) = 1 by decide), Option.bind_some, if_pos rfl, nI_1]
      exact r1
theorem LW.eat_m {Sc Sm : xS} {nS : Nat} {sl : Nat → Nat → Nat → Nat} {ea : Nat → Nat → Nat → Nat → Nat → Nat} (hL : LW Sc Sm nS sl ea) {S : xS} (hS : MB Sm S) {t d l h w set : Nat} (ht : t < 2) (hd : d < 1000) (hl : l ≤ 60) (hw : w < 2000) (hset : set < 64) (hk : MK S t d l h set) : ∃ S', mX9_eat S 0 (nI w) = some (nI (l - eatN ea set t d w nS l), S') ∧ MK S' t d (eatN ea set t d w nS l) h set ∧ FrY S S' := by
  have h7 := hL.2.2.2.2.2.2.1
  obtain ⟨S', r1, r2, r3⟩ := hL.eat_go (v2 := nI l) (h := h) ht hd hl hw hset nS 0 5000 S rfl (by omega) hS hk
  refine ⟨S', ?_, r2, r3⟩
  unfold mX9_eat
  rw [hk.2.2.1, show (0 : Int32) = nI 0 from rfl, r1, pk_sub (eatN_le _ _ _ _ _ _ _)]
def mouseL (m l : Nat) : Nat := if m = 0 then l else l - 1
theorem LW.goOn_m {Sc Sm : xS} {nS : Nat} {sl : Nat → Nat → Nat → Nat} {ea : Nat → Nat → Nat → Nat → Nat → Nat} (hL : LW Sc Sm nS sl ea) {S : xS} (hS : MB Sm S) {t d l h w set : Nat} (m : Nat) (hm : m < 2) (ht : t < 2) (hd : d < 1000) (hl : l ≤ 60) (hh : h ≤ 60) (hw : w < 2000) (hset : set < 64) (hk : MK S t d l h set) : ∃ S', mX9_goOn S 0 (nI w) (nI m) = some S' ∧ MK S' t (bakeD d l h) (mouseL m (dawnL sl ea nS set t d l h w)) h set ∧ FrY S S' := by
  obtain ⟨S1, b1, b2, b3⟩ := hL.bake_m hS ht hd hl hh hw hk
  obtain ⟨S2, c1, c2, c3⟩ := hL.eat_m (b3.mb hS) ht (bakeD_lt hd) (bakeL_le hL.1 hl) hw hset b2
  obtain ⟨k0, k1, k2, k3, k4⟩ := id c2
  have k2 : gI S2 0 27 = nI (dawnL sl ea nS set t d l h w) := k2
  have hle := dawnL_le hL.1 (ea := ea) (nS := nS) (set := set) (t := t) (d := d) (h := h) (w := w) hl
  unfold mX9_goOn
  rw [b1, Option.bind_some, c1, Option.bind_some]
  dsimp only
  rcases (show m = 0 ∨ m = 1 by omega) with rfl | rfl
  · exact ⟨S2, by rw [if_pos (by decide)], c2, b3.trans c3⟩
  · rw [if_neg (by decide), k2]
    by_cases hz : dawnL sl ea nS set t d l h w = 0
    · refine ⟨S2, by rw [hz, if_pos (by decide)], ?_, b3.trans c3⟩
      have e : mouseL 1 (dawnL sl ea nS set t d l h w) = dawnL sl ea nS set t d l h w := by rw [hz]; rfl
      rw [e]
      exact c2
    · refine ⟨pI S2 0 27 (nI (dawnL sl ea nS set t d l h w - 1)), by rw [if_neg (nI_nle (by omega) (by omega)), show (1 : Int32) = nI 1 from rfl, pk_sub (by omega)]; rfl, ⟨by rw [gI_nk _ _ _ _ (by decide)]; exact k0, by rw [gI_nk _ _ _ _ (by decide)]; exact k1, by rw [gI_eq]; rfl, by rw [gI_nk _ _ _ _ (by decide)]; exact k3, by rw [gI_nk _ _ _ _ (by decide)]; exact k4⟩, (b3.trans c3).trans (FrY.pI (by decide))⟩

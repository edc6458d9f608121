/-! THE RELATION: how the class's state and the reference's hang together -/
/-- a number of Int32 that is a natural number below B -/
def bd (x : Int32) (B : Nat) : Prop := ∃ v, v < B ∧ x = nI v
theorem bd.mono {x : Int32} {B C : Nat} (h : bd x B) (hBC : B ≤ C) : bd x C := by
  obtain ⟨v, h1, h2⟩ := h
  exact ⟨v, by omega, h2⟩
/-- a row of 14 (tables 0 .. 5, seats 6 .. 11, dawn 12, X 13), with nS sisters -/
def okRow (f : Nat → Int32) (nS : Nat) : Prop :=
  (∃ d l h, d < 1000 ∧ l + h ≤ 60 ∧ f 0 = nI d ∧ f 1 = nI l ∧ f 2 = nI h) ∧ (∃ d l h, d < 1000 ∧ l + h ≤ 60 ∧ f 3 = nI d ∧ f 4 = nI l ∧ f 5 = nI h) ∧
  (∀ s, s < 6 → bd (f (6 + s)) 3 ∧ (nS ≤ s → f (6 + s) = 2)) ∧ bd (f 12) 1000 ∧ bd (f 13) 30089
theorem okRow.congr {f g : Nat → Int32} {nS : Nat} (h : okRow f nS) (e : ∀ k, k < 14 → g k = f k) : okRow g nS := by
  obtain ⟨⟨d, l, q, h1, h2, h3, h4, h5⟩, ⟨d', l', q', g1, g2, g3, g4, g5⟩, hs, h12, h13⟩ := h
  refine ⟨⟨d, l, q, h1, h2, by rw [e 0 (by omega)]; exact h3, by rw [e 1 (by omega)]; exact h4, by rw [e 2 (by omega)]; exact h5⟩, ⟨d', l', q', g1, g2, by rw [e 3 (by omega)]; exact g3, by rw [e 4 (by omega)]; exact g4, by rw [e 5 (by omega)]; exact g5⟩, fun s hs6 => ?_, by rw [e 12 (by omega)]; exact h12, by rw [e 13 (by omega)]; exact h13⟩
  rw [e (6 + s) (by omega)]
  exact hs s hs6
/-- the place, in the ring of 30, of the j-th step that can be taken back (0: the oldest) -/
def rg (nx ns j : Nat) : Nat := (nx + 30 - ns + j) % 30
theorem rg_lt (nx ns j : Nat) : rg nx ns j < 30 := Nat.mod_lt _ (by decide)
/-- a convent of the class (its five cells o .. o + 4) and a row of the reference (cell am): nS sisters, nT texts, ns steps, sc seen, nx the ring's next -/
def RV (Sc Sm : xS) (o am nS nT ns sc nx : Nat) : Prop :=
  (nS ≤ 6 ∧ nT ≤ 4 ∧ ns ≤ 30 ∧ sc ≤ 8 ∧ nx < 30) ∧
  (gI Sc o 5 = nI nS ∧ gI Sm am 0 = nI nS) ∧ (gI Sc o 7 = nI nT ∧ gI Sm am 4 = nI nT) ∧ (gI Sc o 3 = nI ns ∧ gI Sm am 6 = nI ns) ∧ (gI Sc o 10 = nI sc ∧ gI Sm am 7 = nI sc) ∧ gI Sc o 2 = nI nx ∧
  (gI Sc o 6 = gI Sm am 2 ∧ bd (gI Sm am 2) 11) ∧ (gI Sc o 8 = gI Sm am 5 ∧ (gI Sm am 5 = -1 ∨ bd (gI Sm am 5) nT)) ∧
  okRow (gI Sc (o + 1)) nS ∧ (gI Sm am 1 = gI Sc (o + 1) 12 ∧ gI Sm am 3 = gI Sc (o + 1) 13 ∧ ∀ k, k < 6 → gI Sm am (10 + k) = gI Sc (o + 1) k) ∧
  (∀ s, s < nS → gI Sm am (16 + 2 * s) = gI Sc (o + 3) s ∧ gI Sm am (16 + 2 * s + 1) = gI Sc (o + 1) (6 + s) ∧ bd (gI Sc (o + 3) s) 10) ∧
  (∀ k, k < sc → gI Sm am (28 + k) = gI Sc (o + 4) k ∧ bd (gI Sc (o + 4) k) 61) ∧
  (∀ j, j < ns → ∃ hs, hs ≤ nS ∧ gI Sm am (36 + 15 * j) = nI hs ∧ okRow (fun k => gI Sc (o + 2) (rg nx ns j * 14 + k)) hs ∧ gI Sm am (36 + 15 * j + 1) = gI Sc (o + 2) (rg nx ns j * 14 + 12) ∧ gI Sm am (36 + 15 * j + 2) = gI Sc (o + 2) (rg nx ns j * 14 + 13) ∧ (∀ k, k < 6 → gI Sm am (36 + 15 * j + 3 + k) = gI Sc (o + 2) (rg nx ns j * 14 + k)) ∧ (∀ s, s < hs → gI Sm am (36 + 15 * j + 9 + s) = gI Sc (o + 2) (rg nx ns j * 14 + 6 + s)))
/-- it speaks of those cells alone -/
theorem RV.congr {Sc Sm Sc' Sm' : xS} {o am nS nT ns sc nx : Nat} (h : RV Sc Sm o am nS nT ns sc nx) (hc : ∀ i, i < 5 → Sc'.1 (o + i) = Sc.1 (o + i)) (hm : Sm'.1 am = Sm.1 am) : RV Sc' Sm' o am nS nT ns sc nx := by
  have e0 : Sc'.1 o = Sc.1 o := hc 0 (by omega)
  have e1 := hc 1 (by omega)
  have e2 := hc 2 (by omega)
  have e3 := hc 3 (by omega)
  have e4 := hc 4 (by omega)
  unfold RV gI at h ⊢
  rw [e0, e1, e2, e3, e4, hm]
  exact h
/-- the tape -/
def RTp (Sc Sm : xS) : Prop := ∃ len, len ≤ 300 ∧ gI Sc 23 1 = nI len ∧ gI Sm 0 4 = nI len ∧ ∀ k, k < len → gI Sc 24 k = gI Sm 4 k ∧ bd (gI Sm 4 k) 256
theorem RTp.congr {Sc Sm Sc' Sm' : xS} (h : RTp Sc Sm) (h1 : gI Sc' 23 1 = gI Sc 23 1) (h2 : gI Sm' 0 4 = gI Sm 0 4) (h3 : Sc'.1 24 = Sc.1 24) (h4 : Sm'.1 4 = Sm.1 4) : RTp Sc' Sm' := by
  obtain ⟨len, g1, g2, g3, g4⟩ := h
  refine ⟨len, g1, h1.trans g2, h2.trans g3, ?_⟩
  unfold gI at g4 ⊢
  rw [h3, h4]
  exact g4
/-- the latest FAULT -/
def RFt (Sc Sm : xS) : Prop := (gI Sc 25 3 = 0 ∧ gI Sm 0 5 = -1 ∧ gI Sm 0 6 = -1) ∨ (gI Sc 25 3 = 1 ∧ gI Sc 25 4 = gI Sm 0 5 ∧ gI Sc 25 5 = gI Sm 0 6)
/-- references of the class that do change: the ruling law (none, or the text whose number rules), the two rows of chances -/
def RKd (Sc : xS) : Prop := ((gI Sc 1 8 = -1 ∧ gR Sc 12 3 = none) ∨ ∃ t, t < 4 ∧ gI Sc 1 8 = nI t ∧ gR Sc 12 3 = some (26 + 6 * t)) ∧ ((gR Sc 17 5 = some 21 ∧ gR Sc 17 6 = some 22) ∨ (gR Sc 17 5 = some 22 ∧ gR Sc 17 6 = some 21))

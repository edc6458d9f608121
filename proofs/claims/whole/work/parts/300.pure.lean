/-! THE PURE PART: what a state reads behind a writing -/
theorem gI_pI (S : xS) (c k : Nat) (v : Int32) (c' k' : Nat) : gI (pI S c k v) c' k' = if c' = c ∧ k' = k then v else gI S c' k' := by
  unfold gI pI x2
  dsimp only
  by_cases h1 : c' = c
  · by_cases h2 : k' = k
    · rw [if_pos h1, if_pos h2, if_pos ⟨h1, h2⟩]
    · rw [if_pos h1, if_neg h2, if_neg (fun h => h2 h.2)]
  · rw [if_neg h1, if_neg (fun h => h1 h.1)]
theorem gI_ne (S : xS) (c k : Nat) (v : Int32) {c' k' : Nat} (h : c' ≠ c) : gI (pI S c k v) c' k' = gI S c' k' := by rw [gI_pI, if_neg (fun q => h q.1)]
theorem gI_eq (S : xS) (c k : Nat) (v : Int32) : gI (pI S c k v) c k = v := by rw [gI_pI, if_pos ⟨rfl, rfl⟩]
theorem gI_nk (S : xS) (c k : Nat) (v : Int32) {c' k' : Nat} (h : k' ≠ k) : gI (pI S c k v) c' k' = gI S c' k' := by rw [gI_pI, if_neg (fun q => h q.2)]
theorem gR_pI (S : xS) (c k : Nat) (v : Int32) (c' k' : Nat) : gR (pI S c k v) c' k' = gR S c' k' := rfl
theorem gJ_pI (S : xS) (c k : Nat) (v : Int32) (c' k' : Nat) : gJ (pI S c k v) c' k' = gJ S c' k' := rfl
theorem gI_pJ (S : xS) (c k : Nat) (v : Int64) (c' k' : Nat) : gI (pJ S c k v) c' k' = gI S c' k' := rfl
theorem gR_pJ (S : xS) (c k : Nat) (v : Int64) (c' k' : Nat) : gR (pJ S c k v) c' k' = gR S c' k' := rfl
theorem gI_pR (S : xS) (c k : Nat) (v : Option Nat) (c' k' : Nat) : gI (pR S c k v) c' k' = gI S c' k' := rfl
theorem gJ_pR (S : xS) (c k : Nat) (v : Option Nat) (c' k' : Nat) : gJ (pR S c k v) c' k' = gJ S c' k' := rfl
theorem gJ_pJ (S : xS) (c k : Nat) (v : Int64) (c' k' : Nat) : gJ (pJ S c k v) c' k' = if c' = c ∧ k' = k then v else gJ S c' k' := by
  unfold gJ pJ x2
  dsimp only
  by_cases h1 : c' = c
  · by_cases h2 : k' = k
    · rw [if_pos h1, if_pos h2, if_pos ⟨h1, h2⟩]
    · rw [if_pos h1, if_neg h2, if_neg (fun h => h2 h.2)]
  · rw [if_neg h1, if_neg (fun h => h1 h.1)]
theorem gR_pR (S : xS) (c k : Nat) (v : Option Nat) (c' k' : Nat) : gR (pR S c k v) c' k' = if c' = c ∧ k' = k then v else gR S c' k' := by
  unfold gR pR x2
  dsimp only
  by_cases h1 : c' = c
  · by_cases h2 : k' = k
    · rw [if_pos h1, if_pos h2, if_pos ⟨h1, h2⟩]
    · rw [if_pos h1, if_neg h2, if_neg (fun h => h2 h.2)]
  · rw [if_neg h1, if_neg (fun h => h1 h.1)]
theorem aI_nI {Y : xY} {S : xS} {c i : Nat} (h : i < xn Y c) (h2 : xn Y c < 2 ^ 31) : aI Y S c (nI i) = some (gI S c i) := by
  unfold aI
  rw [if_neg (nI_in h h2), nI_clamp (by omega)]
theorem sI_nI {Y : xY} {S : xS} {c i : Nat} {v : Int32} (h : i < xn Y c) (h2 : xn Y c < 2 ^ 31) : sI Y S c (nI i) v = some (pI S c i v) := by
  unfold sI
  rw [if_neg (nI_in h h2), nI_clamp (by omega)]
theorem aJ_nI {Y : xY} {S : xS} {c i : Nat} (h : i < xn Y c) (h2 : xn Y c < 2 ^ 31) : aJ Y S c (nI i) = some (gJ S c i) := by
  unfold aJ
  rw [if_neg (nI_in h h2), nI_clamp (by omega)]
theorem sJ_nI {Y : xY} {S : xS} {c i : Nat} {v : Int64} (h : i < xn Y c) (h2 : xn Y c < 2 ^ 31) : sJ Y S c (nI i) v = some (pJ S c i v) := by
  unfold sJ
  rw [if_neg (nI_in h h2), nI_clamp (by omega)]
theorem xlet_eq {α β : Type} (a : α) (f : α → Option β) : xlet a f = f a := rfl
theorem isIn_eq (S : xS) (v lo hi : Int32) : mX9_isIn S v lo hi = some (if v < lo ∨ hi < v then 0 else 1, S) := by
  unfold mX9_isIn
  by_cases h1 : v < lo
  · rw [if_pos h1, if_pos (Or.inl h1)]
  · by_cases h2 : hi < v
    · rw [if_neg h1, if_pos h2, if_pos (Or.inr h2)]
    · rw [if_neg h1, if_neg h2, if_neg (fun h => h.elim h1 h2)]
/-- the class's references that never change -/
def RCr (S : xS) : Prop := gR S 0 0 = some 1 ∧ gR S 0 1 = some 6 ∧ gR S 0 2 = some 11 ∧ gR S 0 3 = some 12 ∧ gR S 0 4 = some 17 ∧ gR S 0 5 = some 23 ∧ gR S 0 6 = some 25 ∧ gR S 1 0 = some 2 ∧ gR S 1 1 = some 3 ∧ gR S 1 4 = some 4 ∧ gR S 1 9 = some 5 ∧ gR S 6 0 = some 7 ∧ gR S 6 1 = some 8 ∧ gR S 6 4 = some 9 ∧ gR S 6 9 = some 10 ∧ gR S 11 0 = some 26 ∧ gR S 11 1 = some 32 ∧ gR S 11 2 = some 38 ∧ gR S 11 3 = some 44 ∧ gR S 12 0 = some 1 ∧ gR S 12 1 = some 13 ∧ gR S 12 2 = some 14 ∧ gR S 14 0 = some 15 ∧ gR S 14 1 = some 16 ∧ gR S 17 0 = some 1 ∧ gR S 17 1 = some 12 ∧ gR S 17 2 = some 18 ∧ gR S 17 3 = some 19 ∧ gR S 17 4 = some 20 ∧ gR S 23 0 = some 24 ∧ gR S 25 0 = some 23 ∧ gR S 26 0 = some 27 ∧ gR S 26 1 = some 28 ∧ gR S 26 7 = some 29 ∧ gR S 26 8 = some 30 ∧ gR S 26 9 = some 31 ∧ gR S 32 0 = some 33 ∧ gR S 32 1 = some 34 ∧ gR S 32 7 = some 35 ∧ gR S 32 8 = some 36 ∧ gR S 32 9 = some 37 ∧ gR S 38 0 = some 39 ∧ gR S 38 1 = some 40 ∧ gR S 38 7 = some 41 ∧ gR S 38 8 = some 42 ∧ gR S 38 9 = some 43 ∧ gR S 44 0 = some 45 ∧ gR S 44 1 = some 46 ∧ gR S 44 7 = some 47 ∧ gR S 44 8 = some 48 ∧ gR S 44 9 = some 49
theorem RCr0 : RCr Sc0 := by unfold RCr; exact ⟨rfl, rfl, rfl, rfl, rfl, rfl, rfl, rfl, rfl, rfl, rfl, rfl, rfl, rfl, rfl, rfl, rfl, rfl, rfl, rfl, rfl, rfl, rfl, rfl, rfl, rfl, rfl, rfl, rfl, rfl, rfl, rfl, rfl, rfl, rfl, rfl, rfl, rfl, rfl, rfl, rfl, rfl, rfl, rfl, rfl, rfl, rfl, rfl, rfl, rfl, rfl⟩
theorem RCr.ofR {S S' : xS} (e : S'.2.2 = S.2.2) (h : RCr S) : RCr S' := by
  unfold RCr gR at h ⊢
  rw [e]
  exact h
theorem rc_0_0 {S : xS} (h : RCr S) : dO Yc (gR S 0 0) 1 = some 1 := by
  rw [h.1]
  rfl
theorem rc_0_1 {S : xS} (h : RCr S) : dO Yc (gR S 0 1) 1 = some 6 := by
  rw [h.2.1]
  rfl
theorem rc_0_2 {S : xS} (h : RCr S) : dO Yc (gR S 0 2) 13 = some 11 := by
  rw [h.2.2.1]
  rfl
theorem rc_0_3 {S : xS} (h : RCr S) : dO Yc (gR S 0 3) 3 = some 12 := by
  rw [h.2.2.2.1]
  rfl
theorem rc_0_4 {S : xS} (h : RCr S) : dO Yc (gR S 0 4) 2 = some 17 := by
  rw [h.2.2.2.2.1]
  rfl
theorem rc_0_5 {S : xS} (h : RCr S) : dO Yc (gR S 0 5) 7 = some 23 := by
  rw [h.2.2.2.2.2.1]
  rfl
theorem rc_0_6 {S : xS} (h : RCr S) : dO Yc (gR S 0 6) 4 = some 25 := by
  rw [h.2.2.2.2.2.2.1]
  rfl
theorem rc_1_0 {S : xS} (h : RCr S) : dO Yc (gR S 1 0) 10 = some 2 := by
  rw [h.2.2.2.2.2.2.2.1]
  rfl
theorem rc_1_1 {S : xS} (h : RCr S) : dO Yc (gR S 1 1) 10 = some 3 := by
  rw [h.2.2.2.2.2.2.2.2.1]
  rfl
theorem rc_1_4 {S : xS} (h : RCr S) : dO Yc (gR S 1 4) 10 = some 4 := by
  rw [h.2.2.2.2.2.2.2.2.2.1]
  rfl
theorem rc_1_9 {S : xS} (h : RCr S) : dO Yc (gR S 1 9) 10 = some 5 := by
  rw [h.2.2.2.2.2.2.2.2.2.2.1]
  rfl
theorem rc_6_0 {S : xS} (h : RCr S) : dO Yc (gR S 6 0) 10 = some 7 := by
  rw [h.2.2.2.2.2.2.2.2.2.2.2.1]
  rfl
theorem rc_6_1 {S : xS} (h : RCr S) : dO Yc (gR S 6 1) 10 = some 8 := by
  rw [h.2.2.2.2.2.2.2.2.2.2.2.2.1]
  rfl
theorem rc_6_4 {S : xS} (h : RCr S) : dO Yc (gR S 6 4) 10 = some 9 := by
  rw [h.2.2.2.2.2.2.2.2.2.2.2.2.2.1]
  rfl
theorem rc_6_9 {S : xS} (h : RCr S) : dO Yc (gR S 6 9) 10 = some 10 := by
  rw [h.2.2.2.2.2.2.2.2.2.2.2.2.2.2.1]
  rfl
theorem rt_0 {S : xS} (h : RCr S) : gR S 11 0 = some 26 := h.2.2.2.2.2.2.2.2.2.2.2.2.2.2.2.1
theorem rt_1 {S : xS} (h : RCr S) : gR S 11 1 = some 32 := h.2.2.2.2.2.2.2.2.2.2.2.2.2.2.2.2.1
theorem rt_2 {S : xS} (h : RCr S) : gR S 11 2 = some 38 := h.2.2.2.2.2.2.2.2.2.2.2.2.2.2.2.2.2.1
theorem rt_3 {S : xS} (h : RCr S) : gR S 11 3 = some 44 := h.2.2.2.2.2.2.2.2.2.2.2.2.2.2.2.2.2.2.1
theorem rc_12_0 {S : xS} (h : RCr S) : dO Yc (gR S 12 0) 1 = some 1 := by
  rw [h.2.2.2.2.2.2.2.2.2.2.2.2.2.2.2.2.2.2.2.1]
  rfl
theorem rc_12_1 {S : xS} (h : RCr S) : dO Yc (gR S 12 1) 0 = some 13 := by
  rw [h.2.2.2.2.2.2.2.2.2.2.2.2.2.2.2.2.2.2.2.2.1]
  rfl
theorem rc_12_2 {S : xS} (h : RCr S) : dO Yc (gR S 12 2) 5 = some 14 := by
  rw [h.2.2.2.2.2.2.2.2.2.2.2.2.2.2.2.2.2.2.2.2.2.1]
  rfl
theorem rc_14_0 {S : xS} (h : RCr S) : dO Yc (gR S 14 0) 10 = some 15 := by
  rw [h.2.2.2.2.2.2.2.2.2.2.2.2.2.2.2.2.2.2.2.2.2.2.1]
  rfl
theorem rc_14_1 {S : xS} (h : RCr S) : dO Yc (gR S 14 1) 10 = some 16 := by
  rw [h.2.2.2.2.2.2.2.2.2.2.2.2.2.2.2.2.2.2.2.2.2.2.2.1]
  rfl
theorem rc_17_0 {S : xS} (h : RCr S) : dO Yc (gR S 17 0) 1 = some 1 := by
  rw [h.2.2.2.2.2.2.2.2.2.2.2.2.2.2.2.2.2.2.2.2.2.2.2.2.1]
  rfl
theorem rc_17_1 {S : xS} (h : RCr S) : dO Yc (gR S 17 1) 3 = some 12 := by
  rw [h.2.2.2.2.2.2.2.2.2.2.2.2.2.2.2.2.2.2.2.2.2.2.2.2.2.1]
  rfl
theorem rc_17_2 {S : xS} (h : RCr S) : dO Yc (gR S 17 2) 0 = some 18 := by
  rw [h.2.2.2.2.2.2.2.2.2.2.2.2.2.2.2.2.2.2.2.2.2.2.2.2.2.2.1]
  rfl
theorem rc_17_3 {S : xS} (h : RCr S) : dO Yc (gR S 17 3) 10 = some 19 := by
  rw [h.2.2.2.2.2.2.2.2.2.2.2.2.2.2.2.2.2.2.2.2.2.2.2.2.2.2.2.1]
  rfl
theorem rc_17_4 {S : xS} (h : RCr S) : dO Yc (gR S 17 4) 10 = some 20 := by
  rw [h.2.2.2.2.2.2.2.2.2.2.2.2.2.2.2.2.2.2.2.2.2.2.2.2.2.2.2.2.1]
  rfl
theorem rc_23_0 {S : xS} (h : RCr S) : dO Yc (gR S 23 0) 10 = some 24 := by
  rw [h.2.2.2.2.2.2.2.2.2.2.2.2.2.2.2.2.2.2.2.2.2.2.2.2.2.2.2.2.2.1]
  rfl
theorem rc_25_0 {S : xS} (h : RCr S) : dO Yc (gR S 25 0) 7 = some 23 := by
  rw [h.2.2.2.2.2.2.2.2.2.2.2.2.2.2.2.2.2.2.2.2.2.2.2.2.2.2.2.2.2.2.1]
  rfl
theorem rc_26_0 {S : xS} (h : RCr S) : dO Yc (gR S 26 0) 10 = some 27 := by
  rw [h.2.2.2.2.2.2.2.2.2.2.2.2.2.2.2.2.2.2.2.2.2.2.2.2.2.2.2.2.2.2.2.1]
  rfl
theorem rc_26_1 {S : xS} (h : RCr S) : dO Yc (gR S 26 1) 10 = some 28 := by
  rw [h.2.2.2.2.2.2.2.2.2.2.2.2.2.2.2.2.2.2.2.2.2.2.2.2.2.2.2.2.2.2.2.2.1]
  rfl
theorem rc_26_7 {S : xS} (h : RCr S) : dO Yc (gR S 26 7) 10 = some 29 := by
  rw [h.2.2.2.2.2.2.2.2.2.2.2.2.2.2.2.2.2.2.2.2.2.2.2.2.2.2.2.2.2.2.2.2.2.1]
  rfl
theorem rc_26_8 {S : xS} (h : RCr S) : dO Yc (gR S 26 8) 10 = some 30 := by
  rw [h.2.2.2.2.2.2.2.2.2.2.2.2.2.2.2.2.2.2.2.2.2.2.2.2.2.2.2.2.2.2.2.2.2.2.1]
  rfl
theorem rc_26_9 {S : xS} (h : RCr S) : dO Yc (gR S 26 9) 10 = some 31 := by
  rw [h.2.2.2.2.2.2.2.2.2.2.2.2.2.2.2.2.2.2.2.2.2.2.2.2.2.2.2.2.2.2.2.2.2.2.2.1]
  rfl
theorem rc_32_0 {S : xS} (h : RCr S) : dO Yc (gR S 32 0) 10 = some 33 := by
  rw [h.2.2.2.2.2.2.2.2.2.2.2.2.2.2.2.2.2.2.2.2.2.2.2.2.2.2.2.2.2.2.2.2.2.2.2.2.1]
  rfl
theorem rc_32_1 {S : xS} (h : RCr S) : dO Yc (gR S 32 1) 10 = some 34 := by
  rw [h.2.2.2.2.2.2.2.2.2.2.2.2.2.2.2.2.2.2.2.2.2.2.2.2.2.2.2.2.2.2.2.2.2.2.2.2.2.1]
  rfl
theorem rc_32_7 {S : xS} (h : RCr S) : dO Yc (gR S 32 7) 10 = some 35 := by
  rw [h.2.2.2.2.2.2.2.2.2.2.2.2.2.2.2.2.2.2.2.2.2.2.2.2.2.2.2.2.2.2.2.2.2.2.2.2.2.2.1]
  rfl
theorem rc_32_8 {S : xS} (h : RCr S) : dO Yc (gR S 32 8) 10 = some 36 := by
  rw [h.2.2.2.2.2.2.2.2.2.2.2.2.2.2.2.2.2.2.2.2.2.2.2.2.2.2.2.2.2.2.2.2.2.2.2.2.2.2.2.1]
  rfl
theorem rc_32_9 {S : xS} (h : RCr S) : dO Yc (gR S 32 9) 10 = some 37 := by
  rw [h.2.2.2.2.2.2.2.2.2.2.2.2.2.2.2.2.2.2.2.2.2.2.2.2.2.2.2.2.2.2.2.2.2.2.2.2.2.2.2.2.1]
  rfl
theorem rc_38_0 {S : xS} (h : RCr S) : dO Yc (gR S 38 0) 10 = some 39 := by
  rw [h.2.2.2.2.2.2.2.2.2.2.2.2.2.2.2.2.2.2.2.2.2.2.2.2.2.2.2.2.2.2.2.2.2.2.2.2.2.2.2.2.2.1]
  rfl
theorem rc_38_1 {S : xS} (h : RCr S) : dO Yc (gR S 38 1) 10 = some 40 := by
  rw [h.2.2.2.2.2.2.2.2.2.2.2.2.2.2.2.2.2.2.2.2.2.2.2.2.2.2.2.2.2.2.2.2.2.2.2.2.2.2.2.2.2.2.1]
  rfl
theorem rc_38_7 {S : xS} (h : RCr S) : dO Yc (gR S 38 7) 10 = some 41 := by
  rw [h.2.2.2.2.2.2.2.2.2.2.2.2.2.2.2.2.2.2.2.2.2.2.2.2.2.2.2.2.2.2.2.2.2.2.2.2.2.2.2.2.2.2.2.1]
  rfl
theorem rc_38_8 {S : xS} (h : RCr S) : dO Yc (gR S 38 8) 10 = some 42 := by
  rw [h.2.2.2.2.2.2.2.2.2.2.2.2.2.2.2.2.2.2.2.2.2.2.2.2.2.2.2.2.2.2.2.2.2.2.2.2.2.2.2.2.2.2.2.2.1]
  rfl
theorem rc_38_9 {S : xS} (h : RCr S) : dO Yc (gR S 38 9) 10 = some 43 := by
  rw [h.2.2.2.2.2.2.2.2.2.2.2.2.2.2.2.2.2.2.2.2.2.2.2.2.2.2.2.2.2.2.2.2.2.2.2.2.2.2.2.2.2.2.2.2.2.1]
  rfl
theorem rc_44_0 {S : xS} (h : RCr S) : dO Yc (gR S 44 0) 10 = some 45 := by
  rw [h.2.2.2.2.2.2.2.2.2.2.2.2.2.2.2.2.2.2.2.2.2.2.2.2.2.2.2.2.2.2.2.2.2.2.2.2.2.2.2.2.2.2.2.2.2.2.1]
  rfl
theorem rc_44_1 {S : xS} (h : RCr S) : dO Yc (gR S 44 1) 10 = some 46 := by
  rw [h.2.2.2.2.2.2.2.2.2.2.2.2.2.2.2.2.2.2.2.2.2.2.2.2.2.2.2.2.2.2.2.2.2.2.2.2.2.2.2.2.2.2.2.2.2.2.2.1]
  rfl
theorem rc_44_7 {S : xS} (h : RCr S) : dO Yc (gR S 44 7) 10 = some 47 := by
  rw [h.2.2.2.2.2.2.2.2.2.2.2.2.2.2.2.2.2.2.2.2.2.2.2.2.2.2.2.2.2.2.2.2.2.2.2.2.2.2.2.2.2.2.2.2.2.2.2.2.1]
  rfl
theorem rc_44_8 {S : xS} (h : RCr S) : dO Yc (gR S 44 8) 10 = some 48 := by
  rw [h.2.2.2.2.2.2.2.2.2.2.2.2.2.2.2.2.2.2.2.2.2.2.2.2.2.2.2.2.2.2.2.2.2.2.2.2.2.2.2.2.2.2.2.2.2.2.2.2.2.1]
  rfl
theorem rc_44_9 {S : xS} (h : RCr S) : dO Yc (gR S 44 9) 10 = some 49 := by
  rw [h.2.2.2.2.2.2.2.2.2.2.2.2.2.2.2.2.2.2.2.2.2.2.2.2.2.2.2.2.2.2.2.2.2.2.2.2.2.2.2.2.2.2.2.2.2.2.2.2.2.2]
  rfl
/-- the reference's -/
def RMr (S : xS) : Prop := gR S 0 0 = some 1 ∧ gR S 0 1 = some 2 ∧ gR S 0 2 = some 3 ∧ gR S 0 3 = some 4 ∧ gR S 0 16 = some 5 ∧ gR S 0 22 = some 6 ∧ gR S 0 23 = some 7 ∧ gR S 0 24 = some 8 ∧ gR S 0 30 = some 9 ∧ gR S 0 31 = some 10 ∧ gR S 0 32 = some 11
theorem RMr1 : RMr Sm1 := by unfold RMr; exact ⟨rfl, rfl, rfl, rfl, rfl, rfl, rfl, rfl, rfl, rfl, rfl⟩
theorem RMr.ofR {S S' : xS} (e : S'.2.2 = S.2.2) (h : RMr S) : RMr S' := by
  unfold RMr gR at h ⊢
  rw [e]
  exact h
theorem rm_0 {S : xS} (h : RMr S) : dO Ym (gR S 0 0) 10 = some 1 := by
  rw [h.1]
  rfl
theorem rm_1 {S : xS} (h : RMr S) : dO Ym (gR S 0 1) 10 = some 2 := by
  rw [h.2.1]
  rfl
theorem rm_2 {S : xS} (h : RMr S) : dO Ym (gR S 0 2) 10 = some 3 := by
  rw [h.2.2.1]
  rfl
theorem rm_3 {S : xS} (h : RMr S) : dO Ym (gR S 0 3) 10 = some 4 := by
  rw [h.2.2.2.1]
  rfl
theorem rm_16 {S : xS} (h : RMr S) : dO Ym (gR S 0 16) 10 = some 5 := by
  rw [h.2.2.2.2.1]
  rfl
theorem rm_22 {S : xS} (h : RMr S) : dO Ym (gR S 0 22) 10 = some 6 := by
  rw [h.2.2.2.2.2.1]
  rfl
theorem rm_23 {S : xS} (h : RMr S) : dO Ym (gR S 0 23) 11 = some 7 := by
  rw [h.2.2.2.2.2.2.1]
  rfl
theorem rm_24 {S : xS} (h : RMr S) : dO Ym (gR S 0 24) 12 = some 8 := by
  rw [h.2.2.2.2.2.2.2.1]
  rfl
theorem rm_30 {S : xS} (h : RMr S) : dO Ym (gR S 0 30) 11 = some 9 := by
  rw [h.2.2.2.2.2.2.2.2.1]
  rfl
theorem rm_31 {S : xS} (h : RMr S) : dO Ym (gR S 0 31) 11 = some 10 := by
  rw [h.2.2.2.2.2.2.2.2.2.1]
  rfl
theorem rm_32 {S : xS} (h : RMr S) : dO Ym (gR S 0 32) 10 = some 11 := by
  rw [h.2.2.2.2.2.2.2.2.2.2]
  rfl

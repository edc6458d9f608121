/-! THE POOL: a fixed row of cells (ids 0 ..), each of a known kind (0 .. 9: an object of vwCl's class; 10 int, 11 long, 12 boolean, 13 Text arrays) and length. A state S: ints, longs, references by (cell, place). -/
abbrev xS : Type := (Nat → Nat → Int32) × (Nat → Nat → Int64) × (Nat → Nat → Option Nat)
abbrev xY : Type := List (Nat × Nat)
def xk (Y : xY) (c : Nat) : Nat := (Y.getD c (99, 0)).1
def xn (Y : xY) (c : Nat) : Nat := (Y.getD c (99, 0)).2
def x2 {α : Type} (f : Nat → Nat → α) (c k : Nat) (v : α) : Nat → Nat → α := fun c' k' => if c' = c then (if k' = k then v else f c' k') else f c' k'
def gI (S : xS) (c k : Nat) : Int32 := S.1 c k
def gJ (S : xS) (c k : Nat) : Int64 := S.2.1 c k
def gR (S : xS) (c k : Nat) : Option Nat := S.2.2 c k
def pI (S : xS) (c k : Nat) (v : Int32) : xS := (x2 S.1 c k v, S.2)
def pJ (S : xS) (c k : Nat) (v : Int64) : xS := (S.1, x2 S.2.1 c k v, S.2.2)
def pR (S : xS) (c k : Nat) (v : Option Nat) : xS := (S.1, S.2.1, x2 S.2.2 c k v)
/-- a place of a row is looked at, is written -/
def aI (Y : xY) (S : xS) (c : Nat) (i : Int32) : Option Int32 := if i < 0 ∨ xn Y c ≤ i.toNatClampNeg then none else some (gI S c i.toNatClampNeg)
def aJ (Y : xY) (S : xS) (c : Nat) (i : Int32) : Option Int64 := if i < 0 ∨ xn Y c ≤ i.toNatClampNeg then none else some (gJ S c i.toNatClampNeg)
def aR (Y : xY) (S : xS) (c : Nat) (i : Int32) : Option (Option Nat) := if i < 0 ∨ xn Y c ≤ i.toNatClampNeg then none else some (gR S c i.toNatClampNeg)
def sI (Y : xY) (S : xS) (c : Nat) (i v : Int32) : Option xS := if i < 0 ∨ xn Y c ≤ i.toNatClampNeg then none else some (pI S c i.toNatClampNeg v)
def sJ (Y : xY) (S : xS) (c : Nat) (i : Int32) (v : Int64) : Option xS := if i < 0 ∨ xn Y c ≤ i.toNatClampNeg then none else some (pJ S c i.toNatClampNeg v)
/-- a number that is a truth -/
def zk (v : Int32) : Option Int32 := if v = 0 ∨ v = 1 then some v else none
/-- a reference that is an object (a row) of the kind ci -/
def dO (Y : xY) (r : Option Nat) (ci : Nat) : Option Nat := match r with
  | some d => if xk Y d = ci then some d else none
  | none => none
def cpI (Y : xY) (S : xS) (a : Nat) (sp : Int32) (b : Nat) (dp n : Int32) : Option xS := if sp < 0 ∨ dp < 0 ∨ n < 0 ∨ xn Y a < sp.toNatClampNeg + n.toNatClampNeg ∨ xn Y b < dp.toNatClampNeg + n.toNatClampNeg then none else some (fun c => if c = b then va_cpy (S.1 a) (S.1 b) sp.toNatClampNeg dp.toNatClampNeg n.toNatClampNeg else S.1 c, S.2)
def xlet {α β : Type} (a : α) (f : α → Option β) : Option β := f a
theorem xlet_ex {α β : Type} {a : α} {f : α → Option β} {r : Option β} (h : xlet a f = r) : ∃ z, z = a ∧ f z = r := ⟨a, rfl, h⟩
theorem xb {α β : Type} {x : Option α} {f : α → Option β} {y : β} (h : x.bind f = some y) : ∃ a, x = some a ∧ f a = some y := by
  cases x with
  | none => cases h
  | some a => exact ⟨a, rfl, h⟩
theorem dO_k {Y : xY} {r : Option Nat} {ci d : Nat} (h : dO Y r ci = some d) : xk Y d = ci := by
  cases r with
  | none => cases h
  | some q =>
    unfold dO at h
    dsimp only at h
    split at h
    · next h1 => cases h; exact h1
    · cases h
theorem dO_r {Y : xY} {r : Option Nat} {ci d : Nat} (h : dO Y r ci = some d) : r = some d := by
  cases r with
  | none => cases h
  | some q =>
    unfold dO at h
    dsimp only at h
    split at h
    · cases h; rfl
    · cases h
theorem zk_v {v w : Int32} (h : zk v = some w) : w = v ∧ (v = 0 ∨ v = 1) := by
  unfold zk at h
  split at h
  · next h1 => cases h; exact ⟨rfl, h1⟩
  · cases h
theorem aI_v {Y : xY} {S : xS} {c : Nat} {i v : Int32} (h : aI Y S c i = some v) : vp_in i (xn Y c) ∧ gI S c i.toNatClampNeg = v := by
  unfold aI at h
  split at h
  · cases h
  · next h1 => cases h; exact ⟨h1, rfl⟩
theorem aJ_v {Y : xY} {S : xS} {c : Nat} {i : Int32} {v : Int64} (h : aJ Y S c i = some v) : vp_in i (xn Y c) ∧ gJ S c i.toNatClampNeg = v := by
  unfold aJ at h
  split at h
  · cases h
  · next h1 => cases h; exact ⟨h1, rfl⟩
theorem aR_v {Y : xY} {S : xS} {c : Nat} {i : Int32} {v : Option Nat} (h : aR Y S c i = some v) : vp_in i (xn Y c) ∧ gR S c i.toNatClampNeg = v := by
  unfold aR at h
  split at h
  · cases h
  · next h1 => cases h; exact ⟨h1, rfl⟩
theorem sI_v {Y : xY} {S S' : xS} {c : Nat} {i v : Int32} (h : sI Y S c i v = some S') : vp_in i (xn Y c) ∧ pI S c i.toNatClampNeg v = S' := by
  unfold sI at h
  split at h
  · cases h
  · next h1 => cases h; exact ⟨h1, rfl⟩
theorem sJ_v {Y : xY} {S S' : xS} {c : Nat} {i : Int32} {v : Int64} (h : sJ Y S c i v = some S') : vp_in i (xn Y c) ∧ pJ S c i.toNatClampNeg v = S' := by
  unfold sJ at h
  split at h
  · cases h
  · next h1 => cases h; exact ⟨h1, rfl⟩
/-- of each class, by number: what its fields are (0 int, 1 long, 2 reference, 3 boolean) -/
def xft : List (List Nat) := [[0, 0, 0, 0, 0], [2, 2, 0, 0, 2, 0, 0, 0, 0, 2, 0], [2, 2, 2, 2, 2, 2, 2], [2, 2, 2, 2], [2, 2, 3, 3, 0, 0], [2, 2], [2, 2, 0, 0, 0, 0, 0, 2, 2, 2, 0], [2, 0, 0, 0, 0, 0], [2, 2, 2, 2, 2, 2, 2], [2, 2, 2, 2, 0, 0, 0, 0, 0, 0, 0, 1, 0, 0, 0, 0, 2, 0, 0, 3, 0, 0, 2, 2, 2, 0, 0, 0, 0, 0, 2, 2, 2]]
def xfl (ci : Nat) : List Nat := xft.getD ci []
def xfv (ad : Nat → Nat) (S : xS) (t c k : Nat) : Value := if t = 1 then .long (S.2.1 c k) else if t = 2 then va_rf ((S.2.2 c k).map ad) else .int (S.1 c k)
def xfs (ad : Nat → Nat) (S : xS) (ci c : Nat) : List Value := (xfl ci).mapIdx (fun k t => xfv ad S t c k)
/-- what is fixed: the tables' numbers (va_G), the arrays' classes, the cells' addresses, the texts' -/
abbrev xG : Type := va_G × (Nat → ClassId) × (Nat → Nat) × (Nat → Nat) × (Nat → Nat)
abbrev xad (G : xG) : Nat → Nat := G.2.2.1
def xce (G : xG) (Y : xY) (S : xS) (c : Nat) : va_E :=
  if xk Y c < 10 then .inr (xk Y c, xfs (xad G) S (xk Y c) c)
  else .inl (G.2.1 (xk Y c - 10), xn Y c, if xk Y c = 11 then .inr (.inl (S.2.1 c)) else if xk Y c = 13 then .inr (.inr (.inr (.inr (fun j => (S.2.2 c j).map (xad G))))) else .inl (S.1 c))
def xw (G : xG) (Y : xY) (S : xS) : va_W := (List.range Y.length).map (fun c => (xad G c, xce G Y S c))
def xt (G : xG) : List (ClassId × FieldType) := [(G.2.1 0, .int), (G.2.1 1, .long), (G.2.1 2, .boolean), (G.2.1 3, .object "CakeCalendar$Text")]
def xP (G : xG) (Y : xY) (S : xS) (H : Heap) : Prop := va_P G.1 vwCl (xw G Y S) H
def xA (G : xG) (Y : xY) : Nat → Prop := fun q => ∃ c, c < Y.length ∧ q = xad G c
def xJ (G : xG) (Y : xY) : Prop := ∀ i j, i < Y.length → j < Y.length → xad G i = xad G j → i = j
theorem xk_lt {Y : xY} {c ci : Nat} (h : xk Y c = ci) (hc : ci ≠ 99) : c < Y.length := by
  rcases Nat.lt_or_ge c Y.length with h1 | h1
  · exact h1
  · exfalso
    apply hc
    rw [← h]
    unfold xk
    rw [List.getD_eq_getElem?_getD, List.getElem?_eq_none h1]
    rfl
theorem xw_get {G : xG} {Y : xY} {S : xS} {c : Nat} (h : c < Y.length) : (xw G Y S)[c]? = some (xad G c, xce G Y S c) := by
  unfold xw
  rw [List.getElem?_map, List.getElem?_range h]
  rfl
theorem xw_none {G : xG} {Y : xY} {S : xS} {c : Nat} (h : ¬ c < Y.length) : (xw G Y S)[c]? = none := by
  apply List.getElem?_eq_none
  unfold xw
  rw [List.length_map, List.length_range]
  omega
theorem xw_len {G : xG} {Y : xY} {S : xS} : (xw G Y S).length = Y.length := by
  unfold xw
  rw [List.length_map, List.length_range]
theorem xw_D {G : xG} {Y : xY} {S : xS} (hJ : xJ G Y) : va_D (xA G Y) (xw G Y S) := by
  refine ⟨fun i j p q hi hj e => ?_, fun k q hk => ?_⟩
  · by_cases h1 : i < Y.length
    · by_cases h2 : j < Y.length
      · rw [xw_get h1] at hi
        rw [xw_get h2] at hj
        cases hi
        cases hj
        exact hJ i j h1 h2 e
      · rw [xw_none h2] at hj; cases hj
    · rw [xw_none h1] at hi; cases hi
  · by_cases h1 : k < Y.length
    · rw [xw_get h1] at hk
      cases hk
      exact ⟨k, h1, rfl⟩
    · rw [xw_none h1] at hk; cases hk
/-- one cell is another: the world is that of another state -/
theorem xw_set {G : xG} {Y : xY} {S S' : xS} {c : Nat} {e : va_E} (hc : c < Y.length) (h1 : xce G Y S' c = e) (h2 : ∀ d, d ≠ c → xce G Y S' d = xce G Y S d) : (xw G Y S).set c (xad G c, e) = xw G Y S' := by
  apply List.ext_getElem?
  intro j
  rw [List.getElem?_set]
  by_cases hj : c = j
  · subst hj
    rw [if_pos rfl, if_pos (by rw [xw_len]; exact hc), xw_get hc, h1]
  · rw [if_neg hj]
    by_cases hl : j < Y.length
    · rw [xw_get hl, xw_get hl, h2 j (fun q => hj q.symm)]
    · rw [xw_none hl, xw_none hl]
theorem x2_ne {α : Type} {f : Nat → Nat → α} {c k : Nat} {v : α} {d : Nat} (h : d ≠ c) : x2 f c k v d = f d := by
  funext j
  unfold x2
  rw [if_neg h]
theorem x2_self {α : Type} {f : Nat → Nat → α} {c k : Nat} {v : α} : x2 f c k v c k = v := by
  unfold x2
  rw [if_pos rfl, if_pos rfl]
theorem x2_nk {α : Type} {f : Nat → Nat → α} {c k k' : Nat} {v : α} (h : k' ≠ k) : x2 f c k v c k' = f c k' := by
  unfold x2
  rw [if_pos rfl, if_neg h]
theorem xfs_get {ad : Nat → Nat} {S : xS} {ci c k t : Nat} (h : (xfl ci)[k]? = some t) : (xfs ad S ci c)[k]? = some (xfv ad S t c k) := by
  unfold xfs
  rw [List.getElem?_mapIdx, h]
  rfl
theorem xfs_len {ad : Nat → Nat} {S : xS} {ci c : Nat} : (xfs ad S ci c).length = (xfl ci).length := by
  unfold xfs
  rw [List.length_mapIdx]
/-- a field's new value -/
theorem xfs_set {ad : Nat → Nat} {S S' : xS} {ci c k t : Nat} {v : Value} (h : (xfl ci)[k]? = some t) (h1 : xfv ad S' t c k = v) (h2 : ∀ t' k', k' ≠ k → xfv ad S' t' c k' = xfv ad S t' c k') : (xfs ad S ci c).set k v = xfs ad S' ci c := by
  apply List.ext_getElem?
  intro j
  rw [List.getElem?_set]
  by_cases hj : k = j
  · subst hj
    rw [if_pos rfl, if_pos (by rw [xfs_len]; exact (List.getElem?_eq_some_iff.mp h).1), xfs_get h, h1]
  · rw [if_neg hj]
    unfold xfs
    rw [List.getElem?_mapIdx, List.getElem?_mapIdx]
    cases hq : (xfl ci)[j]? with
    | none => rfl
    | some t' =>
      show some (xfv ad S t' c j) = some (xfv ad S' t' c j)
      rw [h2 t' j (fun q => hj q.symm)]
theorem xce_pI {G : xG} {Y : xY} {S : xS} {c k d : Nat} {v : Int32} (h : d ≠ c) : xce G Y (pI S c k v) d = xce G Y S d := by
  have e1 : (pI S c k v).1 d = S.1 d := x2_ne h
  unfold xce xfs
  simp only [xfv, e1]
  rfl
theorem xce_pJ {G : xG} {Y : xY} {S : xS} {c k d : Nat} {v : Int64} (h : d ≠ c) : xce G Y (pJ S c k v) d = xce G Y S d := by
  have e1 : (pJ S c k v).2.1 d = S.2.1 d := x2_ne h
  unfold xce xfs
  simp only [xfv, e1]
  rfl
theorem xce_pR {G : xG} {Y : xY} {S : xS} {c k d : Nat} {v : Option Nat} (h : d ≠ c) : xce G Y (pR S c k v) d = xce G Y S d := by
  have e1 : (pR S c k v).2.2 d = S.2.2 d := x2_ne h
  unfold xce xfs
  simp only [xfv, e1]
  rfl

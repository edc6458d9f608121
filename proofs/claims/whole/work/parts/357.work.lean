/-! THE REFERENCE'S CODE: what it works -/
def step1 (N : Nat → Nat) (p : Nat × Nat) (s : List Int × List Bool) : Option (List Int × List Bool) :=
  if p.1 = 0 then some ((p.2 : Int) :: s.1, s.2)
  else if p.1 = 1 then some ((N p.2 : Int) :: s.1, s.2)
  else if p.1 = 2 then (match s.1 with | x :: r => some (-x :: r, s.2) | [] => none)
  else if p.1 < 10 then (match s.1 with | y :: x :: r => some (op2 p.1 x y :: r, s.2) | _ => none)
  else if p.1 < 20 then (match s.1 with | y :: x :: r => some (r, cmpB p.1 x y :: s.2) | _ => none)
  else if p.1 = 20 then (match s.2 with | t :: r => some (s.1, (!t) :: r) | [] => none)
  else if p.1 = 23 then (match s.1, s.2 with | y :: x :: r, t :: ts => some ((if t then x else y) :: r, ts) | _, _ => none)
  else (match s.2 with | t2 :: t1 :: r => some (s.1, (if p.1 = 21 then t1 && t2 else t1 || t2) :: r) | _ => none)
def runO (N : Nat → Nat) : List (Nat × Nat) → List Int × List Bool → Option (List Int × List Bool)
  | [], s => some s
  | p :: r, s => (step1 N p s).bind (runO N r)
theorem runO_app (N : Nat → Nat) : ∀ (c d : List (Nat × Nat)) (s : List Int × List Bool), runO N (c ++ d) s = (runO N c s).bind (runO N d) := by
  intro c
  induction c with
  | nil => intro d s; rfl
  | cons p r ih =>
    intro d s
    show (step1 N p s).bind (runO N (r ++ d)) = ((step1 N p s).bind (runO N r)).bind (runO N d)
    cases step1 N p s with
    | none => rfl
    | some s' => exact ih d s'
def okP (m : Nat) (p : Nat × Nat) : Prop := (p.1 = 0 ∧ p.2 ≤ 9999) ∨ (p.1 = 1 ∧ p.2 < m) ∨ p.1 = 2 ∨ (p.1 = 3 ∨ p.1 = 4 ∨ p.1 = 5 ∨ p.1 = 6) ∨ (p.1 = 10 ∨ p.1 = 11 ∨ p.1 = 12 ∨ p.1 = 13 ∨ p.1 = 14 ∨ p.1 = 15) ∨ p.1 = 20 ∨ p.1 = 21 ∨ p.1 = 22 ∨ p.1 = 23
def repV (f : Nat → Int64) : List Int → Prop
  | [] => True
  | x :: r => (f r.length).toInt = x ∧ inM x ∧ repV f r
def repT (f : Nat → Int32) : List Bool → Prop
  | [] => True
  | t :: r => f r.length = bI t ∧ repT f r
theorem repV_congr {f g : Nat → Int64} : ∀ V : List Int, (∀ i, i < V.length → g i = f i) → repV f V → repV g V := by
  intro V
  induction V with
  | nil => intro _ _; trivial
  | cons x r ih =>
    intro h hs
    exact ⟨by rw [h r.length (by simp)]; exact hs.1, hs.2.1, ih (fun i hi => h i (by simp; omega)) hs.2.2⟩
theorem repT_congr {f g : Nat → Int32} : ∀ V : List Bool, (∀ i, i < V.length → g i = f i) → repT f V → repT g V := by
  intro V
  induction V with
  | nil => intro _ _; trivial
  | cons x r ih =>
    intro h hs
    exact ⟨by rw [h r.length (by simp)]; exact hs.1, ih (fun i hi => h i (by simp; omega)) hs.2⟩
def FW (S S' : xS) : Prop := S'.2.2 = S.2.2 ∧ (∀ c, c ≠ 7 → S'.2.1 c = S.2.1 c) ∧ ∀ c, c ≠ 8 → gI S' c = gI S c
theorem FW.rfl' {S : xS} : FW S S := ⟨rfl, fun _ _ => rfl, fun _ _ => rfl⟩
theorem FW.trans {S S1 S2 : xS} (h : FW S S1) (g : FW S1 S2) : FW S S2 := ⟨g.1.trans h.1, fun c hc => (g.2.1 c hc).trans (h.2.1 c hc), fun c hc => (g.2.2 c hc).trans (h.2.2 c hc)⟩
theorem FW.pJ {S : xS} {k : Nat} {v : Int64} : FW S (pJ S 7 k v) := ⟨rfl, fun c hc => by funext j; exact gJ_ne S 7 k v (k' := j) hc, fun _ _ => rfl⟩
theorem FW.pI {S : xS} {k : Nat} {v : Int32} : FW S (pI S 8 k v) := ⟨rfl, fun _ _ => rfl, fun c hc => gIf_ne _ _ _ _ hc⟩
theorem bI_0 (t : Bool) : (bI t = 0) ↔ t = false := by cases t <;> decide
theorem neg64 {x : Int64} (h : inM x.toInt) : (-x).toInt = -x.toInt := by
  obtain ⟨a, b⟩ := h
  rw [Int64.toInt_neg]
  exact Int.bmod_eq_of_le (by omega) (by omega)
theorem work_step {S : xS} {N : Nat → Nat} {m x base to i o v n : Nat} {V : List Int} {Tt : List Bool} {s' : List Int × List Bool} (hM : RMr S) (hto : aI Ym S 3 (nI x + 2) = some (nI to)) (ho : aI Ym S 3 (nI base + 2 * nI i) = some (nI o)) (hv : aI Ym S 3 (nI base + 2 * nI i + 1) = some (nI v)) (hi : i < to) (hto2 : to < 2 ^ 31) (hN : ∀ k, k < m → N k < 10000 ∧ gI S 6 k = nI (N k)) (hm : m ≤ 6) (hrV : repV (gJ S 7) V) (hrT : repT (gI S 8) Tt) (hV : V.length ≤ 310) (hTl : Tt.length ≤ 310) (hok : okP m (o, v)) (hs : step1 N (o, v) (V, Tt) = some s') : ∃ S', lX9_work_47 (n + 1) S 0 (nI x) (nI base) (nI V.length) (nI Tt.length) (nI i) = lX9_work_47 n S' 0 (nI x) (nI base) (nI s'.1.length) (nI s'.2.length) (nI (i + 1)) ∧ repV (gJ S' 7) s'.1 ∧ repT (gI S' 8) s'.2 ∧ FW S S' ∧ s'.1.length ≤ V.length + 1 ∧ s'.2.length ≤ Tt.length + 1 := by
  rw [lX9_work_47.eq_2, rm_2 hM, Option.bind_some, hto, Option.bind_some, if_neg (nI_ge hi hto2), Option.bind_some, ho, Option.bind_some, Option.bind_some, hv, Option.bind_some, nI_1]
  unfold step1 at hs
  dsimp only at hs
  have hm1 : ∀ k : Nat, nI (k + 1) + (-1) = nI k := fun k => pk_m1 k
  have hp1 : ∀ k : Nat, nI (k + 1) - 1 = nI k := fun k => nI_pred k
  rcases hok with ⟨h0, h9⟩ | ⟨h0, h9⟩ | h0 | h0 | h0 | h0 | h0 | h0 | h0
  · -- a number
    have h0 : o = 0 := h0
    have h9 : v ≤ 9999 := h9
    subst h0
    rw [if_pos rfl] at hs
    cases hs
    rw [if_neg (by decide), rm_23 hM, Option.bind_some, if_pos (by decide)]
    unfold jX9_work_119
    rw [sJ_nI (Y := Ym) (c := 7) (by show _ < 330; omega) (by decide), Option.bind_some, nI_1, nI_1]
    refine ⟨_, rfl, ⟨?_, ⟨by omega, by omega⟩, repV_congr V (fun i hi => gJ_nk _ _ _ _ (Nat.ne_of_lt hi)) hrV⟩, hrT, FW.pJ, Nat.le_refl _, Nat.le_succ _⟩
    rw [gJ_eq, Int32.toInt_toInt64, nI_toInt (by omega)]
  · -- a name
    have h0 : o = 1 := h0
    have h9 : v < m := h9
    subst h0
    rw [if_neg (by decide), if_pos rfl] at hs
    cases hs
    obtain ⟨n1, n2⟩ := hN v h9
    rw [if_neg (by decide), rm_23 hM, Option.bind_some, if_neg (by decide), rm_22 hM, Option.bind_some, aI_nI (Y := Ym) (c := 6) (by show _ < 6; omega) (by decide), Option.bind_some, n2]
    unfold jX9_work_119
    rw [sJ_nI (Y := Ym) (c := 7) (by show _ < 330; omega) (by decide), Option.bind_some, nI_1, nI_1]
    refine ⟨_, rfl, ⟨?_, ⟨by omega, by omega⟩, repV_congr V (fun i hi => gJ_nk _ _ _ _ (Nat.ne_of_lt hi)) hrV⟩, hrT, FW.pJ, Nat.le_refl _, Nat.le_succ _⟩
    rw [gJ_eq, Int32.toInt_toInt64, nI_toInt (by omega)]
  · -- less
    have h0 : o = 2 := h0
    subst h0
    rw [if_neg (by decide), if_neg (by decide), if_pos rfl] at hs
    cases V with
    | nil => cases hs
    | cons a r =>
      cases hs
      have hl : (a :: r).length = r.length + 1 := rfl
      rw [hl] at hV
      obtain ⟨r1, r2, r3⟩ := hrV
      rw [if_pos (by decide), if_pos (by decide), rm_23 hM, Option.bind_some, Option.bind_some, hl, hp1, aJ_nI (Y := Ym) (c := 7) (by show _ < 330; omega) (by decide), Option.bind_some, sJ_nI (Y := Ym) (c := 7) (by show _ < 330; omega) (by decide), Option.bind_some]
      refine ⟨_, rfl, ⟨?_, ?_, repV_congr r (fun i hi => gJ_nk _ _ _ _ (Nat.ne_of_lt hi)) r3⟩, hrT, FW.pJ, by simp, Nat.le_succ _⟩
      · rw [gJ_eq, neg64 (by rw [r1]; exact r2), r1]
      · unfold inM at *
        omega
  · -- of two numbers
    have h0 : o = 3 ∨ o = 4 ∨ o = 5 ∨ o = 6 := h0
    have g1 : (1 : Int32) < nI o := nI_lt (a := 1) (by omega) (by omega)
    have g2 : ¬ nI o = (2 : Int32) := fun q => by have := (nI_eq (a := o) (b := 2) (by omega) (by decide)).mp q; omega
    have g3 : ¬ (10 : Int32) ≤ nI o := nI_ge (a := o) (b := 10) (by omega) (by decide)
    rw [if_neg (by omega), if_neg (by omega), if_neg (by omega), if_pos (by omega)] at hs
    cases V with
    | nil => cases hs
    | cons y V =>
      cases V with
      | nil => cases hs
      | cons a r =>
        cases hs
        have hl : (y :: a :: r).length = r.length + 1 + 1 := rfl
        rw [hl] at hV
        obtain ⟨r1, r2, r3, r4, r5⟩ := hrV
        have r1 : (gJ S 7 (r.length + 1)).toInt = y := r1
        rw [if_pos g1, if_neg g2, if_neg g3, rm_23 hM, Option.bind_some, Option.bind_some, hl, hm1, hp1, aJ_nI (Y := Ym) (c := 7) (by show _ < 330; omega) (by decide), Option.bind_some, Option.bind_some, aJ_nI (Y := Ym) (c := 7) (by show _ < 330; omega) (by decide), Option.bind_some]
        obtain ⟨z, z1, z2⟩ := two_m (S := S) h0 (show inM (gJ S 7 r.length).toInt by rw [r3]; exact r4) (show inM (gJ S 7 (r.length + 1)).toInt by rw [r1]; exact r2)
        rw [z1, Option.bind_some]
        dsimp only
        rw [sJ_nI (Y := Ym) (c := 7) (by show _ < 330; omega) (by decide), Option.bind_some]
        refine ⟨_, rfl, ⟨?_, op2_in _ _ _, repV_congr r (fun i hi => gJ_nk _ _ _ _ (Nat.ne_of_lt hi)) r5⟩, hrT, FW.pJ, by simp, Nat.le_succ _⟩
        rw [gJ_eq, z2, r1, r3]
  · -- a question
    have h0 : o = 10 ∨ o = 11 ∨ o = 12 ∨ o = 13 ∨ o = 14 ∨ o = 15 := h0
    have g1 : (1 : Int32) < nI o := nI_lt (a := 1) (by omega) (by omega)
    have g2 : ¬ nI o = (2 : Int32) := fun q => by have := (nI_eq (a := o) (b := 2) (by omega) (by decide)).mp q; omega
    have g3 : (10 : Int32) ≤ nI o := nI_le (a := 10) (by omega) (by omega)
    have g4 : ¬ (20 : Int32) ≤ nI o := nI_ge (a := o) (b := 20) (by omega) (by decide)
    rw [if_neg (by omega), if_neg (by omega), if_neg (by omega), if_neg (by omega), if_pos (by omega)] at hs
    cases V with
    | nil => cases hs
    | cons y V =>
      cases V with
      | nil => cases hs
      | cons a r =>
        cases hs
        have hl : (y :: a :: r).length = r.length + 1 + 1 := rfl
        rw [hl] at hV
        obtain ⟨r1, r2, r3, r4, r5⟩ := hrV
        have r1 : (gJ S 7 (r.length + 1)).toInt = y := r1
        have e2 : nI (r.length + 1 + 1) + (-2) = nI r.length := by
          have h := pk_sub (a := r.length + 1 + 1) (b := 2) (by omega)
          rw [show r.length + 1 + 1 - 2 = r.length by omega] at h
          rw [← h, show (nI 2 : Int32) = 2 from rfl]
          rw [Int32.sub_eq_add_neg]
        rw [if_pos g1, if_neg g2, if_pos g3, if_neg g4, rm_24 hM, Option.bind_some, rm_23 hM, Option.bind_some, hl, e2, aJ_nI (Y := Ym) (c := 7) (by show _ < 330; omega) (by decide), Option.bind_some, Option.bind_some, nI_1, aJ_nI (Y := Ym) (c := 7) (by show _ < 330; omega) (by decide), Option.bind_some, asked_m h0, Option.bind_some, r1, r3]
        dsimp only
        have hz : zk (if cmpB o a y = true then (1 : Int32) else 0) = some (if cmpB o a y = true then (1 : Int32) else 0) := by
          cases cmpB o a y <;> rfl
        rw [hz, Option.bind_some, sI_nI (Y := Ym) (c := 8) (by show _ < 330; omega) (by decide), Option.bind_some, nI_1]
        refine ⟨_, rfl, r5, ⟨?_, repT_congr Tt (fun i hi => gI_nk _ _ _ _ (Nat.ne_of_lt hi)) hrT⟩, FW.pI, by show r.length ≤ r.length + 1 + 1 + 1; omega, Nat.le_refl _⟩
        rw [gI_eq]
        rfl
  · -- not
    have h0 : o = 20 := h0
    subst h0
    rw [if_neg (by decide), if_neg (by decide), if_neg (by decide), if_neg (by decide), if_neg (by decide), if_pos rfl] at hs
    cases Tt with
    | nil => cases hs
    | cons t r =>
      cases hs
      have hl : (t :: r).length = r.length + 1 := rfl
      rw [hl] at hTl
      obtain ⟨r1, r2⟩ := hrT
      rw [if_pos (by decide), if_neg (by decide), if_pos (by decide), if_pos (by decide), if_pos (by decide), rm_24 hM, Option.bind_some, Option.bind_some, hl, hp1, aI_nI (Y := Ym) (c := 8) (by show _ < 330; omega) (by decide), Option.bind_some, r1, sI_nI (Y := Ym) (c := 8) (by show _ < 330; omega) (by decide), Option.bind_some, sI_nI (Y := Ym) (c := 8) (by show _ < 330; omega) (by decide), Option.bind_some]
      cases t with
      | false =>
        rw [if_pos (by decide)]
        refine ⟨_, rfl, hrV, ⟨by rw [gI_eq]; rfl, repT_congr r (fun i hi => gI_nk _ _ _ _ (Nat.ne_of_lt hi)) r2⟩, FW.pI, Nat.le_succ _, by simp⟩
      | true =>
        rw [if_neg (by decide)]
        refine ⟨_, rfl, hrV, ⟨by rw [gI_eq]; rfl, repT_congr r (fun i hi => gI_nk _ _ _ _ (Nat.ne_of_lt hi)) r2⟩, FW.pI, Nat.le_succ _, by simp⟩
  · -- and
    have h0 : o = 21 := h0
    subst h0
    rw [if_neg (by decide), if_neg (by decide), if_neg (by decide), if_neg (by decide), if_neg (by decide), if_neg (by decide), if_neg (by decide)] at hs
    cases Tt with
    | nil => cases hs
    | cons t2 Tt =>
      cases Tt with
      | nil => cases hs
      | cons t1 r =>
        cases hs
        have hl : (t2 :: t1 :: r).length = r.length + 1 + 1 := rfl
        rw [hl] at hTl
        obtain ⟨r1, r2, r3⟩ := hrT
        have r1 : gI S 8 (r.length + 1) = bI t2 := r1
        rw [if_pos (by decide), if_neg (by decide), if_pos (by decide), if_pos (by decide), if_neg (by decide), if_neg (by decide), rm_24 hM, Option.bind_some, if_pos (by decide), Option.bind_some, hl, hm1, hp1, aI_nI (Y := Ym) (c := 8) (by show _ < 330; omega) (by decide), Option.bind_some, r2, Option.bind_some, aI_nI (Y := Ym) (c := 8) (by show _ < 330; omega) (by decide), Option.bind_some, r1]
        unfold jX9_work_375
        rw [sI_nI (Y := Ym) (c := 8) (by show _ < 330; omega) (by decide), Option.bind_some, sI_nI (Y := Ym) (c := 8) (by show _ < 330; omega) (by decide), Option.bind_some, nI_1]
        have fin : ∀ w : Int32, w = bI (t1 && t2) → ∃ S', lX9_work_47 n (pI S 8 r.length w) 0 (nI x) (nI base) (nI V.length) (nI (r.length + 1)) (nI (i + 1)) = lX9_work_47 n S' 0 (nI x) (nI base) (nI V.length) (nI ((if 21 = 21 then t1 && t2 else t1 || t2) :: r).length) (nI (i + 1)) ∧ repV (gJ S' 7) V ∧ repT (gI S' 8) ((if 21 = 21 then t1 && t2 else t1 || t2) :: r) ∧ FW S S' ∧ V.length ≤ V.length + 1 ∧ ((if 21 = 21 then t1 && t2 else t1 || t2) :: r).length ≤ r.length + 1 + 1 + 1 := fun w hw => ⟨_, rfl, hrV, ⟨by rw [gI_eq, hw]; rfl, repT_congr r (fun i hi => gI_nk _ _ _ _ (Nat.ne_of_lt hi)) r3⟩, FW.pI, Nat.le_succ _, by simp⟩
        cases t1 with
        | false => rw [if_pos (by decide)]; exact fin 0 rfl
        | true =>
          rw [if_neg (by decide)]
          cases t2 with
          | false => rw [if_pos (by decide)]; exact fin 0 rfl
          | true => rw [if_neg (by decide)]; exact fin 1 rfl
  · -- or
    have h0 : o = 22 := h0
    subst h0
    rw [if_neg (by decide), if_neg (by decide), if_neg (by decide), if_neg (by decide), if_neg (by decide), if_neg (by decide), if_neg (by decide)] at hs
    cases Tt with
    | nil => cases hs
    | cons t2 Tt =>
      cases Tt with
      | nil => cases hs
      | cons t1 r =>
        cases hs
        have hl : (t2 :: t1 :: r).length = r.length + 1 + 1 := rfl
        rw [hl] at hTl
        obtain ⟨r1, r2, r3⟩ := hrT
        have r1 : gI S 8 (r.length + 1) = bI t2 := r1
        rw [if_pos (by decide), if_neg (by decide), if_pos (by decide), if_pos (by decide), if_neg (by decide), if_neg (by decide), rm_24 hM, Option.bind_some, if_neg (show ¬ nI 22 = (21 : Int32) by decide), Option.bind_some, hl, hm1, hp1, aI_nI (Y := Ym) (c := 8) (by show _ < 330; omega) (by decide), Option.bind_some, r2, Option.bind_some, aI_nI (Y := Ym) (c := 8) (by show _ < 330; omega) (by decide), Option.bind_some, r1]
        unfold jX9_work_401
        rw [sI_nI (Y := Ym) (c := 8) (by show _ < 330; omega) (by decide), Option.bind_some, sI_nI (Y := Ym) (c := 8) (by show _ < 330; omega) (by decide), Option.bind_some, nI_1]
        have fin : ∀ w : Int32, w = bI (t1 || t2) → ∃ S', lX9_work_47 n (pI S 8 r.length w) 0 (nI x) (nI base) (nI V.length) (nI (r.length + 1)) (nI (i + 1)) = lX9_work_47 n S' 0 (nI x) (nI base) (nI V.length) (nI ((if 22 = 21 then t1 && t2 else t1 || t2) :: r).length) (nI (i + 1)) ∧ repV (gJ S' 7) V ∧ repT (gI S' 8) ((if 22 = 21 then t1 && t2 else t1 || t2) :: r) ∧ FW S S' ∧ V.length ≤ V.length + 1 ∧ ((if 22 = 21 then t1 && t2 else t1 || t2) :: r).length ≤ r.length + 1 + 1 + 1 := fun w hw => ⟨_, rfl, hrV, ⟨by rw [gI_eq, hw]; rfl, repT_congr r (fun i hi => gI_nk _ _ _ _ (Nat.ne_of_lt hi)) r3⟩, FW.pI, Nat.le_succ _, by simp⟩
        cases t1 with
        | true => rw [if_neg (by decide)]; exact fin 1 rfl
        | false =>
          rw [if_pos (by decide)]
          cases t2 with
          | false => rw [if_pos (by decide)]; exact fin 0 rfl
          | true => rw [if_neg (by decide)]; exact fin 1 rfl
  · -- select
    have h0 : o = 23 := h0
    subst h0
    rw [if_neg (by decide), if_neg (by decide), if_neg (by decide), if_neg (by decide), if_neg (by decide), if_neg (by decide), if_pos rfl] at hs
    cases V with
    | nil => cases hs
    | cons y V =>
      cases V with
      | nil => cases hs
      | cons a r =>
        cases Tt with
        | nil => cases hs
        | cons t ts =>
          cases hs
          have hl : (y :: a :: r).length = r.length + 1 + 1 := rfl
          have hl2 : (t :: ts).length = ts.length + 1 := rfl
          rw [hl] at hV
          rw [hl2] at hTl
          obtain ⟨r1, r2, r3, r4, r5⟩ := hrV
          have r1 : (gJ S 7 (r.length + 1)).toInt = y := r1
          obtain ⟨t1, t2⟩ := hrT
          rw [if_pos (by decide), if_neg (by decide), if_pos (by decide), if_pos (by decide), if_neg (by decide), if_pos (by decide), rm_23 hM, Option.bind_some, rm_24 hM, Option.bind_some, hl2, hm1, aI_nI (Y := Ym) (c := 8) (by show _ < 330; omega) (by decide), Option.bind_some, t1, Option.bind_some, Option.bind_some, hl, hm1, hp1, aJ_nI (Y := Ym) (c := 7) (by show _ < 330; omega) (by decide), Option.bind_some, aJ_nI (Y := Ym) (c := 7) (by show _ < 330; omega) (by decide), Option.bind_some, sJ_nI (Y := Ym) (c := 7) (by show _ < 330; omega) (by decide), Option.bind_some, sJ_nI (Y := Ym) (c := 7) (by show _ < 330; omega) (by decide), Option.bind_some]
          cases t with
          | false =>
            rw [if_pos (by decide)]
            exact ⟨_, rfl, ⟨by rw [gJ_eq, r1]; rfl, r2, repV_congr r (fun i hi => gJ_nk _ _ _ _ (Nat.ne_of_lt hi)) r5⟩, t2, FW.pJ, by simp, by simp; omega⟩
          | true =>
            rw [if_neg (by decide)]
            exact ⟨_, rfl, ⟨by rw [gJ_eq, r3]; rfl, r4, repV_congr r (fun i hi => gJ_nk _ _ _ _ (Nat.ne_of_lt hi)) r5⟩, t2, FW.pJ, by simp, by simp; omega⟩

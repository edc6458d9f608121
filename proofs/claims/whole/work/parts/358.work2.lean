/-! THE REFERENCE'S CODE: a whole law; how laws are put together -/
def MV (m : Nat) (c : List (Nat × Nat)) (f : (Nat → Nat) → Int) : Prop := ∀ N : Nat → Nat, (∀ k, k < m → N k < 10000) → ∀ (V : List Int) (T : List Bool), runO N c (V, T) = some (f N :: V, T)
def MT (m : Nat) (c : List (Nat × Nat)) (g : (Nat → Nat) → Bool) : Prop := ∀ N : Nat → Nat, (∀ k, k < m → N k < 10000) → ∀ (V : List Int) (T : List Bool), runO N c (V, T) = some (V, g N :: T)
def okC (m : Nat) (c : List (Nat × Nat)) : Prop := ∀ p, p ∈ c → okP m p
theorem okC_app {m : Nat} {c d : List (Nat × Nat)} (h : okC m c) (g : okC m d) : okC m (c ++ d) := fun p hp => (List.mem_append.mp hp).elim (h p) (g p)
theorem okC_one {m o v : Nat} (h : okP m (o, v)) : okC m [(o, v)] := fun p hp => by rw [List.mem_singleton.mp hp]; exact h
theorem okC_l {m : Nat} {c d : List (Nat × Nat)} (h : okC m (c ++ d)) : okC m c := fun p hp => h p (List.mem_append.mpr (Or.inl hp))
theorem work_go {N : Nat → Nat} {m x base to : Nat} (hm : m ≤ 6) (hb : base + 2 * to < 2720) (hto2 : to < 2 ^ 31) : ∀ (c : List (Nat × Nat)) (i n : Nat) (S : xS) (V : List Int) (Tt : List Bool) (s' : List Int × List Bool), RMr S → aI Ym S 3 (nI x + 2) = some (nI to) → codL (gI S 3) base c i → i + c.length = to → okC m c → (∀ k, k < m → N k < 10000 ∧ gI S 6 k = nI (N k)) → repV (gJ S 7) V → repT (gI S 8) Tt → V.length + c.length ≤ 310 → Tt.length + c.length ≤ 310 → runO N c (V, Tt) = some s' → c.length < n → ∃ S', lX9_work_47 n S 0 (nI x) (nI base) (nI V.length) (nI Tt.length) (nI i) = some S' ∧ repV (gJ S' 7) s'.1 ∧ FW S S' := by
  intro c
  induction c with
  | nil =>
    intro i n S V Tt s' hM hto hc hi hok hN hrV hrT hV hT hs hn
    obtain ⟨n, rfl⟩ : ∃ z, n = z + 1 := ⟨n - 1, by omega⟩
    have hs : some (V, Tt) = some s' := hs
    cases hs
    have hi : i = to := hi
    subst hi
    exact ⟨S, by rw [lX9_work_47.eq_2, rm_2 hM, Option.bind_some, hto, Option.bind_some, if_pos (nI_le (Nat.le_refl _) hto2)], hrV, FW.rfl'⟩
  | cons p c ih =>
    intro i n S V Tt s' hM hto hc hi hok hN hrV hrT hV hT hs hn
    obtain ⟨n, rfl⟩ : ∃ z, n = z + 1 := ⟨n - 1, by omega⟩
    obtain ⟨o, v⟩ := p
    have hl : ((o, v) :: c).length = c.length + 1 := rfl
    rw [hl] at hi hV hT hn
    have hs : (step1 N (o, v) (V, Tt)).bind (runO N c) = some s' := hs
    obtain ⟨s1, e1, e2⟩ := xb hs
    obtain ⟨s1V, s1T⟩ := s1
    obtain ⟨c1, c2, c3⟩ := hc
    have ix : nI base + 2 * nI i = nI (base + 2 * i) := by rw [show (2 : Int32) = nI 2 from rfl, pk_mul, nI_add]
    obtain ⟨S', w1, w2, w3, w4, w5, w6⟩ := work_step (n := n) hM hto (o := o) (v := v) (by rw [ix, aI_nI (Y := Ym) (c := 3) (by show _ < 2720; omega) (by decide), c1]) (by rw [ix, nI_1, aI_nI (Y := Ym) (c := 3) (by show _ < 2720; omega) (by decide), c2]) (show i < to by omega) hto2 hN hm hrV hrT (by omega) (by omega) (hok (o, v) (by simp)) e1
    have e3 : gI S' 3 = gI S 3 := w4.2.2 3 (by decide)
    obtain ⟨S2, f1, f2, f3⟩ := ih (i + 1) n S' s1V s1T s' (hM.ofR w4.1) (by unfold aI at hto ⊢; rw [e3]; exact hto) (by rw [e3]; exact c3) (by omega) (fun q hq => hok q (by simp [hq])) (fun k hk => by rw [w4.2.2 6 (by decide)]; exact hN k hk) w2 w3 (by have : s1V.length ≤ V.length + 1 := w5; omega) (by have : s1T.length ≤ Tt.length + 1 := w6; omega) e2 (by omega)
    exact ⟨S2, w1.trans f1, f2, w4.trans f3⟩
theorem mw_of {Sm : xS} {t k m fr : Nat} {c : List (Nat × Nat)} {f : (Nat → Nat) → Int} (ht : t < 4) (hk : k < 24) (hm : m ≤ 6) (hc : codL (gI Sm 3) (680 * t + 75) c fr) (hok : okC m c) (hf : MV m c f) (h1 : gI Sm 3 (680 * t + 1 + 3 * k + 1) = nI fr) (h2 : gI Sm 3 (680 * t + 1 + 3 * k + 2) = nI (fr + c.length)) (hl : fr + c.length ≤ 301) : MW1 Sm t k m f := by
  intro S N hM h3 h5 hN
  have ixx : (680 * nI t + 1) + 3 * nI k = nI (680 * t + 1 + 3 * k) := ixk t k
  obtain ⟨S', w1, w2, w3⟩ := work_go (N := N) (x := 680 * t + 1 + 3 * k) (base := 680 * t + 75) (to := fr + c.length) hm (by omega) (by omega) c fr 5000 S [] [] (f N :: [], []) hM (by rw [show (2 : Int32) = nI 2 from rfl, nI_add, aI_nI (Y := Ym) (c := 3) (by show _ < 2720; omega) (by decide), h3 _ (by omega) (by omega), h2]) (codL_congr c fr (fun i _ _ => h3 i (by omega) (by omega)) hc) rfl hok hN trivial trivial (by simp; omega) (by simp; omega) (hf N (fun k hk => (hN k hk).1) [] []) (by omega)
  refine ⟨S', ?_, w2.1, w3.1, w3.2.1, w3.2.2⟩
  unfold mX9_work
  rw [rm_0 hM, Option.bind_some, aI_lit (Y := Ym) (c := 1) (i := 5) 5 rfl (by decide) (by decide), Option.bind_some, h5, Option.bind_some, aI_lit (Y := Ym) (c := 1) (i := 5) 5 rfl (by decide) (by decide), Option.bind_some, h5, rm_2 hM, Option.bind_some, ixx, nI_1, aI_nI (Y := Ym) (c := 3) (by show _ < 2720; omega) (by decide), Option.bind_some, h3 _ (by omega) (by omega), h1, ix680, show nI (680 * t) + 75 = nI (680 * t + 75) from nI_add _ 75]
  exact w1
theorem mv_num (m v : Nat) : MV m [(0, v)] (fun _ => (v : Int)) := fun N _ V T => rfl
theorem mv_name (m k : Nat) : MV m [(1, k)] (fun N => (N k : Int)) := fun N _ V T => rfl
theorem mv_neg {m : Nat} {c : List (Nat × Nat)} {f : (Nat → Nat) → Int} (h : MV m c f) : MV m (c ++ [(2, 0)]) (fun N => -(f N)) := fun N hN V T => by rw [runO_app, h N hN V T]; rfl
theorem mv_two {m o : Nat} {c d : List (Nat × Nat)} {f g : (Nat → Nat) → Int} (ho : o = 3 ∨ o = 4 ∨ o = 5 ∨ o = 6) (h : MV m c f) (h2 : MV m d g) : MV m (c ++ d ++ [(o, 0)]) (fun N => op2 o (f N) (g N)) := fun N hN V T => by
  rw [runO_app, runO_app, h N hN V T, Option.bind_some, h2 N hN _ T, Option.bind_some]
  rcases ho with rfl | rfl | rfl | rfl <;> rfl
theorem mt_cmp {m o : Nat} {c d : List (Nat × Nat)} {f g : (Nat → Nat) → Int} (ho : o = 10 ∨ o = 11 ∨ o = 12 ∨ o = 13 ∨ o = 14 ∨ o = 15) (h : MV m c f) (h2 : MV m d g) : MT m (c ++ d ++ [(o, 0)]) (fun N => cmpB o (f N) (g N)) := fun N hN V T => by
  rw [runO_app, runO_app, h N hN V T, Option.bind_some, h2 N hN _ T, Option.bind_some]
  rcases ho with rfl | rfl | rfl | rfl | rfl | rfl <;> rfl
theorem mt_not {m : Nat} {c : List (Nat × Nat)} {g : (Nat → Nat) → Bool} (h : MT m c g) : MT m (c ++ [(20, 0)]) (fun N => !(g N)) := fun N hN V T => by rw [runO_app, h N hN V T]; rfl
theorem mt_and {m : Nat} {c d : List (Nat × Nat)} {g g2 : (Nat → Nat) → Bool} (h : MT m c g) (h2 : MT m d g2) : MT m (c ++ d ++ [(21, 0)]) (fun N => g N && g2 N) := fun N hN V T => by
  rw [runO_app, runO_app, h N hN V T, Option.bind_some, h2 N hN V _, Option.bind_some]
  rfl
theorem mt_or {m : Nat} {c d : List (Nat × Nat)} {g g2 : (Nat → Nat) → Bool} (h : MT m c g) (h2 : MT m d g2) : MT m (c ++ d ++ [(22, 0)]) (fun N => g N || g2 N) := fun N hN V T => by
  rw [runO_app, runO_app, h N hN V T, Option.bind_some, h2 N hN V _, Option.bind_some]
  rfl
theorem mv_if {m : Nat} {c d e : List (Nat × Nat)} {g : (Nat → Nat) → Bool} {f h : (Nat → Nat) → Int} (h1 : MT m c g) (h2 : MV m d f) (h3 : MV m e h) : MV m (c ++ d ++ e ++ [(23, 0)]) (fun N => if g N then f N else h N) := fun N hN V T => by
  rw [runO_app, runO_app, runO_app, h1 N hN V T, Option.bind_some, h2 N hN V _, Option.bind_some, h3 N hN _ _, Option.bind_some]
  rfl
/-! THE CLASS'S CODE -/
def CEV (o a : Nat → Int32) (m L0 L1 D : Nat) (f : (Nat → Nat) → Int) : Prop := ∀ (t : Nat) (S : xS) (N : Nat → Nat) (τ E : Nat), t < 4 → RCr S → (∀ i, L0 ≤ i → i < L1 → gI S (26 + 6 * t + 1) i = o i ∧ gI S (26 + 6 * t + 2) i = a i) → τ + D ≤ 64 → L1 ≤ E → E ≤ 300 → (∀ k, k < m → N k < 10000 ∧ gI S 15 k = nI (N k)) → ∃ K S', K ≤ L1 - L0 ∧ (∀ n, lX5_worked_23 (n + K) S 14 (some (26 + 6 * t)) (nI E) (nI τ) (nI L0) = lX5_worked_23 n S' 14 (some (26 + 6 * t)) (nI E) (nI (τ + 1)) (nI L1)) ∧ S'.2 = S.2 ∧ (∀ c, c ≠ 16 → gI S' c = gI S c) ∧ (∀ j, j < τ → gI S' 16 j = gI S 16 j) ∧ (gI S' 16 τ).toInt = f N ∧ inM (f N)
def CET (o a : Nat → Int32) (m L0 L1 D : Nat) (g : (Nat → Nat) → Bool) : Prop := ∀ (t : Nat) (S : xS) (N : Nat → Nat) (τ E : Nat), t < 4 → RCr S → (∀ i, L0 ≤ i → i < L1 → gI S (26 + 6 * t + 1) i = o i ∧ gI S (26 + 6 * t + 2) i = a i) → τ + D ≤ 64 → L1 ≤ E → E ≤ 300 → (∀ k, k < m → N k < 10000 ∧ gI S 15 k = nI (N k)) → ∃ K S', K ≤ L1 - L0 ∧ (∀ n, lX5_worked_23 (n + K) S 14 (some (26 + 6 * t)) (nI E) (nI τ) (nI L0) = lX5_worked_23 n S' 14 (some (26 + 6 * t)) (nI E) (nI (τ + 1)) (nI L1)) ∧ S'.2 = S.2 ∧ (∀ c, c ≠ 16 → gI S' c = gI S c) ∧ (∀ j, j < τ → gI S' 16 j = gI S 16 j) ∧ gI S' 16 τ = bI (g N)
theorem CEV.congr {o a o' a' : Nat → Int32} {m L0 L1 D : Nat} {f : (Nat → Nat) → Int} (h : CEV o a m L0 L1 D f) (e : ∀ i, L0 ≤ i → i < L1 → o' i = o i ∧ a' i = a i) : CEV o' a' m L0 L1 D f := fun t S N τ E h1 h2 h3 => h t S N τ E h1 h2 (fun i a b => ⟨(h3 i a b).1.trans (e i a b).1, (h3 i a b).2.trans (e i a b).2⟩)
theorem CET.congr {o a o' a' : Nat → Int32} {m L0 L1 D : Nat} {f : (Nat → Nat) → Bool} (h : CET o a m L0 L1 D f) (e : ∀ i, L0 ≤ i → i < L1 → o' i = o i ∧ a' i = a i) : CET o' a' m L0 L1 D f := fun t S N τ E h1 h2 h3 => h t S N τ E h1 h2 (fun i a b => ⟨(h3 i a b).1.trans (e i a b).1, (h3 i a b).2.trans (e i a b).2⟩)
theorem CEV.mono {o a : Nat → Int32} {m L0 L1 D D' : Nat} {f : (Nat → Nat) → Int} (h : CEV o a m L0 L1 D f) (e : D ≤ D') : CEV o a m L0 L1 D' f := fun t S N τ E h1 h2 h3 h4 => h t S N τ E h1 h2 h3 (by omega)
theorem CET.mono {o a : Nat → Int32} {m L0 L1 D D' : Nat} {f : (Nat → Nat) → Bool} (h : CET o a m L0 L1 D f) (e : D ≤ D') : CET o a m L0 L1 D' f := fun t S N τ E h1 h2 h3 h4 => h t S N τ E h1 h2 h3 (by omega)
/-- one step is opened -/
theorem w_num {S : xS} (hC : RCr S) {t i E τ n : Nat} (ht : t < 4) (hi : i < E) (hE : E ≤ 300)  (h6 : gI S (26 + 6 * t + 1) i = 0) : lX5_worked_23 (n + 1) S 14 (some (26 + 6 * t)) (nI E) (nI τ) (nI i) = jX5_worked_58 (lX5_worked_23 n) S 14 (some (26 + 6 * t)) (nI E) (nI τ) (nI i) 0 (gI S (26 + 6 * t + 2) i) := by
  obtain ⟨x1, x2, x3, x4, x5⟩ := xn_txt ht
  rw [lX5_worked_23.eq_2, if_neg (nI_ge hi (by omega)), dO_text ht, Option.bind_some, txt_0 hC ht, Option.bind_some, aI_nI (by rw [x1]; omega) (by rw [x1]; decide), Option.bind_some, Option.bind_some, txt_1 hC ht, Option.bind_some, aI_nI (by rw [x2]; omega) (by rw [x2]; decide), Option.bind_some, h6, if_pos rfl]
theorem w_name {S : xS} (hC : RCr S) {t i E τ n : Nat} (ht : t < 4) (hi : i < E) (hE : E ≤ 300)  (h6 : gI S (26 + 6 * t + 1) i = 1) : lX5_worked_23 (n + 1) S 14 (some (26 + 6 * t)) (nI E) (nI τ) (nI i) = jX5_worked_58 (lX5_worked_23 n) S 14 (some (26 + 6 * t)) (nI E) (nI τ) (nI i) 1 (gI S (26 + 6 * t + 2) i) := by
  obtain ⟨x1, x2, x3, x4, x5⟩ := xn_txt ht
  rw [lX5_worked_23.eq_2, if_neg (nI_ge hi (by omega)), dO_text ht, Option.bind_some, txt_0 hC ht, Option.bind_some, aI_nI (by rw [x1]; omega) (by rw [x1]; decide), Option.bind_some, Option.bind_some, txt_1 hC ht, Option.bind_some, aI_nI (by rw [x2]; omega) (by rw [x2]; decide), Option.bind_some, h6, if_neg n10, if_pos rfl]
theorem w_go {S : xS} (hC : RCr S) {t i E τ n : Nat} (ht : t < 4) (hi : i < E) (hE : E ≤ 300)  (h6 : gI S (26 + 6 * t + 1) i = 2) : lX5_worked_23 (n + 1) S 14 (some (26 + 6 * t)) (nI E) (nI τ) (nI i) = lX5_worked_23 n S 14 (some (26 + 6 * t)) (nI E) (nI τ) ((if nI i < (gI S (26 + 6 * t + 2) i - 1) then (gI S (26 + 6 * t + 2) i - 1) else nI i) + 1) := by
  obtain ⟨x1, x2, x3, x4, x5⟩ := xn_txt ht
  rw [lX5_worked_23.eq_2, if_neg (nI_ge hi (by omega)), dO_text ht, Option.bind_some, txt_0 hC ht, Option.bind_some, aI_nI (by rw [x1]; omega) (by rw [x1]; decide), Option.bind_some, Option.bind_some, txt_1 hC ht, Option.bind_some, aI_nI (by rw [x2]; omega) (by rw [x2]; decide), Option.bind_some, h6, if_neg (by decide), if_neg (by decide), if_pos rfl, xlet_eq]
theorem w_unl {S : xS} (hC : RCr S) {t i E τ n : Nat} (ht : t < 4) (hi : i < E) (hE : E ≤ 300) (hτ : τ < 64) (h6 : gI S (26 + 6 * t + 1) i = 3) : lX5_worked_23 (n + 1) S 14 (some (26 + 6 * t)) (nI E) (nI (τ + 1)) (nI i) = if gI S 16 τ = 0 then lX5_worked_23 n S 14 (some (26 + 6 * t)) (nI E) (nI τ) ((if nI i < (gI S (26 + 6 * t + 2) i - 1) then (gI S (26 + 6 * t + 2) i - 1) else nI i) + 1) else lX5_worked_23 n S 14 (some (26 + 6 * t)) (nI E) (nI τ) (nI i + 1) := by
  obtain ⟨x1, x2, x3, x4, x5⟩ := xn_txt ht
  rw [lX5_worked_23.eq_2, if_neg (nI_ge hi (by omega)), dO_text ht, Option.bind_some, txt_0 hC ht, Option.bind_some, aI_nI (by rw [x1]; omega) (by rw [x1]; decide), Option.bind_some, Option.bind_some, txt_1 hC ht, Option.bind_some, aI_nI (by rw [x2]; omega) (by rw [x2]; decide), Option.bind_some, h6, if_neg (by decide), if_neg (by decide), if_neg (by decide), if_pos (show (1 : Int32) ≤ nI (τ + 1) from nI_le (a := 1) (by omega) (by omega)), if_pos rfl, rc_14_1 hC, Option.bind_some, pk_m1, aI_nI (Y := Yc) (c := 16) (by show _ < 64; omega) (by decide), Option.bind_some, xlet_eq]
theorem w_neg {S : xS} (hC : RCr S) {t i E τ n : Nat} (ht : t < 4) (hi : i < E) (hE : E ≤ 300) (hτ : τ < 64) (h6 : gI S (26 + 6 * t + 1) i = 4) : lX5_worked_23 (n + 1) S 14 (some (26 + 6 * t)) (nI E) (nI (τ + 1)) (nI i) = lX5_worked_23 n (pI S 16 τ (-(gI S 16 τ))) 14 (some (26 + 6 * t)) (nI E) (nI (τ + 1)) (nI i + 1) := by
  obtain ⟨x1, x2, x3, x4, x5⟩ := xn_txt ht
  rw [lX5_worked_23.eq_2, if_neg (nI_ge hi (by omega)), dO_text ht, Option.bind_some, txt_0 hC ht, Option.bind_some, aI_nI (by rw [x1]; omega) (by rw [x1]; decide), Option.bind_some, Option.bind_some, txt_1 hC ht, Option.bind_some, aI_nI (by rw [x2]; omega) (by rw [x2]; decide), Option.bind_some, h6, if_neg (by decide), if_neg (by decide), if_neg (by decide), if_pos (show (1 : Int32) ≤ nI (τ + 1) from nI_le (a := 1) (by omega) (by omega)), if_neg (by decide), if_pos rfl, rc_14_1 hC, Option.bind_some, Option.bind_some, nI_pred, aI_nI (Y := Yc) (c := 16) (by show _ < 64; omega) (by decide), Option.bind_some, sI_nI (Y := Yc) (c := 16) (by show _ < 64; omega) (by decide), Option.bind_some]
theorem w_not5 {S : xS} (hC : RCr S) {t i E τ n : Nat} (ht : t < 4) (hi : i < E) (hE : E ≤ 300) (hτ : τ < 64) (h6 : gI S (26 + 6 * t + 1) i = 5) : lX5_worked_23 (n + 1) S 14 (some (26 + 6 * t)) (nI E) (nI (τ + 1)) (nI i) = lX5_worked_23 n (pI S 16 τ (1 - (gI S 16 τ))) 14 (some (26 + 6 * t)) (nI E) (nI (τ + 1)) (nI i + 1) := by
  obtain ⟨x1, x2, x3, x4, x5⟩ := xn_txt ht
  rw [lX5_worked_23.eq_2, if_neg (nI_ge hi (by omega)), dO_text ht, Option.bind_some, txt_0 hC ht, Option.bind_some, aI_nI (by rw [x1]; omega) (by rw [x1]; decide), Option.bind_some, Option.bind_some, txt_1 hC ht, Option.bind_some, aI_nI (by rw [x2]; omega) (by rw [x2]; decide), Option.bind_some, h6, if_neg (by decide), if_neg (by decide), if_neg (by decide), if_pos (show (1 : Int32) ≤ nI (τ + 1) from nI_le (a := 1) (by omega) (by omega)), if_neg (by decide), if_neg (by decide), if_pos rfl, rc_14_1 hC, Option.bind_some, Option.bind_some, nI_pred, aI_nI (Y := Yc) (c := 16) (by show _ < 64; omega) (by decide), Option.bind_some, sI_nI (Y := Yc) (c := 16) (by show _ < 64; omega) (by decide), Option.bind_some]
theorem w_two {S : xS} (hC : RCr S) {t i E τ n : Nat} (ht : t < 4) (hi : i < E) (hE : E ≤ 300) {x6 r : Int32} (hτ : τ + 1 < 64) (hx : ∀ z : Int32, z = 0 ∨ z = 1 ∨ z = 2 ∨ z = 3 ∨ z = 4 ∨ z = 5 → ¬ x6 = z) (hr : cTwo S x6 (gI S 16 τ) (gI S 16 (τ + 1)) = some (r, S)) (h6 : gI S (26 + 6 * t + 1) i = x6) : lX5_worked_23 (n + 1) S 14 (some (26 + 6 * t)) (nI E) (nI (τ + 1 + 1)) (nI i) = lX5_worked_23 n (pI S 16 τ r) 14 (some (26 + 6 * t)) (nI E) (nI (τ + 1)) (nI i + 1) := by
  obtain ⟨x1, x2, x3, x4, x5⟩ := xn_txt ht
  unfold cTwo at hr
  obtain ⟨q, hr1, hr2⟩ := Option.bind_eq_some_iff.mp hr
  rw [lX5_worked_23.eq_2, if_neg (nI_ge hi (by omega)), dO_text ht, Option.bind_some, txt_0 hC ht, Option.bind_some, aI_nI (by rw [x1]; omega) (by rw [x1]; decide), Option.bind_some, Option.bind_some, txt_1 hC ht, Option.bind_some, aI_nI (by rw [x2]; omega) (by rw [x2]; decide), Option.bind_some, h6, if_neg (hx 0 (by simp)), if_neg (hx 1 (by simp)), if_neg (hx 2 (by simp)), if_pos (show (1 : Int32) ≤ nI (τ + 1 + 1) from nI_le (a := 1) (by omega) (by omega)), if_neg (hx 3 (by simp)), if_neg (hx 4 (by simp)), if_neg (hx 5 (by simp)), if_pos (show (2 : Int32) ≤ nI (τ + 1 + 1) from nI_le (a := 2) (by omega) (by omega)), rc_14_1 hC, Option.bind_some, Option.bind_some, pk_m1, nI_pred, aI_nI (Y := Yc) (c := 16) (by show _ < 64; omega) (by decide), Option.bind_some, Option.bind_some, aI_nI (Y := Yc) (c := 16) (by show _ < 64; omega) (by decide), Option.bind_some, hr1, Option.bind_some, hr2, Option.bind_some]
  dsimp only
  rw [sI_nI (Y := Yc) (c := 16) (by show _ < 64; omega) (by decide), Option.bind_some]
theorem inM_nat {v : Nat} (h : v ≤ 10000) : inM (v : Int) := by unfold inM; omega
theorem cev_num {o a : Nat → Int32} {m L v : Nat} (ho : o L = 0) (ha : a L = nI v) (hv : v ≤ 9999) : CEV o a m L (L + 1) 1 (fun _ => (v : Int)) := by
  intro t S N τ E ht hC hc hτ hE hE2 hN
  obtain ⟨c1, c2⟩ := hc L (Nat.le_refl _) (by omega)
  refine ⟨1, pI S 16 τ (nI v), by omega, fun n => ?_, rfl, fun c hc => gIf_ne _ _ _ _ hc, fun j hj => gI_nk _ _ _ _ (by omega), by rw [gI_eq, nI_toInt (by omega)], inM_nat (by omega)⟩
  rw [w_num hC ht (by omega) hE2 (c1.trans ho), c2, ha]
  unfold jX5_worked_58 jX5_worked_89
  rw [if_pos (show nI τ < (64 : Int32) from nI_lt (b := 64) (by omega) (by decide)), rc_14_1 hC, Option.bind_some, if_pos rfl, sI_nI (Y := Yc) (c := 16) (by show _ < 64; omega) (by decide), Option.bind_some, nI_1, nI_1]
theorem cev_name {o a : Nat → Int32} {m L k : Nat} (ho : o L = 1) (ha : a L = nI k) (hk : k < m) (hm : m ≤ 6) : CEV o a m L (L + 1) 1 (fun N => (N k : Int)) := by
  intro t S N τ E ht hC hc hτ hE hE2 hN
  obtain ⟨c1, c2⟩ := hc L (Nat.le_refl _) (by omega)
  obtain ⟨n1, n2⟩ := hN k hk
  refine ⟨1, pI S 16 τ (nI (N k)), by omega, fun n => ?_, rfl, fun c hc => gIf_ne _ _ _ _ hc, fun j hj => gI_nk _ _ _ _ (by omega), by rw [gI_eq, nI_toInt (by omega)], inM_nat (by omega)⟩
  rw [w_name hC ht (by omega) hE2 (c1.trans ho), c2, ha]
  unfold jX5_worked_58 jX5_worked_89 mX5_nameAt
  rw [if_pos (show nI τ < (64 : Int32) from nI_lt (b := 64) (by omega) (by decide)), rc_14_1 hC, Option.bind_some, if_neg n10, if_neg (nI_pos (by omega)), if_neg (show ¬ (6 : Int32) ≤ nI k from nI_ge (a := k) (b := 6) (by omega) (by decide)), rc_14_0 hC, Option.bind_some, aI_nI (Y := Yc) (c := 15) (by show _ < 6; omega) (by decide), Option.bind_some, Option.bind_some, n2]
  dsimp only
  rw [sI_nI (Y := Yc) (c := 16) (by show _ < 64; omega) (by decide), Option.bind_some, nI_1, nI_1]
theorem neg32 {x : Int32} (h : inM x.toInt) : (-x).toInt = -x.toInt := by
  obtain ⟨a, b⟩ := h
  rw [Int32.toInt_neg]
  exact Int.bmod_eq_of_le (by omega) (by omega)
theorem one_le (τ : Nat) (h : τ < 2 ^ 30) : (1 : Int32) ≤ nI (τ + 1) := nI_le (a := 1) (by omega) (by omega)
theorem cev_neg {o a : Nat → Int32} {m L0 L1 D : Nat} {f : (Nat → Nat) → Int} (h : CEV o a m L0 L1 D f) (hL : L0 ≤ L1) (ho : o L1 = 4) (hD : 1 ≤ D) : CEV o a m L0 (L1 + 1) D (fun N => -(f N)) := by
  intro t S N τ E ht hC hc hτ hE hE2 hN
  obtain ⟨K, S', k1, k2, k3, k4, k5, k6, k7⟩ := h t S N τ E ht hC (fun i a b => hc i a (by omega)) hτ (by omega) hE2 hN
  have hC' : RCr S' := hC.ofR (by rw [k3])
  obtain ⟨c1, c2⟩ := hc L1 (by omega) (by omega)
  refine ⟨K + 1, pI S' 16 τ (-(gI S' 16 τ)), by omega, fun n => ?_, k3, fun c hc => (gIf_ne _ _ _ _ hc).trans (k4 c hc), fun j hj => (gI_nk _ _ _ _ (by omega)).trans (k5 j hj), ?_, ?_⟩
  · rw [show n + (K + 1) = n + 1 + K by omega, k2, w_neg hC' ht (by omega) hE2 (by omega) (by rw [k4 _ (by omega)]; exact c1.trans ho), nI_1]
  · rw [gI_eq, neg32 (by rw [k6]; exact k7), k6]
  · show inM (-(f N))
    unfold inM at *
    omega
theorem two_le (τ : Nat) (h : τ < 2 ^ 30) : (2 : Int32) ≤ nI (τ + 1 + 1) := nI_le (a := 2) (by omega) (by omega)
/-- two, then what is done to them -/
theorem ctwo {o a : Nat → Int32} {m L0 L1 L2 D D2 : Nat} {x6 : Int32} (h6 : ∀ z : Int32, z = 0 ∨ z = 1 ∨ z = 2 ∨ z = 3 ∨ z = 4 ∨ z = 5 → ¬ x6 = z) {t : Nat} {S : xS} {N : Nat → Nat} {τ E : Nat} (ht : t < 4) (hC : RCr S) (hc : ∀ i, L0 ≤ i → i < L2 + 1 → gI S (26 + 6 * t + 1) i = o i ∧ gI S (26 + 6 * t + 2) i = a i) (hτ : τ + D ≤ 64) (hτ2 : τ + 1 + D2 ≤ 64) (hD2 : 1 ≤ D2) (hE : L2 + 1 ≤ E) (hE2 : E ≤ 300) (hN : ∀ k, k < m → N k < 10000 ∧ gI S 15 k = nI (N k)) (hL : L0 ≤ L1) (hL2 : L1 ≤ L2) (ho : o L2 = x6)
    {P Q : Int32 → Prop} (hp : ∃ K S', K ≤ L1 - L0 ∧ (∀ n, lX5_worked_23 (n + K) S 14 (some (26 + 6 * t)) (nI E) (nI τ) (nI L0) = lX5_worked_23 n S' 14 (some (26 + 6 * t)) (nI E) (nI (τ + 1)) (nI L1)) ∧ S'.2 = S.2 ∧ (∀ c, c ≠ 16 → gI S' c = gI S c) ∧ (∀ j, j < τ → gI S' 16 j = gI S 16 j) ∧ P (gI S' 16 τ))
    (hq : ∀ S1 : xS, RCr S1 → (∀ i, L1 ≤ i → i < L2 → gI S1 (26 + 6 * t + 1) i = o i ∧ gI S1 (26 + 6 * t + 2) i = a i) → (∀ k, k < m → N k < 10000 ∧ gI S1 15 k = nI (N k)) → ∃ K S', K ≤ L2 - L1 ∧ (∀ n, lX5_worked_23 (n + K) S1 14 (some (26 + 6 * t)) (nI E) (nI (τ + 1)) (nI L1) = lX5_worked_23 n S' 14 (some (26 + 6 * t)) (nI E) (nI (τ + 1 + 1)) (nI L2)) ∧ S'.2 = S1.2 ∧ (∀ c, c ≠ 16 → gI S' c = gI S1 c) ∧ (∀ j, j < τ + 1 → gI S' 16 j = gI S1 16 j) ∧ Q (gI S' 16 (τ + 1)))
    (R : Int32 → Prop) (hr : ∀ (S2 : xS) x y, P x → Q y → ∃ r, cTwo S2 x6 x y = some (r, S2) ∧ R r) : ∃ K S', K ≤ L2 + 1 - L0 ∧ (∀ n, lX5_worked_23 (n + K) S 14 (some (26 + 6 * t)) (nI E) (nI τ) (nI L0) = lX5_worked_23 n S' 14 (some (26 + 6 * t)) (nI E) (nI (τ + 1)) (nI (L2 + 1))) ∧ S'.2 = S.2 ∧ (∀ c, c ≠ 16 → gI S' c = gI S c) ∧ (∀ j, j < τ → gI S' 16 j = gI S 16 j) ∧ R (gI S' 16 τ) := by
  obtain ⟨K, S1, k1, k2, k3, k4, k5, k6⟩ := hp
  have hC1 : RCr S1 := hC.ofR (by rw [k3])
  obtain ⟨K2, S2, q1, q2, q3, q4, q5, q6⟩ := hq S1 hC1 (fun i a b => by rw [k4 _ (by omega), k4 _ (by omega)]; exact hc i (by omega) (by omega)) (fun k hk => by rw [k4 15 (by decide)]; exact hN k hk)
  have hC2 : RCr S2 := hC1.ofR (by rw [q3])
  obtain ⟨c1, c2⟩ := hc L2 (by omega) (by omega)
  obtain ⟨r, r1, r2⟩ := hr S2 _ _ k6 q6
  refine ⟨K + K2 + 1, pI S2 16 τ r, by omega, fun n => ?_, q3.trans k3, fun c hc => (gIf_ne _ _ _ _ hc).trans ((q4 c hc).trans (k4 c hc)), fun j hj => (gI_nk _ _ _ _ (by omega)).trans ((q5 j (by omega)).trans (k5 j hj)), by rw [gI_eq]; exact r2⟩
  rw [show n + (K + K2 + 1) = n + 1 + K2 + K by omega, k2, q2, w_two hC2 ht (by omega) hE2 (by omega) h6 (by rw [q5 τ (by omega)]; exact r1) (by rw [q4 _ (by omega), k4 _ (by omega)]; exact c1.trans ho), nI_1]

/-! THE PARSERS: both, either -/
def isBoth (p : List Nat) (j : Nat) : Prop := ∃ a t, p = a ++ t ∧ isAsk a j ∧ (t = [] ∨ t = [21])
def bStop (κ : Nat) : Prop := sStop κ ∧ κ ≠ 209
def BothC (len : Nat) (b : Nat → Nat) (q : Nat) (ie : Bool) (F : xS → Nat → Int32 → Option xS) (o : Nat) : Prop := ∀ S T R0 L W κ st v bh, EN len b q ie S T o R0 L W κ st v bh 0 → actx R0 → lowR R0 2 → R0.length ≤ 6 * o + 2 → ∃ S', F S 25 (nI o) = some S' ∧ (FO len q S T S' L W st ∨ OKA len b q ie S T S' o R0 L W L W 0 st (D1 o + 4) isBoth bStop)
theorem isBoth_mem {p : List Nat} {j : Nat} (h : isBoth p j) : ∀ x, x ∈ p → x < 40 ∧ rk 21 ≤ rk x := by
  obtain ⟨a, t, rfl, h1, h2⟩ := h
  intro x hx
  rcases List.mem_append.mp hx with hx | hx
  · have := isAsk_mem h1 x hx
    exact ⟨this.1, Nat.le_trans (by decide) this.2⟩
  · rcases h2 with rfl | rfl
    · cases hx
    · rw [List.mem_singleton] at hx; subst hx; decide
theorem isBoth_cnt {p : List Nat} {j : Nat} (h : isBoth p j) : cnt2 p = j := by
  obtain ⟨a, t, rfl, h1, h2⟩ := h
  rw [cnt2_app, isAsk_cnt h1]
  rcases h2 with rfl | rfl <;> rfl
theorem isBoth_comp {T : xS} (hM : RMr T) {p R : List Nat} {j : Nat} (hp : isBoth p j) (hP : PLr T (p ++ R)) : mX9_isCompared T 0 = some (1, T) := by
  obtain ⟨a, t, rfl, h1, h2⟩ := hp
  exact ask_comp hM h1 hP
theorem both_loop {len : Nat} {b : Nat → Nat} {q : Nat} {ie : Bool} {rec : Nat → xS → Nat → Int32 → Option xS} {o : Nat} (ho : o ≤ 8) (hAsk : AskC len b q ie (rec 6) o) : ∀ e i n S T pend j R0 L0 W0 L W κ st v bh c g, len ≤ st + e → e < n → EN len b q ie S T (o + j) (pend ++ R0) L W κ st v bh 1 → o + j ≤ 8 → isBoth pend j → actx R0 → lowR R0 2 → R0.length ≤ 6 * o + 2 → i ≤ st → sStop κ → ASK (mOf ie) q S T L0 L W0 W pend (D1 o + 4) c g → ∃ S', lX4_readBoth_7 rec n S 25 (nI o) (nI i) = some S' ∧ (FO len q S T S' L W st ∨ OKA len b q ie S T S' o R0 L0 W0 L W pend.length st (D1 o + 4) isBoth bStop) := by
  intro e
  induction e with
  | zero =>
    intro i n S T pend j R0 L0 W0 L W κ st v bh c g he hn hE hj hp hA hR hR0 hi hκm hV
    obtain ⟨n, rfl⟩ : ∃ z, n = z + 1 := ⟨n - 1, by omega⟩
    obtain ⟨hS, hTE, hTP, hTK, hq, hL, hW⟩ := id hE
    have hbl := hTK.2.2.1
    have hκ0 : κ = 0 := by
      rcases Nat.eq_zero_or_pos κ with h | h
      · exact h
      · have := hbl.2.2.1 (by omega); omega
    refine ⟨S, ?_, Or.inr ⟨T, 0, pend, j, c, g, L, W, κ, st, v, bh, hE, hj, hp, ⟨hκm, by omega⟩, fun n => rfl, by omega, FX.rfl', FE.rfl', hV, by omega, by omega⟩⟩
    rw [lX4_readBoth_7.eq_2]
    by_cases h3 : (300 : Int32) ≤ nI i
    · rw [if_pos h3]
    · rw [if_neg h3, hS.2.2.1, if_pos rfl, rc_25_0 hS.1, Option.bind_some, hTK.1.1, hκ0, if_neg (by decide)]
  | succ e ih =>
    intro i n S T pend j R0 L0 W0 L W κ st v bh c g he hn hE hj hp hA hR hR0 hi hκm hV
    obtain ⟨n, rfl⟩ : ∃ z, n = z + 1 := ⟨n - 1, by omega⟩
    obtain ⟨hS, hTE, hTP, hTK, hq, hL, hW⟩ := id hE
    have hlen := hTP.1
    have hbl := hTK.2.2.1
    have hκ3 := κ_lt hTK.2.2.2
    have e209 : (nI κ = (209 : Int32)) ↔ κ = 209 := nI_eq (a := κ) (b := 209) (by omega) (by decide)
    rw [lX4_readBoth_7.eq_2]
    by_cases hop : κ = 209
    · have hκ0 : κ ≠ 0 := by omega
      have hst := hbl.2.2.1 hκ0
      rw [if_neg (show ¬ (300 : Int32) ≤ nI i from nI_ge (a := i) (b := 300) (by omega) (by decide)), hS.2.2.1, if_pos rfl, rc_25_0 hS.1, Option.bind_some, hTK.1.1, if_pos (e209.mpr hop), Option.bind_some]
      -- what the reference sees
      obtain ⟨ops, R1, eR, hops⟩ := id hA
      have hpm := isBoth_mem hp
      have hPm : PLr T ((pend ++ ops) ++ 41 :: R1) := by rw [List.append_assoc, ← eR]; exact hTE.2.2.2.2.1
      have hopl : ∀ x, x ∈ pend ++ ops → x < 40 := fun x hx => by
        rcases List.mem_append.mp hx with hx | hx
        · exact (hpm x hx).1
        · have := hops x hx; omega
      obtain ⟨k1, k2, k3, k4⟩ := kind_m hTE.1 hPm (by decide) hopl
      have hcomp : mX9_isCompared T 0 = some (1, T) := isBoth_comp hTE.1 hp hTE.2.2.2.2.1
      have hbt := btw_rest hTK.2.2.2 (fun h => by have e1s' : κ ≠ 42 ∧ κ ≠ 47 ∧ κ ≠ 43 ∧ κ ≠ 45 := hκm; omega) k1
      rw [if_pos (by decide), hcomp, Option.bind_some, if_neg n10, if_pos hop] at hbt
      have hcn := isBoth_cnt hp
      obtain ⟨S2, T2, κ2, st2, v2, bh2, a1, a2, a3, a4, a5, a6, a7, a8, a9⟩ := tr_bin (op := 21) hE (by decide) hbt (fun x hx => (hpm x hx).2) (fun x r e => hR x r e) (by omega) (by omega) (by omega) hκ0 hS.1 rfl rfl
      rw [hcn, show o + j - j = o by omega] at a8
      rw [List.length_append] at hW
      have hE2 : EN len b q ie S2 T2 o (21 :: R0) L (W + pend.length) κ2 st2 v2 bh2 0 := ⟨a3.se hS, a8, a7, a6, hq, by omega, by show W + pend.length + (R0.length + 1) ≤ st2; omega⟩
      obtain ⟨S3, b1, b2⟩ := hAsk S2 T2 (21 :: R0) L (W + pend.length) κ2 st2 v2 bh2 hE2 (actx_cons hA (Or.inr (Or.inl rfl))) (by show R0.length + 1 ≤ 6 * o + 3; omega)
      rw [a1, Option.bind_some, b1, Option.bind_some]
      obtain ⟨y1, y2, y3, y4, y5, y6⟩ := id hV
      rcases b2 with b2 | ⟨T3, K3, pend3, j3, c3, g3, L3, W3, κ3, st3, v3, bh3, d1, dj, dp, ds, d2, d3, d4, d5, ⟨d10, d11, d6, d7, d8, d9⟩, d12, d13⟩
      · have b3 := b2.more (st := st) (K := 1) a3.fx a4 (Nat.le_refl _) (by omega) a2 (by omega)
        obtain ⟨_, _, _, _, hFS, _⟩ := id b3
        obtain ⟨S5, p1, p2, p3, p4⟩ := putf (op := 16) (arg := 0) hFS hq
        obtain ⟨n, rfl⟩ : ∃ z, n = z + 1 := ⟨n - 1, by omega⟩
        refine ⟨S5, ?_, Or.inl (b3.beh p3 p4 p2)⟩
        rw [dO_out hFS.2.1 hq, Option.bind_some, p1, Option.bind_some, nI_1, lX4_readBoth_7.eq_2]
        by_cases h3 : (300 : Int32) ≤ nI (i + 1)
        · rw [if_pos h3]
        · rw [if_neg h3, if_neg p2.2.2.1]
      · obtain ⟨hS3, hTE3, hTP3, hTK3, -, hL3, hW3⟩ := id d1
        have hbl3 := hTK3.2.2.1
        obtain ⟨S5, p1, p2, p3, p4, p5, p6, p7, p8⟩ := putc (op := 16) (arg := 0) hS3 hq (show L3 < 300 by omega)
        have hpe : pend3 ++ 21 :: R0 = (pend3 ++ [21]) ++ R0 := by rw [List.append_assoc]; rfl
        rw [hpe] at hTE3 hW3
        have hE5 : EN len b q ie S5 T3 (o + j3) ((pend3 ++ [21]) ++ R0) (L3 + 1) W3 κ3 st3 v3 bh3 1 := ⟨p2, hTE3, hTP3.se p7 p8, hTK3.se p7, hq, by omega, hW3⟩
        have hfx3 : FX q L S S3 := a3.fx.trans d4 (Nat.le_refl _)
        have hfe3 : FE q W T T3 := a4.trans d5 (by omega)
        have hV5 : ASK (mOf ie) q S5 T3 L0 (L3 + 1) W0 W3 (pend3 ++ [21]) (D1 o + 4) (c ++ opsC pend ++ c3) (fun N => g N && g3 N) := by
          refine ⟨by omega, ?_, ?_, ?_, ?_, ?_⟩
          · refine cet_and (D := D1 o + 4) (D2 := D1 o + 3) (y2.congr (fun i a b' => ?_)) (d11.congr (fun i a b' => p6 i (by omega))) (by omega) (by omega) p4 (Nat.le_refl _) (Nat.le_refl _) (by omega)
            exact ⟨((p6 i (by omega)).1).trans (hfx3.2.2.2.2.2 i (by omega)).1, ((p6 i (by omega)).2).trans (hfx3.2.2.2.2.2 i (by omega)).2⟩
          · rw [codL_app, codL_app]
            refine ⟨⟨codL_congr c W0 (fun i a b' => ?_) y3, ?_⟩, ?_⟩
            · rw [d5.2.2.2.2 i (Or.inl (by omega)), a4.2.2.2.2 i (Or.inl (by omega))]
            · rw [← y4]
              refine codL_congr _ _ (fun i a b' => ?_) a9
              rw [opsC_len] at b'
              exact d5.2.2.2.2 i (Or.inl (by omega))
            · rw [List.length_append, opsC_len, ← Nat.add_assoc, ← y4]
              exact d6
          · rw [List.length_append, List.length_append, opsC_len]
            omega
          · rw [opsC_app, List.append_assoc (c ++ opsC pend), ← List.append_assoc c3]
            exact okC_app y5 (okC_app d8 (okC_one (by simp [okP])))
          · have := mt_and y6 d9
            rw [opsC_app, List.append_assoc (c ++ opsC pend), ← List.append_assoc c3, ← List.append_assoc (c ++ opsC pend)]
            exact this
        obtain ⟨S', r1, r2⟩ := ih (i + 1) n S5 T3 (pend3 ++ [21]) j3 R0 L0 W0 (L3 + 1) W3 κ3 st3 v3 bh3 _ _ (by omega) (by omega) hE5 dj ⟨pend3, [21], rfl, dp, Or.inr rfl⟩ hA hR hR0 (by omega) ds hV5
        refine ⟨S', by rw [dO_out hS3.2.1 hq, Option.bind_some, p1, Option.bind_some, nI_1]; exact r1, ?_⟩
        have hfx5 : FX q L S S5 := hfx3.trans p3 (by omega)
        have haut : ∀ n, aut (n + (K3 + 1)) T = aut n T3 := fun n => by rw [show n + (K3 + 1) = n + K3 + 1 by omega, a2, d2]
        rcases r2 with r2 | ⟨T', K, pend', j', c', f', L', W', κ', st', v', bh', z1, zj, z2, z3, z4, z5, z6, z7, z8, z9, z10⟩
        · exact Or.inl (r2.more hfx5 hfe3 (by omega) (by omega) haut (by omega))
        · refine Or.inr ⟨T', K + (K3 + 1), pend', j', c', f', L', W', κ', st', v', bh', z1, zj, z2, z3, fun n => by rw [show n + (K + (K3 + 1)) = n + K + (K3 + 1) by omega, haut, z4], by omega, hfx5.trans z6 (by omega), hfe3.trans z7 (by omega), z8, by omega, ?_⟩
          have : (pend3 ++ [21] : List Nat).length = pend3.length + 1 := by rw [List.length_append]; rfl
          omega
    · refine ⟨S, ?_, Or.inr ⟨T, 0, pend, j, c, g, L, W, κ, st, v, bh, hE, hj, hp, ⟨hκm, hop⟩, fun n => rfl, by omega, FX.rfl', FE.rfl', hV, by omega, by omega⟩⟩
      by_cases h3 : (300 : Int32) ≤ nI i
      · rw [if_pos h3]
      · rw [if_neg h3, hS.2.2.1, if_pos rfl, rc_25_0 hS.1, Option.bind_some, hTK.1.1, if_neg (fun q => hop (e209.mp q))]
theorem both_ok {len : Nat} {b : Nat → Nat} {q : Nat} {ie : Bool} {rec : Nat → xS → Nat → Int32 → Option xS} {o : Nat} (ho : o ≤ 8) (hAsk : AskC len b q ie (rec 6) o) : BothC len b q ie (oX4_readBoth rec) o := by
  intro S T R0 L W κ st v bh hE hA hR hR0
  obtain ⟨S3, b1, b2⟩ := hAsk S T R0 L W κ st v bh hE hA (by omega)
  unfold oX4_readBoth
  rw [b1, Option.bind_some]
  rcases b2 with b2 | ⟨T3, K3, pend3, j3, c3, f3, L3, W3, κ3, st3, v3, bh3, d1, dj, dp, ds, d2, d3, d4, d5, ⟨d10, d11, d6, d7, d8, d9⟩, d12, d13⟩
  · obtain ⟨_, _, _, _, hFS, _⟩ := id b2
    exact ⟨S3, by rw [lX4_readBoth_7.eq_2, if_neg (by decide), if_neg hFS.2.2.1], Or.inl b2⟩
  · have hl := d1.2.2.1.1
    obtain ⟨S', r1, r2⟩ := both_loop ho hAsk 400 0 5000 S3 T3 pend3 j3 R0 L W L3 W3 κ3 st3 v3 bh3 c3 f3 (by omega) (by decide) d1 dj ⟨pend3, [], by rw [List.append_nil], dp, Or.inl rfl⟩ hA hR hR0 (by omega) ds ⟨d10, d11.mono (by omega), d6, d7, d8, d9⟩
    refine ⟨S', r1, ?_⟩
    rcases r2 with r2 | ⟨T', K, pend', j', c', f', L', W', κ', st', v', bh', z1, zj, z2, z3, z4, z5, z6, z7, z8, z9, z10⟩
    · exact Or.inl (r2.more d4 d5 (by omega) (by omega) d2 (by omega))
    · exact Or.inr ⟨T', K + K3, pend', j', c', f', L', W', κ', st', v', bh', z1, zj, z2, z3, fun n => by rw [show n + (K + K3) = n + K + K3 by omega, d2, z4], by omega, d4.trans z6 (by omega), d5.trans z7 (by omega), z8, by omega, by omega⟩
def isEither (p : List Nat) (j : Nat) : Prop := ∃ a u, p = a ++ u ∧ isBoth a j ∧ (u = [] ∨ u = [22])
def eStop (κ : Nat) : Prop := bStop κ ∧ κ ≠ 208
def EitherC (len : Nat) (b : Nat → Nat) (q : Nat) (ie : Bool) (F : xS → Nat → Int32 → Option xS) (o : Nat) : Prop := ∀ S T R0 L W κ st v bh, EN len b q ie S T o R0 L W κ st v bh 0 → actx R0 → lowR R0 1 → R0.length ≤ 6 * o + 1 → ∃ S', F S 25 (nI o) = some S' ∧ (FO len q S T S' L W st ∨ OKA len b q ie S T S' o R0 L W L W 0 st (D1 o + 5) isEither eStop)
theorem isEither_mem {p : List Nat} {j : Nat} (h : isEither p j) : ∀ x, x ∈ p → x < 40 ∧ rk 22 ≤ rk x := by
  obtain ⟨a, t, rfl, h1, h2⟩ := h
  intro x hx
  rcases List.mem_append.mp hx with hx | hx
  · have := isBoth_mem h1 x hx
    exact ⟨this.1, Nat.le_trans (by decide) this.2⟩
  · rcases h2 with rfl | rfl
    · cases hx
    · rw [List.mem_singleton] at hx; subst hx; decide
theorem isEither_cnt {p : List Nat} {j : Nat} (h : isEither p j) : cnt2 p = j := by
  obtain ⟨a, t, rfl, h1, h2⟩ := h
  rw [cnt2_app, isBoth_cnt h1]
  rcases h2 with rfl | rfl <;> rfl
theorem isEither_comp {T : xS} (hM : RMr T) {p R : List Nat} {j : Nat} (hp : isEither p j) (hP : PLr T (p ++ R)) : mX9_isCompared T 0 = some (1, T) := by
  obtain ⟨a, u, rfl, h1, h2⟩ := hp
  rw [List.append_assoc] at hP
  exact isBoth_comp hM h1 hP
theorem either_loop {len : Nat} {b : Nat → Nat} {q : Nat} {ie : Bool} {rec : Nat → xS → Nat → Int32 → Option xS} {o : Nat} (ho : o ≤ 8) (hBoth : BothC len b q ie (rec 5) o) : ∀ e i n S T pend j R0 L0 W0 L W κ st v bh c g, len ≤ st + e → e < n → EN len b q ie S T (o + j) (pend ++ R0) L W κ st v bh 1 → o + j ≤ 8 → isEither pend j → actx R0 → lowR R0 1 → R0.length ≤ 6 * o + 1 → i ≤ st → bStop κ → ASK (mOf ie) q S T L0 L W0 W pend (D1 o + 5) c g → ∃ S', lX4_readEither_7 rec n S 25 (nI o) (nI i) = some S' ∧ (FO len q S T S' L W st ∨ OKA len b q ie S T S' o R0 L0 W0 L W pend.length st (D1 o + 5) isEither eStop) := by
  intro e
  induction e with
  | zero =>
    intro i n S T pend j R0 L0 W0 L W κ st v bh c g he hn hE hj hp hA hR hR0 hi hκm hV
    obtain ⟨n, rfl⟩ : ∃ z, n = z + 1 := ⟨n - 1, by omega⟩
    obtain ⟨hS, hTE, hTP, hTK, hq, hL, hW⟩ := id hE
    have hbl := hTK.2.2.1
    have hκ0 : κ = 0 := by
      rcases Nat.eq_zero_or_pos κ with h | h
      · exact h
      · have := hbl.2.2.1 (by omega); omega
    refine ⟨S, ?_, Or.inr ⟨T, 0, pend, j, c, g, L, W, κ, st, v, bh, hE, hj, hp, ⟨hκm, by omega⟩, fun n => rfl, by omega, FX.rfl', FE.rfl', hV, by omega, by omega⟩⟩
    rw [lX4_readEither_7.eq_2]
    by_cases h3 : (300 : Int32) ≤ nI i
    · rw [if_pos h3]
    · rw [if_neg h3, hS.2.2.1, if_pos rfl, rc_25_0 hS.1, Option.bind_some, hTK.1.1, hκ0, if_neg (by decide)]
  | succ e ih =>
    intro i n S T pend j R0 L0 W0 L W κ st v bh c g he hn hE hj hp hA hR hR0 hi hκm hV
    obtain ⟨n, rfl⟩ : ∃ z, n = z + 1 := ⟨n - 1, by omega⟩
    obtain ⟨hS, hTE, hTP, hTK, hq, hL, hW⟩ := id hE
    have hlen := hTP.1
    have hbl := hTK.2.2.1
    have hκ3 := κ_lt hTK.2.2.2
    have e208 : (nI κ = (208 : Int32)) ↔ κ = 208 := nI_eq (a := κ) (b := 208) (by omega) (by decide)
    rw [lX4_readEither_7.eq_2]
    by_cases hop : κ = 208
    · have hκ0 : κ ≠ 0 := by omega
      have hst := hbl.2.2.1 hκ0
      rw [if_neg (show ¬ (300 : Int32) ≤ nI i from nI_ge (a := i) (b := 300) (by omega) (by decide)), hS.2.2.1, if_pos rfl, rc_25_0 hS.1, Option.bind_some, hTK.1.1, if_pos (e208.mpr hop), Option.bind_some]
      -- what the reference sees
      obtain ⟨ops, R1, eR, hops⟩ := id hA
      have hpm := isEither_mem hp
      have hPm : PLr T ((pend ++ ops) ++ 41 :: R1) := by rw [List.append_assoc, ← eR]; exact hTE.2.2.2.2.1
      have hopl : ∀ x, x ∈ pend ++ ops → x < 40 := fun x hx => by
        rcases List.mem_append.mp hx with hx | hx
        · exact (hpm x hx).1
        · have := hops x hx; omega
      obtain ⟨k1, k2, k3, k4⟩ := kind_m hTE.1 hPm (by decide) hopl
      have hcomp : mX9_isCompared T 0 = some (1, T) := isEither_comp hTE.1 hp hTE.2.2.2.2.1
      have hbt := btw_rest hTK.2.2.2 (fun h => by have e1s' : κ ≠ 42 ∧ κ ≠ 47 ∧ κ ≠ 43 ∧ κ ≠ 45 := hκm.1; omega) k1
      rw [if_pos (by decide), hcomp, Option.bind_some, if_neg n10, if_neg (show ¬ κ = 209 by omega), if_pos hop] at hbt
      have hcn := isEither_cnt hp
      obtain ⟨S2, T2, κ2, st2, v2, bh2, a1, a2, a3, a4, a5, a6, a7, a8, a9⟩ := tr_bin (op := 22) hE (by decide) hbt (fun x hx => (hpm x hx).2) (fun x r e => hR x r e) (by omega) (by omega) (by omega) hκ0 hS.1 rfl rfl
      rw [hcn, show o + j - j = o by omega] at a8
      rw [List.length_append] at hW
      have hE2 : EN len b q ie S2 T2 o (22 :: R0) L (W + pend.length) κ2 st2 v2 bh2 0 := ⟨a3.se hS, a8, a7, a6, hq, by omega, by show W + pend.length + (R0.length + 1) ≤ st2; omega⟩
      obtain ⟨S3, b1, b2⟩ := hBoth S2 T2 (22 :: R0) L (W + pend.length) κ2 st2 v2 bh2 hE2 (actx_cons hA (Or.inr (Or.inr rfl))) (fun x r e => by cases e; decide) (by show R0.length + 1 ≤ 6 * o + 2; omega)
      rw [a1, Option.bind_some, b1, Option.bind_some]
      obtain ⟨y1, y2, y3, y4, y5, y6⟩ := id hV
      rcases b2 with b2 | ⟨T3, K3, pend3, j3, c3, g3, L3, W3, κ3, st3, v3, bh3, d1, dj, dp, ds, d2, d3, d4, d5, ⟨d10, d11, d6, d7, d8, d9⟩, d12, d13⟩
      · have b3 := b2.more (st := st) (K := 1) a3.fx a4 (Nat.le_refl _) (by omega) a2 (by omega)
        obtain ⟨_, _, _, _, hFS, _⟩ := id b3
        obtain ⟨S5, p1, p2, p3, p4⟩ := putf (op := 17) (arg := 0) hFS hq
        obtain ⟨n, rfl⟩ : ∃ z, n = z + 1 := ⟨n - 1, by omega⟩
        refine ⟨S5, ?_, Or.inl (b3.beh p3 p4 p2)⟩
        rw [dO_out hFS.2.1 hq, Option.bind_some, p1, Option.bind_some, nI_1, lX4_readEither_7.eq_2]
        by_cases h3 : (300 : Int32) ≤ nI (i + 1)
        · rw [if_pos h3]
        · rw [if_neg h3, if_neg p2.2.2.1]
      · obtain ⟨hS3, hTE3, hTP3, hTK3, -, hL3, hW3⟩ := id d1
        have hbl3 := hTK3.2.2.1
        obtain ⟨S5, p1, p2, p3, p4, p5, p6, p7, p8⟩ := putc (op := 17) (arg := 0) hS3 hq (show L3 < 300 by omega)
        have hpe : pend3 ++ 22 :: R0 = (pend3 ++ [22]) ++ R0 := by rw [List.append_assoc]; rfl
        rw [hpe] at hTE3 hW3
        have hE5 : EN len b q ie S5 T3 (o + j3) ((pend3 ++ [22]) ++ R0) (L3 + 1) W3 κ3 st3 v3 bh3 1 := ⟨p2, hTE3, hTP3.se p7 p8, hTK3.se p7, hq, by omega, hW3⟩
        have hfx3 : FX q L S S3 := a3.fx.trans d4 (Nat.le_refl _)
        have hfe3 : FE q W T T3 := a4.trans d5 (by omega)
        have hV5 : ASK (mOf ie) q S5 T3 L0 (L3 + 1) W0 W3 (pend3 ++ [22]) (D1 o + 5) (c ++ opsC pend ++ c3) (fun N => g N || g3 N) := by
          refine ⟨by omega, ?_, ?_, ?_, ?_, ?_⟩
          · refine cet_or (D := D1 o + 5) (D2 := D1 o + 4) (y2.congr (fun i a b' => ?_)) (d11.congr (fun i a b' => p6 i (by omega))) (by omega) (by omega) p4 (Nat.le_refl _) (Nat.le_refl _) (by omega)
            exact ⟨((p6 i (by omega)).1).trans (hfx3.2.2.2.2.2 i (by omega)).1, ((p6 i (by omega)).2).trans (hfx3.2.2.2.2.2 i (by omega)).2⟩
          · rw [codL_app, codL_app]
            refine ⟨⟨codL_congr c W0 (fun i a b' => ?_) y3, ?_⟩, ?_⟩
            · rw [d5.2.2.2.2 i (Or.inl (by omega)), a4.2.2.2.2 i (Or.inl (by omega))]
            · rw [← y4]
              refine codL_congr _ _ (fun i a b' => ?_) a9
              rw [opsC_len] at b'
              exact d5.2.2.2.2 i (Or.inl (by omega))
            · rw [List.length_append, opsC_len, ← Nat.add_assoc, ← y4]
              exact d6
          · rw [List.length_append, List.length_append, opsC_len]
            omega
          · rw [opsC_app, List.append_assoc (c ++ opsC pend), ← List.append_assoc c3]
            exact okC_app y5 (okC_app d8 (okC_one (by simp [okP])))
          · have := mt_or y6 d9
            rw [opsC_app, List.append_assoc (c ++ opsC pend), ← List.append_assoc c3, ← List.append_assoc (c ++ opsC pend)]
            exact this
        obtain ⟨S', r1, r2⟩ := ih (i + 1) n S5 T3 (pend3 ++ [22]) j3 R0 L0 W0 (L3 + 1) W3 κ3 st3 v3 bh3 _ _ (by omega) (by omega) hE5 dj ⟨pend3, [22], rfl, dp, Or.inr rfl⟩ hA hR hR0 (by omega) ds hV5
        refine ⟨S', by rw [dO_out hS3.2.1 hq, Option.bind_some, p1, Option.bind_some, nI_1]; exact r1, ?_⟩
        have hfx5 : FX q L S S5 := hfx3.trans p3 (by omega)
        have haut : ∀ n, aut (n + (K3 + 1)) T = aut n T3 := fun n => by rw [show n + (K3 + 1) = n + K3 + 1 by omega, a2, d2]
        rcases r2 with r2 | ⟨T', K, pend', j', c', f', L', W', κ', st', v', bh', z1, zj, z2, z3, z4, z5, z6, z7, z8, z9, z10⟩
        · exact Or.inl (r2.more hfx5 hfe3 (by omega) (by omega) haut (by omega))
        · refine Or.inr ⟨T', K + (K3 + 1), pend', j', c', f', L', W', κ', st', v', bh', z1, zj, z2, z3, fun n => by rw [show n + (K + (K3 + 1)) = n + K + (K3 + 1) by omega, haut, z4], by omega, hfx5.trans z6 (by omega), hfe3.trans z7 (by omega), z8, by omega, ?_⟩
          have : (pend3 ++ [22] : List Nat).length = pend3.length + 1 := by rw [List.length_append]; rfl
          omega
    · refine ⟨S, ?_, Or.inr ⟨T, 0, pend, j, c, g, L, W, κ, st, v, bh, hE, hj, hp, ⟨hκm, hop⟩, fun n => rfl, by omega, FX.rfl', FE.rfl', hV, by omega, by omega⟩⟩
      by_cases h3 : (300 : Int32) ≤ nI i
      · rw [if_pos h3]
      · rw [if_neg h3, hS.2.2.1, if_pos rfl, rc_25_0 hS.1, Option.bind_some, hTK.1.1, if_neg (fun q => hop (e208.mp q))]
theorem either_ok {len : Nat} {b : Nat → Nat} {q : Nat} {ie : Bool} {rec : Nat → xS → Nat → Int32 → Option xS} {o : Nat} (ho : o ≤ 8) (hBoth : BothC len b q ie (rec 5) o) : EitherC len b q ie (oX4_readEither rec) o := by
  intro S T R0 L W κ st v bh hE hA hR hR0
  obtain ⟨S3, b1, b2⟩ := hBoth S T R0 L W κ st v bh hE hA (fun x r e => by have := hR x r e; omega) (by omega)
  unfold oX4_readEither
  rw [b1, Option.bind_some]
  rcases b2 with b2 | ⟨T3, K3, pend3, j3, c3, f3, L3, W3, κ3, st3, v3, bh3, d1, dj, dp, ds, d2, d3, d4, d5, ⟨d10, d11, d6, d7, d8, d9⟩, d12, d13⟩
  · obtain ⟨_, _, _, _, hFS, _⟩ := id b2
    exact ⟨S3, by rw [lX4_readEither_7.eq_2, if_neg (by decide), if_neg hFS.2.2.1], Or.inl b2⟩
  · have hl := d1.2.2.1.1
    obtain ⟨S', r1, r2⟩ := either_loop ho hBoth 400 0 5000 S3 T3 pend3 j3 R0 L W L3 W3 κ3 st3 v3 bh3 c3 f3 (by omega) (by decide) d1 dj ⟨pend3, [], by rw [List.append_nil], dp, Or.inl rfl⟩ hA hR hR0 (by omega) ds ⟨d10, d11.mono (by omega), d6, d7, d8, d9⟩
    refine ⟨S', r1, ?_⟩
    rcases r2 with r2 | ⟨T', K, pend', j', c', f', L', W', κ', st', v', bh', z1, zj, z2, z3, z4, z5, z6, z7, z8, z9, z10⟩
    · exact Or.inl (r2.more d4 d5 (by omega) (by omega) d2 (by omega))
    · exact Or.inr ⟨T', K + K3, pend', j', c', f', L', W', κ', st', v', bh', z1, zj, z2, z3, fun n => by rw [show n + (K + K3) = n + K + K3 by omega, d2, z4], by omega, d4.trans z6 (by omega), d5.trans z7 (by omega), z8, by omega, by omega⟩

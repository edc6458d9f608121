/-! THE PARSERS: sums -/
theorem sum_loop {len : Nat} {b : Nat → Nat} {q : Nat} {ie : Bool} {rec : Nat → xS → Nat → Int32 → Option xS} {o : Nat} (ho : o ≤ 8) (hPr : ProdC len b q ie (rec 1) o) : ∀ e i n S T pend R0 L0 W0 L W κ st v bh c f, len ≤ st + e → e < n → EN len b q ie S T o (pend ++ R0) L W κ st v bh 1 → isSum pend → lowR R0 5 → R0.length ≤ 6 * o + 4 → i ≤ st → κ ≠ 42 ∧ κ ≠ 47 → VAL (mOf ie) q S T L0 L W0 W pend (D1 o + 2) c f → ∃ S', lX4_readSum_7 rec n S 25 (nI o) (nI i) = some S' ∧ (FO len q S T S' L W st ∨ OKV len b q ie S T S' o R0 L0 W0 L W pend.length st (D1 o + 2) isSum (fun κ => κ ≠ 42 ∧ κ ≠ 47 ∧ κ ≠ 43 ∧ κ ≠ 45)) := by
  intro e
  induction e with
  | zero =>
    intro i n S T pend R0 L0 W0 L W κ st v bh c f he hn hE hp hR hR0 hi hκm hV
    obtain ⟨n, rfl⟩ : ∃ z, n = z + 1 := ⟨n - 1, by omega⟩
    obtain ⟨hS, hTE, hTP, hTK, hq, hL, hW⟩ := id hE
    have hbl := hTK.2.2.1
    have hκ0 : κ = 0 := by
      rcases Nat.eq_zero_or_pos κ with h | h
      · exact h
      · have := hbl.2.2.1 (by omega); omega
    have hok : OKV len b q ie S T S o R0 L0 W0 L W pend.length st (D1 o + 2) isSum (fun κ => κ ≠ 42 ∧ κ ≠ 47 ∧ κ ≠ 43 ∧ κ ≠ 45) := ⟨T, 0, pend, c, f, L, W, κ, st, v, bh, hE, hp, by omega, fun n => rfl, by omega, FX.rfl', FE.rfl', hV, by omega, by omega⟩
    refine ⟨S, ?_, Or.inr hok⟩
    rw [lX4_readSum_7.eq_2]
    by_cases h3 : (300 : Int32) ≤ nI i
    · rw [if_pos h3]
    · rw [if_neg h3, hS.2.2.1, if_pos rfl, rc_25_0 hS.1, Option.bind_some, hTK.1.1, hκ0, if_neg (by decide), Option.bind_some, hTK.1.1, hκ0, if_neg (by decide)]
  | succ e ih =>
    intro i n S T pend R0 L0 W0 L W κ st v bh c f he hn hE hp hR hR0 hi hκm hV
    obtain ⟨n, rfl⟩ : ∃ z, n = z + 1 := ⟨n - 1, by omega⟩
    obtain ⟨hS, hTE, hTP, hTK, hq, hL, hW⟩ := id hE
    have hlen := hTP.1
    have hbl := hTK.2.2.1
    have hκ3 := κ_lt hTK.2.2.2
    have hpl : pend.length ≤ 2 := by
      obtain ⟨pa, pb, rfl, h1, h2⟩ := hp
      have := is6_len h1
      have := is5_len h2
      rw [List.length_append]; omega
    have hok : (κ ≠ 43 ∧ κ ≠ 45) → OKV len b q ie S T S o R0 L0 W0 L W pend.length st (D1 o + 2) isSum (fun κ => κ ≠ 42 ∧ κ ≠ 47 ∧ κ ≠ 43 ∧ κ ≠ 45) := fun h => ⟨T, 0, pend, c, f, L, W, κ, st, v, bh, hE, hp, ⟨hκm.1, hκm.2, h.1, h.2⟩, fun n => rfl, by omega, FX.rfl', FE.rfl', hV, by omega, by omega⟩
    have e43 : (nI κ = (43 : Int32)) ↔ κ = 43 := nI_eq (a := κ) (b := 43) (by omega) (by decide)
    have e45 : (nI κ = (45 : Int32)) ↔ κ = 45 := nI_eq (a := κ) (b := 45) (by omega) (by decide)
    rw [lX4_readSum_7.eq_2]
    by_cases hop : κ = 43 ∨ κ = 45
    · have hκ0 : κ ≠ 0 := by omega
      have hst := hbl.2.2.1 hκ0
      rw [if_neg (show ¬ (300 : Int32) ≤ nI i from nI_ge (a := i) (b := 300) (by omega) (by decide)), hS.2.2.1, if_pos rfl, rc_25_0 hS.1, Option.bind_some, hTK.1.1]
      obtain ⟨op, hop1, hop2, hb⟩ : ∃ op, (op = 3 ∨ op = 4) ∧ (if (nI κ = 43 : Prop) then (6 : Int32) else 7) = nI (op + 3) ∧ mX9_betweenOf T 0 0 = some (nI op, T) := by
        refine ⟨btw κ, ?_, ?_, btw_arith hTK.2.2.2 (by omega)⟩
        · rcases hop with rfl | rfl <;> decide
        · rcases hop with rfl | rfl <;> decide
      have hrk : rk op = 5 := by rcases hop1 with rfl | rfl <;> decide
      rw [List.length_append] at hW
      obtain ⟨S2, T1, κ1, st1, v1, bh1, a1, a2, a3, a4, a5, a6, a7, a8, a9⟩ := tr_bin hE (show op < 40 by omega) hb (fun x hx => by
        have := isSum_mem hp x hx
        rw [hrk]
        rcases this with rfl | rfl | rfl | rfl <;> decide) (fun x r e => by rw [hrk]; exact hR x r e) (by rw [cnt2_0 pend (fun x hx => by have := isSum_mem hp x hx; omega)]; omega) (by omega) (by omega) hκ0 hS.1 rfl rfl
      rw [cnt2_0 pend (fun x hx => by have := isSum_mem hp x hx; omega)] at a8
      have hS2 := a3.se hS
      have hE1 : EN len b q ie S2 T1 o (op :: R0) L (W + pend.length) κ1 st1 v1 bh1 0 := ⟨hS2, a8, a7, a6, hq, by omega, by show W + pend.length + (R0.length + 1) ≤ st1; omega⟩
      obtain ⟨S3, b1, b2⟩ := hPr S2 T1 (op :: R0) L (W + pend.length) κ1 st1 v1 bh1 hE1 (nA_op (by rw [hrk]; decide)) (fun x r e => by cases e; omega) (by show R0.length + 1 ≤ 6 * o + 5; omega)
      -- the text of the loop
      have hcl : (if (nI κ = 43 : Prop) then (jX4_readSum_45 rec (lX4_readSum_7 rec n) S 25 (nI o) (nI i)) else ((some 23).bind fun d5 => if ((gI S d5 2) = 45 : Prop) then (jX4_readSum_45 rec (lX4_readSum_7 rec n) S 25 (nI o) (nI i)) else (some S))) = (mX6_put S3 (26 + 6 * q) (nI (op + 3)) 0).bind fun S5 => lX4_readSum_7 rec n S5 25 (nI o) (nI (i + 1)) := by
        have e1 : (if (nI κ = 43 : Prop) then (jX4_readSum_45 rec (lX4_readSum_7 rec n) S 25 (nI o) (nI i)) else ((some 23).bind fun d5 => if ((gI S d5 2) = 45 : Prop) then (jX4_readSum_45 rec (lX4_readSum_7 rec n) S 25 (nI o) (nI i)) else (some S))) = jX4_readSum_45 rec (lX4_readSum_7 rec n) S 25 (nI o) (nI i) := by
          by_cases h43 : κ = 43
          · rw [if_pos (e43.mpr h43)]
          · rw [if_neg (fun q => h43 (e43.mp q)), Option.bind_some, hTK.1.1, if_pos (e45.mpr (hop.resolve_left h43))]
        rw [e1]
        have e2 : jX4_readSum_45 rec (lX4_readSum_7 rec n) S 25 (nI o) (nI i) = jX4_readSum_64 rec (lX4_readSum_7 rec n) S 25 (nI o) (nI i) (nI (op + 3)) := by
          unfold jX4_readSum_45
          rw [rc_25_0 hS.1, Option.bind_some, hTK.1.1, ← hop2]
          split <;> rfl
        rw [e2]
        unfold jX4_readSum_64
        rw [rc_25_0 hS.1, Option.bind_some, a1, Option.bind_some, b1, Option.bind_some, nI_1]
        have hout : gR S3 25 1 = some (26 + 6 * q) := by
          rcases b2 with b2 | ⟨T3, K3, pend3, c3, f3, L3, W3, κ3, st3, v3, bh3, d1, -⟩
          · obtain ⟨_, _, _, _, x1, _⟩ := b2
            exact x1.2.1
          · exact d1.1.2.1
        rw [dO_out hout hq, Option.bind_some]
      rcases b2 with b2 | ⟨T3, K3, pend3, c3, f3, L3, W3, κ3, st3, v3, bh3, d1, dp, ds, d2, d3, d4, d5, ⟨d10, d11, d6, d7, d8, d9⟩, d12, d13⟩
      · -- a FAULT in it
        have b3 := b2.more (K := 1) a3.fx a4 (Nat.le_refl _) (by omega) a2 (show 1 + st ≤ st1 by omega)
        obtain ⟨_, _, _, _, hFS, _⟩ := id b3
        obtain ⟨S5, p1, p2, p3, p4⟩ := putf (op := nI (op + 3)) (arg := 0) hFS hq
        obtain ⟨n, rfl⟩ : ∃ z, n = z + 1 := ⟨n - 1, by omega⟩
        refine ⟨S5, ?_, Or.inl (b3.beh p3 p4 p2)⟩
        rw [hcl, p1, Option.bind_some, lX4_readSum_7.eq_2]
        by_cases h3 : (300 : Int32) ≤ nI (i + 1)
        · rw [if_pos h3]
        · rw [if_neg h3, if_neg p2.2.2.1]
      · -- well read
        obtain ⟨hS3, hTE3, hTP3, hTK3, -, hL3, hW3⟩ := id d1
        have hbl3 := hTK3.2.2.1
        have hL3' : L3 < 300 := by omega
        obtain ⟨S5, p1, p2, p3, p4, p5, p6, p7, p8⟩ := putc (op := nI (op + 3)) (arg := 0) hS3 hq hL3'
        have hpe : pend3 ++ op :: R0 = (pend3 ++ [op]) ++ R0 := by rw [List.append_assoc]; rfl
        rw [hpe] at hTE3 hW3
        have hE5 : EN len b q ie S5 T3 o ((pend3 ++ [op]) ++ R0) (L3 + 1) W3 κ3 st3 v3 bh3 1 := ⟨p2, hTE3, hTP3.se p7 p8, hTK3.se p7, hq, by omega, hW3⟩
        obtain ⟨y1, y2, y3, y4, y5, y6⟩ := hV
        have hfx3 : FX q L S S3 := a3.fx.trans d4 (Nat.le_refl _)
        have hfe3 : FE q W T T3 := a4.trans d5 (by omega)
        have hV5 : VAL (mOf ie) q S5 T3 L0 (L3 + 1) W0 W3 (pend3 ++ [op]) (D1 o + 2) (c ++ opsC pend ++ c3) (fun N => op2 op (f N) (f3 N)) := by
          refine ⟨by omega, ?_, ?_, ?_, ?_, ?_⟩
          · refine cev_two (op := op) (D := D1 o + 2) (D2 := D1 o + 1) (by omega) (y2.congr (fun i a b' => ?_)) (d11.congr (fun i a b' => p6 i (by omega))) (by omega) (by omega) p4 (Nat.le_refl _) (Nat.le_refl _) (by unfold D1; omega)
            exact ⟨((p6 i (by omega)).1).trans (hfx3.2.2.2.2.2 i (by omega)).1, ((p6 i (by omega)).2).trans (hfx3.2.2.2.2.2 i (by omega)).2⟩
          · rw [codL_app, codL_app]
            refine ⟨⟨codL_congr c W0 (fun i a b' => ?_) y3, ?_⟩, ?_⟩
            · rw [d5.2.2.2.2 i (Or.inl (by omega)), a4.2.2.2.2 i (Or.inl (by omega))]
            · rw [← y4]
              refine codL_congr _ _ (fun i a b' => ?_) a9
              rw [opsC_len] at b'
              exact d5.2.2.2.2 i (Or.inl (by omega))
            · rw [List.length_append, opsC_len, ← Nat.add_assoc, ← y4]
              exact d6
          · rw [List.length_append, List.length_append, opsC_len]
            omega
          · rw [opsC_app, List.append_assoc (c ++ opsC pend), ← List.append_assoc c3]
            refine okC_app y5 (okC_app d8 ?_)
            exact okC_one (by rcases hop1 with rfl | rfl <;> simp [okP])
          · have := mv_two (o := op) (by omega) y6 d9
            rw [opsC_app, List.append_assoc (c ++ opsC pend), ← List.append_assoc c3, ← List.append_assoc (c ++ opsC pend)]
            exact this
        obtain ⟨S', r1, r2⟩ := ih (i + 1) n S5 T3 (pend3 ++ [op]) R0 L0 W0 (L3 + 1) W3 κ3 st3 v3 bh3 _ _ (by omega) (by omega) hE5 ⟨pend3, [op], rfl, dp, by rcases hop1 with rfl | rfl; exact Or.inr (Or.inl rfl); exact Or.inr (Or.inr rfl)⟩ hR hR0 (by omega) ds hV5
        refine ⟨S', by rw [hcl, p1, Option.bind_some]; exact r1, ?_⟩
        have hfx5 : FX q L S S5 := hfx3.trans p3 (by omega)
        have haut : ∀ n, aut (n + (K3 + 1)) T = aut n T3 := fun n => by rw [show n + (K3 + 1) = n + K3 + 1 by omega, a2, d2]
        rcases r2 with r2 | ⟨T', K, pend', c', f', L', W', κ', st', v', bh', z1, z2, z3, z4, z5, z6, z7, z8, z9, z10⟩
        · exact Or.inl (r2.more hfx5 hfe3 (by omega) (by omega) haut (by omega))
        · refine Or.inr ⟨T', K + (K3 + 1), pend', c', f', L', W', κ', st', v', bh', z1, z2, z3, fun n => by rw [show n + (K + (K3 + 1)) = n + K + (K3 + 1) by omega, haut, z4], by omega, hfx5.trans z6 (by omega), hfe3.trans z7 (by omega), z8, by omega, ?_⟩
          have : (pend3 ++ [op] : List Nat).length = pend3.length + 1 := by rw [List.length_append]; rfl
          omega
    · have h43 : κ ≠ 43 := fun h => hop (Or.inl h)
      have h45 : κ ≠ 45 := fun h => hop (Or.inr h)
      refine ⟨S, ?_, Or.inr (hok ⟨h43, h45⟩)⟩
      by_cases h3 : (300 : Int32) ≤ nI i
      · rw [if_pos h3]
      · rw [if_neg h3, hS.2.2.1, if_pos rfl, rc_25_0 hS.1, Option.bind_some, hTK.1.1, if_neg (fun q => h43 (e43.mp q)), Option.bind_some, hTK.1.1, if_neg (fun q => h45 (e45.mp q))]
theorem sum_ok {len : Nat} {b : Nat → Nat} {q : Nat} {ie : Bool} {rec : Nat → xS → Nat → Int32 → Option xS} {o : Nat} (ho : o ≤ 8) (hPr : ProdC len b q ie (rec 1) o) : SumC len b q ie (oX4_readSum rec) o := by
  intro S T R0 L W κ st v bh hE hN hR hR0
  obtain ⟨S3, b1, b2⟩ := hPr S T R0 L W κ st v bh hE hN (fun x r e => by have := hR x r e; omega) (by omega)
  unfold oX4_readSum
  rw [b1, Option.bind_some]
  rcases b2 with b2 | ⟨T3, K3, pend3, c3, f3, L3, W3, κ3, st3, v3, bh3, d1, dp, ds, d2, d3, d4, d5, ⟨d10, d11, d6, d7, d8, d9⟩, d12, d13⟩
  · obtain ⟨_, _, _, _, hFS, _⟩ := id b2
    exact ⟨S3, by rw [lX4_readSum_7.eq_2, if_neg (by decide), if_neg hFS.2.2.1], Or.inl b2⟩
  · have hl := d1.2.2.1.1
    obtain ⟨S', r1, r2⟩ := sum_loop ho hPr 400 0 5000 S3 T3 pend3 R0 L W L3 W3 κ3 st3 v3 bh3 c3 f3 (by omega) (by decide) d1 ⟨pend3, [], by rw [List.append_nil], dp, Or.inl rfl⟩ hR hR0 (by omega) ds ⟨d10, d11.mono (by omega), d6, d7, d8, d9⟩
    refine ⟨S', r1, ?_⟩
    rcases r2 with r2 | ⟨T', K, pend', c', f', L', W', κ', st', v', bh', z1, z2, z3, z4, z5, z6, z7, z8, z9, z10⟩
    · exact Or.inl (r2.more d4 d5 (by omega) (by omega) d2 (by omega))
    · refine Or.inr ⟨T', K + K3, pend', c', f', L', W', κ', st', v', bh', z1, z2, z3, fun n => by rw [show n + (K + K3) = n + K + K3 by omega, d2, z4], by omega, d4.trans z6 (by omega), d5.trans z7 (by omega), z8, by omega, ?_⟩
      omega

/-! THE PARSERS: one; and all together -/
theorem askAhead_0 {T : xS} (hM : RMr T) {R : List Nat} (hP : PLr T R) (h : ∀ x r, R = x :: r → (40 ≤ x ∧ x ≠ 41) ∨ 4 ≤ rk x) : mX9_isAskAhead T 0 0 = some (0, T) := by
  unfold mX9_isAskAhead
  cases R with
  | nil =>
    have : mX9_kindOpen T 0 0 = some (40, T) := by
      unfold mX9_kindOpen
      rw [marker_0 hM hP (fun x hx => by cases hx), Option.bind_some, if_pos (show (-1 : Int32) < 0 by decide), if_pos rfl]
    rw [this, Option.bind_some, if_neg (show ¬ (40 : Int32) = 41 by decide)]
  | cons x r =>
    obtain ⟨p1, p2, p3⟩ := id hP
    have hl : (x :: r).length = r.length + 1 := rfl
    rw [hl] at p1 p2
    have hx := h x r rfl
    have a5 : aI Ym T 5 (nI r.length) = some (nI x) := by rw [aI_nI (Y := Ym) (c := 5) (by show _ < 160; omega) (by decide), p3.1]
    have hk : ∃ mk, mX9_kindOpen T 0 0 = some (mk, T) := by
      rcases mk_split (x :: r) with hm | ⟨ops, mk, R1, e, h2, h3⟩
      · refine ⟨40, ?_⟩
        unfold mX9_kindOpen
        rw [marker_0 hM hP hm, Option.bind_some, if_pos (show (-1 : Int32) < 0 by decide), if_pos rfl]
      · rw [e] at hP
        exact ⟨_, (kind_m hM hP h3 h2).1⟩
    obtain ⟨mk, hk⟩ := hk
    rw [hk, Option.bind_some]
    by_cases h41 : mk = 41
    · rw [if_pos h41]
      dsimp only
      have hx41 : x ≠ 41 := by
        rcases hx with hx | hx
        · exact hx.2
        · intro e; subst e; exact absurd hx (by decide)
      have hx64 := p3.2.1
      rw [p1, if_neg (nI_ne0 (by omega) (by omega)), rm_16 hM, Option.bind_some, nI_pred, a5, Option.bind_some, if_neg (show ¬ nI x = (41 : Int32) from fun q => hx41 ((nI_eq (a := x) (b := 41) (by omega) (by decide)).mp q)), Option.bind_some, a5, Option.bind_some, rank_m x hx64, Option.bind_some, isIn_eq, Option.bind_some]
      have hrk : rk x = 0 ∨ 4 ≤ rk x := by
        rcases hx with hx | hx
        · left; unfold rk; rw [if_pos hx.1]
        · exact Or.inr hx
      have hr7 := rk_le x
      have : nI (rk x) < (1 : Int32) ∨ (3 : Int32) < nI (rk x) := by
        rcases hrk with e | e
        · left; rw [e]; decide
        · right; exact nI_lt (a := 3) (by omega) (by omega)
      rw [if_pos this, if_pos rfl]
    · rw [if_neg h41]
theorem opsC_rep (k : Nat) : opsC (rep2 (k + 1)) = (2, 0) :: opsC (rep2 k) := rfl
/-- the reference's FAULT at the beginning of one -/
theorem beg_f {q : Nat} {ie : Bool} {T : xS} {o : Nat} {R : List Nat} {W f : Nat} (hTE : TE q ie T o R W 0) (hf : f ≠ 0 ∧ f < 7) (hb : mX9_beginOne T 0 0 = some (nI f, T)) (n : Nat) : aut (n + 1) T = some (nI f, T) := by
  unfold aut
  rw [lX9_parsed_12.eq_2, if_neg n10, hTE.2.2.2.2.2.2, if_pos rfl, hb, Option.bind_some, if_neg (nI_ne0 (by omega) (by omega))]
theorem one_ok {len : Nat} {b : Nat → Nat} {q : Nat} {ie : Bool} {rec : Nat → xS → Nat → Int32 → Option xS} {o : Nat} (ho : o ≤ 8) (hSum : o < 8 → SumC len b q ie (rec 0) (o + 1)) (hOne : o < 8 → OneC len b q ie (rec 2) (o + 1)) (hIf : o < 8 → IfC len b q ie (rec 3) (o + 1)) : OneC len b q ie (oX4_readOne rec) o := by
  intro S T k R0 L W κ st v bh hE hN hk hR hR0
  obtain ⟨hS, hTE, hTP, hTK, hq, hL, hW⟩ := id hE
  have hlen := hTP.1
  have hbl := hTK.2.2.1
  have hκ3 := κ_lt hTK.2.2.2
  have hlr : (rep2 k ++ R0).length = k + R0.length := by rw [List.length_append, rep2_len]
  rw [hlr] at hW
  have hD1 : 1 ≤ D1 o := by unfold D1; omega
  have hm6 : mOf ie ≤ 6 := by unfold mOf; split <;> omega
  have eq : ∀ c : Nat, c < 300 → ((nI κ = nI c) ↔ κ = c) := fun c hc => nI_eq (by omega) (by omega)
  unfold oX4_readOne
  rw [hS.2.2.1, if_pos rfl, rc_25_0 hS.1, Option.bind_some, hTK.1.1]
  by_cases h2 : κ = 2
  · -- a number
    have hb := beg_num hTE.1 hTP hTK hTE.2.1 h2
    obtain ⟨m0, m1, m2, m3⟩ := tk_num hTK.2.2.2 h2
    have hv4 := hTK.1.2.2.2 h2
    have hv : v ≤ 10000 := by rw [m3]; split <;> omega
    rw [if_pos (show nI κ = (2 : Int32) by rw [h2]; rfl), dO_out hS.2.1 hq, Option.bind_some]
    have htn : mX4_takeNumber S 25 0 9999 = if v < 10000 then (mX7_advance S 23).bind fun S8 => some (nI v, S8) else (mX4_fail S 25 2).bind fun S1 => some (nI v, S1) := by
      unfold mX4_takeNumber jX4_takeNumber_46
      rw [hS.2.2.1, if_pos rfl, rc_25_0 hS.1, Option.bind_some, Option.bind_some, hTK.1.1, if_pos (show nI κ = (2 : Int32) by rw [h2]; rfl), hv4, if_neg (nI_pos (by omega))]
      by_cases hlt : v < 10000
      · rw [if_pos (show nI v ≤ (9999 : Int32) from nI_le (b := 9999) (by omega) (by decide)), Option.bind_some, if_pos hlt]
      · rw [if_neg (show ¬ nI v ≤ (9999 : Int32) from nI_ge (a := 9999) (b := v) (by omega) (by omega)), if_neg hlt]
    rw [htn]
    by_cases hlt : v < 10000
    · rw [if_pos hlt] at hb ⊢
      obtain ⟨S8, T', κ', st', v', bh', a1, a2, a3, a4, a5, a6, a7, a8, a9⟩ := tr_leaf (oo := 0) (vv := v) hE hR hk ho hb (by omega) hS.1 rfl rfl
      obtain ⟨S9, p1, p2, p3, p4, p5, p6, p7, p8⟩ := putc (op := 0) (arg := nI v) (a3.se hS) hq (show L < 300 by omega)
      refine ⟨S9, by rw [a1, Option.bind_some, Option.bind_some]; dsimp only; rw [p1, Option.bind_some], Or.inr ⟨T', 1, [(0, v)], fun _ => (v : Int), L + 1, W + 1 + k, κ', st', v', bh', ⟨p2, a8, a7.se p7 p8, a6.se p7, hq, by omega, by omega⟩, a2, by omega, a3.fx.trans p3 (Nat.le_refl _), a4, a9, rfl, okC_one (Or.inl ⟨rfl, by omega⟩), mv_num _ v, by omega, (cev_num p4 p5 (by omega)).mono hD1, by omega, by show 1 + st ≤ st'; omega⟩⟩
    · rw [if_neg hlt] at hb ⊢
      obtain ⟨S4, f1, f2, f3, f4, f5⟩ := failc (f := 2) hS (show L ≤ 300 by omega) hTK.1.2.1 (by decide)
      obtain ⟨S5, p1, p2, p3, p4⟩ := putf (op := 0) (arg := nI v) f2 hq
      have hfo : FO len q S T S4 L W st := FO.here (K := 1) hE f2 f3 f4 f5 (by decide) (fun n => beg_f (f := 2) hTE (by decide) hb n) (by decide)
      exact ⟨S5, by rw [show mX4_fail S 25 2 = some S4 from f1, Option.bind_some, Option.bind_some]; dsimp only; rw [p1, Option.bind_some], Or.inl (hfo.beh p3 p4 p2)⟩
  rw [if_neg (show ¬ nI κ = (2 : Int32) from fun e => h2 ((eq 2 (by decide)).mp e))]
  by_cases hnm : 212 ≤ κ ∧ κ ≤ 217
  · -- a name
    have hb := beg_name hTE.1 hTP hTK hTE.2.1 hnm
    rw [if_neg (show ¬ nI κ < (212 : Int32) from nI_nlt (b := 212) (by omega) (by omega)), if_neg (show ¬ (217 : Int32) < nI κ from nI_nlt (a := 217) (by omega) (by decide))]
    have hrn : mX4_readName S 25 (nI κ) = if κ ≤ 214 ∨ ie = true then jX4_readName_20 S 25 (nI κ) else (mX4_fail S 25 5).bind fun S3 => some S3 := by
      unfold mX4_readName
      by_cases h214 : κ ≤ 214
      · rw [if_pos (show nI κ ≤ (214 : Int32) from nI_le (b := 214) h214 (by decide)), if_pos (Or.inl h214)]
      · rw [if_neg (show ¬ nI κ ≤ (214 : Int32) from nI_ge (a := 214) (b := κ) (by omega) (by omega)), hS.2.2.2.1]
        cases ie with
        | true => rw [if_neg (by decide), if_pos (Or.inr rfl)]
        | false => rw [if_pos (by decide), if_neg (fun e => e.elim h214 (fun e => by cases e))]
    rw [hrn]
    by_cases hal : κ ≤ 214 ∨ ie = true
    · rw [if_pos hal] at hb ⊢
      obtain ⟨S9, p1, p2, p3, p4, p5, p6, p7, p8⟩ := putc (op := 1) (arg := nI (κ - 212)) hS hq (show L < 300 by have := hbl.2.2.1 (by omega); omega)
      obtain ⟨S8, T', κ', st', v', bh', a1, a2, a3, a4, a5, a6, a7, a8, a9⟩ := tr_leaf (oo := 1) (vv := κ - 212) hE hR hk ho hb (by omega) p2.1 p7 p8
      have hkm : κ - 212 < mOf ie := by
        unfold mOf
        rcases hal with h | h
        · split <;> omega
        · rw [if_pos h]; omega
      have hfc : ∀ i, gI S8 (26 + 6 * q + 1) i = gI S9 (26 + 6 * q + 1) i ∧ gI S8 (26 + 6 * q + 2) i = gI S9 (26 + 6 * q + 2) i := fun i => ⟨by rw [a3.2.1 _ (by omega)], by rw [a3.2.1 _ (by omega)]⟩
      refine ⟨S8, ?_, Or.inr ⟨T', 1, [(1, κ - 212)], fun N => (N (κ - 212) : Int), L + 1, W + 1 + k, κ', st', v', bh', ⟨a3.se p2, a8, a7, a6, hq, by omega, by omega⟩, a2, by omega, p3.trans (a3.fx (q := q) (L := L)) (Nat.le_refl _), a4, a9, rfl, okC_one (Or.inr (Or.inl ⟨rfl, hkm⟩)), mv_name _ _, by omega, (cev_name ((hfc L).1.trans p4) ((hfc L).2.trans p5) hkm hm6).mono hD1, by omega, by show 1 + st ≤ st'; omega⟩⟩
      unfold jX4_readName_20
      rw [dO_out hS.2.1 hq, Option.bind_some, show (212 : Int32) = nI 212 from rfl, pk_sub hnm.1, p1, Option.bind_some, rc_25_0 p2.1, Option.bind_some, a1, Option.bind_some, Option.bind_some]
    · rw [if_neg hal] at hb ⊢
      obtain ⟨S4, f1, f2, f3, f4, f5⟩ := failc (f := 5) hS (show L ≤ 300 by omega) hTK.1.2.1 (by decide)
      exact ⟨S4, by rw [show mX4_fail S 25 5 = some S4 from f1, Option.bind_some, Option.bind_some], Or.inl (FO.here (K := 1) hE f2 f3 f4 f5 (by decide) (fun n => beg_f (f := 5) hTE (by decide) hb n) (by decide))⟩
  -- the rest
  have hb := beg_rest hTE.1 hTP hTK hTE.2.1 h2 hnm
  have h62 : (if (nI κ < 212 : Prop) then (jX4_readOne_62 rec S 25 (nI o) (nI κ)) else (if (217 < nI κ : Prop) then (jX4_readOne_62 rec S 25 (nI o) (nI κ)) else ((mX4_readName S 25 (nI κ)).bind fun S6 => some S6))) = jX4_readOne_62 rec S 25 (nI o) (nI κ) := by
    by_cases h : κ < 212
    · rw [if_pos (show nI κ < (212 : Int32) from nI_lt (b := 212) h (by decide))]
    · rw [if_neg (show ¬ nI κ < (212 : Int32) from nI_nlt (b := 212) (by omega) (by omega)), if_pos (show (217 : Int32) < nI κ from nI_lt (a := 217) (by omega) (by omega))]
  rw [h62]
  unfold jX4_readOne_62
  by_cases hopn : κ = 40 ∨ κ = 45 ∨ κ = 207
  · have hκ0 : κ ≠ 0 := by omega
    have hst := hbl.2.2.1 hκ0
    have h89 : (if (nI κ = 40 : Prop) then (jX4_readOne_89 rec S 25 (nI o) (nI κ)) else (if (nI κ = 45 : Prop) then (jX4_readOne_89 rec S 25 (nI o) (nI κ)) else (if (nI κ = 207 : Prop) then (jX4_readOne_89 rec S 25 (nI o) (nI κ)) else ((mX4_fail S 25 1).bind fun S4 => some S4)))) = jX4_readOne_89 rec S 25 (nI o) (nI κ) := by
      rcases hopn with rfl | rfl | rfl
      · rw [if_pos (by decide)]
      · rw [if_neg (by decide), if_pos (by decide)]
      · rw [if_neg (by decide), if_neg (by decide), if_pos (by decide)]
    rw [h89]
    unfold jX4_readOne_89
    obtain ⟨x, hx, hb2⟩ : ∃ x, ((κ = 40 ∧ x = 40) ∨ (κ = 45 ∧ x = 2) ∨ (κ = 207 ∧ x = 41)) ∧ mX9_beginOne T 0 0 = (mX9_opensBy T 0 (nI x)).bind (fun q => some (q.1, q.2)) := by
      rcases hopn with h | h | h
      · exact ⟨40, Or.inl ⟨h, rfl⟩, by rw [hb, if_pos h]; rfl⟩
      · exact ⟨2, Or.inr (Or.inl ⟨h, rfl⟩), by rw [hb, if_neg (by omega), if_pos h]; rfl⟩
      · exact ⟨41, Or.inr (Or.inr ⟨h, rfl⟩), by rw [hb, if_neg (by omega), if_neg (by omega), if_pos h]; rfl⟩
    unfold mX4_opens
    by_cases ho8 : ¬ o < 8
    · have ho8' : o = 8 := by omega
      rw [if_neg (show ¬ nI o < (8 : Int32) from nI_nlt (b := 8) (by omega) (by omega))]
      obtain ⟨S4, f1, f2, f3, f4, f5⟩ := failc (f := 3) hS (show L ≤ 300 by omega) hTK.1.2.1 (by decide)
      refine ⟨S4, by rw [show mX4_fail S 25 3 = some S4 from f1, Option.bind_some, Option.bind_some, if_pos rfl], Or.inl (FO.here (K := 1) hE f2 f3 f4 f5 (by decide) (fun n => beg_f (f := 3) hTE (by decide) ?_ n) (by decide))⟩
      rw [hb2]
      unfold mX9_opensBy
      rw [hTE.2.2.2.2.2.1, ho8', if_pos (by decide), Option.bind_some]
      rfl
    have ho8 : o < 8 := Decidable.of_not_not ho8
    rw [if_pos (show nI o < (8 : Int32) from nI_lt (b := 8) ho8 (by decide)), rc_25_0 hS.1, Option.bind_some]
    obtain ⟨S1, T1, κ1, st1, v1, bh1, a1, a2, a3, a4, a5, a6, a7, a8, a9⟩ := tr_open (x := x) hE ho8 (by omega) (by rw [hlr]; omega) hb2 hκ0 hS.1 rfl rfl
    rw [a1, Option.bind_some, Option.bind_some, if_neg n10]
    dsimp only
    rw [nI_1]
    have hS1 := a3.se hS
    have hl1 : (x :: (rep2 k ++ R0)).length = k + R0.length + 1 := by
      show (rep2 k ++ R0).length + 1 = _
      rw [hlr]
    have hE1 : EN len b q ie S1 T1 (o + 1) (x :: (rep2 k ++ R0)) L W κ1 st1 v1 bh1 0 := ⟨hS1, a8, a7, a6, hq, by omega, by rw [hl1]; omega⟩
    have hDo : D1 (o + 1) + 5 = D1 o := by unfold D1; omega
    rcases hx with ⟨hκ, rfl⟩ | ⟨hκ, rfl⟩ | ⟨hκ, rfl⟩
    · -- a parenthesis
      rw [if_pos (show nI κ = (40 : Int32) by rw [hκ]; rfl)]
      obtain ⟨S2, b1, b2⟩ := hSum ho8 S1 T1 _ L W κ1 st1 v1 bh1 hE1 (nA_mk (by decide) (by decide)) (fun x r e => by cases e; decide) (by rw [hl1]; omega)
      rw [b1, Option.bind_some]
      rcases b2 with b2 | ⟨T3, K3, s1, c3, f3, L3, W3, κ3, st3, v3, bh3, d1, dp, ds, d2, d3, d4, d5, ⟨d10, d11, d6, d7, d8, d9⟩, d12, d13⟩
      · have b3 := b2.more (st := st) (K := 1) (a3.fx (q := q) (L := L)) a4 (Nat.le_refl _) (Nat.le_refl _) a2 (by omega)
        obtain ⟨_, _, _, _, hFS, _⟩ := id b3
        exact ⟨S2, by rw [takef hFS.2.2.1, Option.bind_some], Or.inl b3⟩
      obtain ⟨hS3, hTE3, hTP3, hTK3, -, hL3, hW3⟩ := id d1
      have hbl3 := hTK3.2.2.1
      have hκ3' := κ_lt hTK3.2.2.2
      have hbt3 := sum_no_op hTK3.2.2.2 ds hTE3.1 hTE3.2.2.2.2.1 dp (by omega)
      have hj3 := j25_eq hTK3.2.2.2 (mk := 40) (i := (rep2 k ++ R0).length) (by decide)
      have haut : ∀ n, aut (n + (K3 + 1)) T = aut n T3 := fun n => by rw [show n + (K3 + 1) = n + K3 + 1 by omega, a2, d2]
      have hfx : FX q L S S2 := (a3.fx (q := q) (L := L)).trans d4 (Nat.le_refl _)
      have hfe : FE q W T T3 := a4.trans d5 (Nat.le_refl _)
      rw [List.length_append, hl1] at hW3
      by_cases c41 : κ3 = 41
      · rw [if_pos ⟨c41, rfl⟩] at hj3
        obtain ⟨S4, T4, κ4, st4, v4, bh4, z1, z2, z3, z4, z5, z6, z7, z8, z9⟩ := tr_close d1 (Or.inl rfl) (fun x hx => isSum_mem dp x hx) hbt3 hj3 (by omega) (by omega) hR (by omega) hS3.1 rfl rfl
        rw [if_neg (by decide), Nat.add_zero, show o + 1 - 1 - k = o - k by omega] at z8
        rw [if_neg (by decide), List.append_nil] at z9
        have r9 := (codL_app _ _ _).mp z9
        have hfc : ∀ i, gI S4 (26 + 6 * q + 1) i = gI S2 (26 + 6 * q + 1) i ∧ gI S4 (26 + 6 * q + 2) i = gI S2 (26 + 6 * q + 2) i := fun i => ⟨by rw [z3.2.1 _ (by omega)], by rw [z3.2.1 _ (by omega)]⟩
        refine ⟨S4, by rw [show mX4_take S2 25 41 = some S4 from takec (κ := 41) hS3.1 hS3.2.2.1 (by rw [hTK3.1.1, c41]) z1, Option.bind_some], Or.inr ⟨T4, 1 + (K3 + 1), c3 ++ opsC s1, f3, L3, W3 + s1.length + k, κ4, st4, v4, bh4, ⟨z3.se hS3, z8, z7, z6, hq, by omega, by omega⟩, fun n => by rw [show n + (1 + (K3 + 1)) = n + 1 + (K3 + 1) by omega, haut, z2], by omega, hfx.trans (z3.fx (q := q) (L := L3)) (by omega), hfe.trans z4 (by omega), ?_, by rw [List.length_append, opsC_len]; omega, d8, d9, by omega, (d11.congr (fun i _ _ => hfc i)).mono (by omega), by omega, by rw [List.length_append, opsC_len]; omega⟩⟩
        rw [codL_app, codL_app]
        refine ⟨⟨codL_congr c3 W (fun i _ b' => z4.2.2.2.2 i (Or.inl (by omega))) d6, by rw [← d7]; exact r9.1⟩, ?_⟩
        rw [List.length_append, opsC_len, ← Nat.add_assoc, ← d7]
        have hh : (List.map (fun x => (x, 0)) s1 : List (Nat × Nat)).length = s1.length := List.length_map ..
        rw [hh] at r9
        exact r9.2
      · obtain ⟨S4, g1', g2, g3, g4, g5⟩ := failc (f := 1) hS3 (show L3 ≤ 300 by omega) hTK3.1.2.1 (by decide)
        have hfo : FO len q S2 T3 S4 L3 W3 st3 := by
          refine FO.here (K := 2) d1 g2 g3 g4 g5 (by decide) (fun n => stop_m hTE3 (by decide) (fun x hx => by have := isSum_mem dp x hx; omega) hbt3 ?_ n) (by decide)
          rw [hj3, if_neg (fun q => c41 q.1), if_neg (fun q => by have := q.2; omega), if_neg (fun q => by have := q.2; omega), if_neg (fun q => by have := q.2; omega)]
        exact ⟨S4, by rw [show mX4_take S2 25 41 = some S4 from taken (k := 41) hS3.1 hS3.2.2.1 hTK3.1.1 c41 (by omega) (by decide) g1', Option.bind_some], Or.inl (hfo.more hfx hfe (by omega) (by omega) haut (by omega))⟩
    · -- less
      rw [if_neg (show ¬ nI κ = (40 : Int32) from fun e => by have := (eq 40 (by decide)).mp e; omega), if_pos (show nI κ = (45 : Int32) by rw [hκ]; rfl)]
      have hE1' : EN len b q ie S1 T1 (o + 1) (rep2 (k + 1) ++ R0) L W κ1 st1 v1 bh1 0 := hE1
      obtain ⟨S2, b1, b2⟩ := hOne ho8 S1 T1 (k + 1) R0 L W κ1 st1 v1 bh1 hE1' (nA_op (R := rep2 k ++ R0) (by decide)) (by omega) hR (by omega)
      rw [b1, Option.bind_some]
      rcases b2 with b2 | ⟨T3, K3, c3, f3, L3, W3, κ3, st3, v3, bh3, d1, d2, d3, d4, d5, d6, d7, d8, d9, d10, d11, d12, d13⟩
      · have b3 := b2.more (st := st) (K := 1) (a3.fx (q := q) (L := L)) a4 (Nat.le_refl _) (Nat.le_refl _) a2 (by omega)
        obtain ⟨_, _, _, _, hFS, _⟩ := id b3
        obtain ⟨S5, p1, p2, p3, p4⟩ := putf (op := 4) (arg := 0) hFS hq
        exact ⟨S5, by rw [dO_out hFS.2.1 hq, Option.bind_some, p1, Option.bind_some], Or.inl (b3.beh p3 p4 p2)⟩
      obtain ⟨hS3, hTE3, hTP3, hTK3, -, hL3, hW3⟩ := id d1
      have hbl3 := hTK3.2.2.1
      obtain ⟨S5, p1, p2, p3, p4, p5, p6, p7, p8⟩ := putc (op := 4) (arg := 0) hS3 hq (show L3 < 300 by omega)
      rw [show o + 1 - (k + 1) = o - k by omega] at hTE3
      refine ⟨S5, by rw [dO_out hS3.2.1 hq, Option.bind_some, p1, Option.bind_some], Or.inr ⟨T3, K3 + 1, c3 ++ [(2, 0)], fun N => -(f3 N), L3 + 1, W3, κ3, st3, v3, bh3, ⟨p2, hTE3, hTP3.se p7 p8, hTK3.se p7, hq, by omega, hW3⟩, fun n => by rw [show n + (K3 + 1) = n + K3 + 1 by omega, a2, d2], by omega, ((a3.fx (q := q) (L := L)).trans d4 (Nat.le_refl _)).trans p3 (by omega), a4.trans d5 (Nat.le_refl _), ?_, by rw [List.length_append]; show W3 = W + (c3.length + 1) + k; omega, okC_app d8 (okC_one (Or.inr (Or.inr (Or.inl rfl)))), mv_neg d9, by omega, cev_neg ((d11.congr (fun i _ b' => p6 i (by omega))).mono (by omega)) (by omega) p4 hD1, by omega, by rw [List.length_append]; show c3.length + 1 + st ≤ st3; omega⟩⟩
      rw [opsC_rep] at d6
      rw [List.append_assoc]
      exact d6
    · -- if
      rw [if_neg (show ¬ nI κ = (40 : Int32) from fun e => by have := (eq 40 (by decide)).mp e; omega), if_neg (show ¬ nI κ = (45 : Int32) from fun e => by have := (eq 45 (by decide)).mp e; omega)]
      obtain ⟨S2, b1, b2⟩ := hIf ho8 S1 T1 k R0 L W κ1 st1 v1 bh1 hE1 (by omega) hR (by omega)
      rw [b1, Option.bind_some]
      rcases b2 with b2 | ⟨T3, K3, c3, f3, L3, W3, κ3, st3, v3, bh3, d1, d2, d3, d4, d5, d6, d7, d8, d9, d10, d11, d12, d13⟩
      · exact ⟨S2, rfl, Or.inl (b2.more (st := st) (K := 1) (a3.fx (q := q) (L := L)) a4 (Nat.le_refl _) (Nat.le_refl _) a2 (by omega))⟩
      · rw [show o + 1 - 1 - k = o - k by omega] at d1
        exact ⟨S2, rfl, Or.inr ⟨T3, K3 + 1, c3, f3, L3, W3, κ3, st3, v3, bh3, d1, fun n => by rw [show n + (K3 + 1) = n + K3 + 1 by omega, a2, d2], by omega, (a3.fx (q := q) (L := L)).trans d4 (Nat.le_refl _), a4.trans d5 (Nat.le_refl _), d6, d7, d8, d9, d10, by rw [← hDo]; exact d11, by omega, by omega⟩⟩
  · -- misplaced
    have h40 : κ ≠ 40 := fun h => hopn (Or.inl h)
    have h45 : κ ≠ 45 := fun h => hopn (Or.inr (Or.inl h))
    have h207 : κ ≠ 207 := fun h => hopn (Or.inr (Or.inr h))
    rw [if_neg (show ¬ nI κ = (40 : Int32) from fun e => h40 ((eq 40 (by decide)).mp e)), if_neg (show ¬ nI κ = (45 : Int32) from fun e => h45 ((eq 45 (by decide)).mp e)), if_neg (show ¬ nI κ = (207 : Int32) from fun e => h207 ((eq 207 (by decide)).mp e))]
    obtain ⟨S4, f1, f2, f3, f4, f5⟩ := failc (f := 1) hS (show L ≤ 300 by omega) hTK.1.2.1 (by decide)
    refine ⟨S4, by rw [show mX4_fail S 25 1 = some S4 from f1, Option.bind_some], Or.inl (FO.here (K := 1) hE f2 f3 f4 f5 (by decide) (fun n => beg_f (f := 1) hTE (by decide) ?_ n) (by decide))⟩
    rw [hb, if_neg h40, if_neg h45, if_neg h207]
    by_cases h210 : κ = 210
    · rw [if_pos h210, askAhead_0 hTE.1 hTE.2.2.2.2.1 (hN h210), Option.bind_some, if_pos rfl]
      rfl
    · rw [if_neg h210]
      rfl

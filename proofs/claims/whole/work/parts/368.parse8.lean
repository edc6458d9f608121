/-! THE PARSERS: if -/
def ifC (S : xS) (i2 : Int32) : Option xS := (dO Yc (gR S 25 1) 6).bind fun d14 => (mX6_aim S d14 i2).bind fun S15 => (mX4_take S15 25 211).bind fun S16 => some S16
def ifB (rec : Nat → xS → Nat → Int32 → Option xS) (v : Int32) (S : xS) (i1 : Int32) : Option xS := (dO Yc (gR S 25 1) 6).bind fun d8 => (dO Yc (gR S 25 1) 6).bind fun d9 => (mX6_put S d9 2 0).bind fun S10 => (dO Yc (gR S10 25 1) 6).bind fun d11 => (mX6_aim S10 d11 i1).bind fun S12 => (rec 0 S12 25 v).bind fun S13 => ifC S13 (gI S d8 2)
def ifA (rec : Nat → xS → Nat → Int32 → Option xS) (v : Int32) (S : xS) : Option xS := (dO Yc (gR S 25 1) 6).bind fun d3 => (dO Yc (gR S 25 1) 6).bind fun d4 => (mX6_put S d4 3 0).bind fun S5 => (rec 0 S5 25 v).bind fun S6 => (mX4_take S6 25 58).bind fun S7 => ifB rec v S7 (gI S d3 2)
theorem if_eq (rec : Nat → xS → Nat → Int32 → Option xS) (S : xS) (v : Int32) : oX4_readIf rec S 25 v = (rec 4 S 25 v).bind fun S1 => (mX4_take S1 25 63).bind fun S2 => ifA rec v S2 := rfl
theorem ifC_f {q : Nat} {S : xS} {L i : Nat} (h : FS q S L) (hq : q < 4) (hi : L ≤ i) (hi2 : i < 2 ^ 31) : ∃ S', ifC S (nI i) = some S' ∧ FS q S' L ∧ FX q L S S' ∧ gI S' 25 = gI S 25 := by
  obtain ⟨S1, a1, a2, a3, a4⟩ := aimf h hq hi hi2
  refine ⟨S1, ?_, a2, a3, a4⟩
  unfold ifC
  rw [dO_out h.2.1 hq, Option.bind_some, a1, Option.bind_some, takef a2.2.2.1, Option.bind_some]
theorem ifB_f {q : Nat} {rec : Nat → xS → Nat → Int32 → Option xS} (hF : FMr rec) {v : Int32} {S : xS} {L i : Nat} (h : FS q S L) (hq : q < 4) (hi : L ≤ i) (hi2 : i < 2 ^ 31) : ∃ S', ifB rec v S (nI i) = some S' ∧ FS q S' L ∧ FX q L S S' ∧ gI S' 25 = gI S 25 := by
  obtain ⟨Lx, l1, l2, l3⟩ := h.2.2.2
  obtain ⟨S1, a1, a2, a3, a4⟩ := putf (op := 2) (arg := 0) h hq
  obtain ⟨S2, b1, b2, b3, b4⟩ := aimf a2 hq hi hi2
  obtain ⟨S3, c1, c2, c3, c4⟩ := ifC_f (i := Lx) b2 hq l2 (by omega)
  refine ⟨S3, ?_, c2, (a3.trans b3 (Nat.le_refl _)).trans c3 (Nat.le_refl _), c4.trans (b4.trans a4)⟩
  unfold ifB
  rw [dO_out h.2.1 hq, Option.bind_some, Option.bind_some, a1, Option.bind_some, dO_out a2.2.1 hq, Option.bind_some, b1, Option.bind_some, hF S2 v 0 b2.2.2.1 (Or.inl rfl), Option.bind_some, l3]
  exact c1
theorem ifA_f {q : Nat} {rec : Nat → xS → Nat → Int32 → Option xS} (hF : FMr rec) {v : Int32} {S : xS} {L : Nat} (h : FS q S L) (hq : q < 4) : ∃ S', ifA rec v S = some S' ∧ FS q S' L ∧ FX q L S S' ∧ gI S' 25 = gI S 25 := by
  obtain ⟨Lx, l1, l2, l3⟩ := h.2.2.2
  obtain ⟨S1, a1, a2, a3, a4⟩ := putf (op := 3) (arg := 0) h hq
  obtain ⟨S3, c1, c2, c3, c4⟩ := ifB_f hF (v := v) (i := Lx) a2 hq l2 (by omega)
  refine ⟨S3, ?_, c2, a3.trans c3 (Nat.le_refl _), c4.trans a4⟩
  unfold ifA
  rw [dO_out h.2.1 hq, Option.bind_some, Option.bind_some, a1, Option.bind_some, hF S1 v 0 a2.2.2.1 (Or.inl rfl), Option.bind_some, takef a2.2.2.1, Option.bind_some, l3]
  exact c1
def IfC (len : Nat) (b : Nat → Nat) (q : Nat) (ie : Bool) (F : xS → Nat → Int32 → Option xS) (o : Nat) : Prop := ∀ S T k R0 L W κ st v bh, EN len b q ie S T o (41 :: (rep2 k ++ R0)) L W κ st v bh 0 → k + 1 ≤ o → lowR R0 7 → 1 + k + R0.length ≤ 6 * o + 1 → ∃ S', F S 25 (nI o) = some S' ∧ (FO len q S T S' L W st ∨ ∃ T' K c f L' W' κ' st' v' bh', EN len b q ie S' T' (o - 1 - k) R0 L' W' κ' st' v' bh' 1 ∧ (∀ n, aut (n + K) T = aut n T') ∧ K + st ≤ st' ∧ FX q L S S' ∧ FE q W T T' ∧ codL (gI T' 3) (680 * q + 75) (c ++ opsC (rep2 k)) W ∧ W' = W + c.length + k ∧ okC (mOf ie) c ∧ MV (mOf ie) c f ∧ L < L' ∧ CEV (gI S' (26 + 6 * q + 1)) (gI S' (26 + 6 * q + 2)) (mOf ie) L L' (D1 o + 5) f ∧ L' + st ≤ L + st' + 1 ∧ c.length + st ≤ st' + 1)
/-- a sum inside an if ends: the next part, or misplaced -/
theorem sum_no_op {T : xS} {b : Nat → Nat} {κ st v bh : Nat} (h : TMk T b κ st v bh) (hs : sStop κ) (hM : RMr T) {mk : Nat} {s R1 : List Nat} (hP : PLr T (s ++ mk :: R1)) (hsum : isSum s) (hmk : mk = 40 ∨ mk = 42 ∨ mk = 43) : mX9_betweenOf T 0 0 = some (-1, T) := by
  obtain ⟨k1, k2, k3, k4⟩ := kind_m hM hP (by omega) (fun x hx => by have := isSum_mem hsum x hx; omega)
  have hs' : κ ≠ 42 ∧ κ ≠ 47 ∧ κ ≠ 43 ∧ κ ≠ 45 := hs
  rw [btw_rest h (by omega) k1, if_neg (show ¬ nI mk = (41 : Int32) from fun e => by have := (nI_eq (a := mk) (b := 41) (by omega) (by decide)).mp e; omega)]
theorem if_ok {len : Nat} {b : Nat → Nat} {q : Nat} {ie : Bool} {rec : Nat → xS → Nat → Int32 → Option xS} {o : Nat} (ho : o ≤ 8) (hF : FMr rec) (hEi : EitherC len b q ie (rec 4) o) (hSum : SumC len b q ie (rec 0) o) : IfC len b q ie (oX4_readIf rec) o := by
  intro S T k R0 L W κ st v bh hE hk hR hR0
  have hl41 : (41 :: (rep2 k ++ R0) : List Nat).length = 1 + k + R0.length := by
    show (rep2 k ++ R0).length + 1 = _
    rw [List.length_append, rep2_len]; omega
  have hl4x : ∀ mk : Nat, (mk :: (rep2 k ++ R0) : List Nat).length = 1 + k + R0.length := fun mk => by
    show (rep2 k ++ R0).length + 1 = _
    rw [List.length_append, rep2_len]; omega
  have hq := hE.2.2.2.2.1
  have hlen := hE.2.2.1.1
  rw [if_eq]
  obtain ⟨S1, b1, b2⟩ := hEi S T (41 :: (rep2 k ++ R0)) L W κ st v bh hE ⟨[], _, rfl, fun x hx => by cases hx⟩ (fun x r e => by cases e; decide) (by rw [hl41]; exact hR0)
  rw [b1, Option.bind_some]
  rcases b2 with b2 | ⟨T1, K1, pend, j, c1, g1, L1, W1, κ1, st1, v1, bh1, e1, ej, ep, es, e2, e3, e4, e5, ⟨e10, e11, e6, e7, e8, e9⟩, e12, e13⟩
  · -- a FAULT in the question
    obtain ⟨_, _, _, _, hFS, _⟩ := id b2
    obtain ⟨S', p1, p2, p3, p4⟩ := ifA_f hF (v := nI o) hFS hq
    exact ⟨S', by rw [takef hFS.2.2.1, Option.bind_some]; exact p1, Or.inl (b2.beh p3 p4 p2)⟩
  obtain ⟨hS1, hTE1, hTP1, hTK1, -, hL1, hW1⟩ := id e1
  have hbl1 := hTK1.2.2.1
  have hκ1 := κ_lt hTK1.2.2.2
  have hpm := isEither_mem ep
  have hP1 := hTE1.2.2.2.2.1
  obtain ⟨k1, k2, k3, k4⟩ := kind_m hTE1.1 hP1 (by decide) (fun x hx => (hpm x hx).1)
  have hcomp := isEither_comp hTE1.1 ep hP1
  have es' : (((κ1 ≠ 42 ∧ κ1 ≠ 47 ∧ κ1 ≠ 43 ∧ κ1 ≠ 45) ∧ κ1 ≠ 209) ∧ κ1 ≠ 208) := es
  have hbt1 := btw_rest hTK1.2.2.2 (by omega) k1
  rw [if_pos (by decide), hcomp, Option.bind_some, if_neg n10, if_neg (by omega), if_neg (by omega)] at hbt1
  have hj1 := j25_eq hTK1.2.2.2 (i := (rep2 k ++ R0).length) k4
  rw [if_neg (fun q => by have := q.2; omega), if_neg (fun q => by have := q.2; omega)] at hj1
  rw [List.length_append, hl41] at hW1
  by_cases c63 : ¬ κ1 = 63
  · -- no '?'
    obtain ⟨S4, g1', g2, g3, g4, g5⟩ := failc (f := 1) hS1 (show L1 ≤ 300 by omega) hTK1.1.2.1 (by decide)
    have hfo : FO len q S1 T1 S4 L1 W1 st1 := by
      refine FO.here (K := 2) e1 g2 g3 g4 g5 (by decide) (fun n => stop_m hTE1 (by decide) (fun x hx => (hpm x hx).1) hbt1 ?_ n) (by decide)
      rw [hj1, if_neg (fun q => c63 q.1), if_neg (fun q => by have := q.2; omega)]
    have hfo2 := hfo.more (st := st) (K := K1) e4 e5 (by omega) (by omega) e2 (by omega)
    obtain ⟨_, _, _, _, hFS, _⟩ := id hfo2
    obtain ⟨S', p1, p2, p3, p4⟩ := ifA_f hF (v := nI o) hFS hq
    exact ⟨S', by rw [show mX4_take S1 25 63 = some S4 from taken (k := 63) hS1.1 hS1.2.2.1 hTK1.1.1 c63 (by omega) (by decide) g1', Option.bind_some]; exact p1, Or.inl (hfo2.beh p3 p4 p2)⟩
  have c63 : κ1 = 63 := Decidable.of_not_not c63
  -- '?'
  rw [if_pos ⟨c63, rfl⟩, hcomp, Option.bind_some, if_neg n10] at hj1
  obtain ⟨S2, T2, κ2, st2, v2, bh2, a1, a2, a3, a4, a5, a6, a7, a8, a9⟩ := tr_mid e1 (by decide) (by decide) (fun x hx => (hpm x hx).1) hbt1 hj1 (by rw [isEither_cnt ep]; omega) (by omega) (by omega) hS1.1 rfl rfl
  rw [isEither_cnt ep, show o + j - j = o by omega] at a8
  have hS2 := a3.se hS1
  rw [show mX4_take S1 25 63 = some S2 from takec (κ := 63) hS1.1 hS1.2.2.1 (by rw [hTK1.1.1, c63]) a1, Option.bind_some]
  have hbl2 := a6.2.2.1
  obtain ⟨S5, p1, p2, p3, p4, p5, p6, p7, p8⟩ := putc (op := 3) (arg := 0) hS2 hq (show L1 < 300 by omega)
  have hE5 : EN len b q ie S5 T2 o (42 :: (rep2 k ++ R0)) (L1 + 1) (W1 + pend.length) κ2 st2 v2 bh2 0 := ⟨p2, a8, a7.se p7 p8, a6.se p7, hq, by omega, by rw [hl4x]; omega⟩
  obtain ⟨S6, b1, b2⟩ := hSum S5 T2 _ (L1 + 1) (W1 + pend.length) κ2 st2 v2 bh2 hE5 (nA_mk (by decide) (by decide)) (fun x r e => by cases e; decide) (by rw [hl4x]; omega)
  have hfx5 : FX q L S S5 := (e4.trans (a3.fx (q := q) (L := L1)) (by omega)).trans p3 (by omega)
  have hfe2 : FE q W T T2 := e5.trans a4 (by omega)
  have haut2 : ∀ n, aut (n + (1 + K1)) T = aut n T2 := fun n => by rw [show n + (1 + K1) = n + 1 + K1 by omega, e2, a2]
  have hA5 : ifA rec (nI o) S2 = (mX4_take S6 25 58).bind fun S7 => ifB rec (nI o) S7 (nI L1) := by
    unfold ifA
    rw [dO_out hS2.2.1 hq, Option.bind_some, Option.bind_some, p1, Option.bind_some, b1, Option.bind_some, hS2.2.2.2.2]
  rw [hA5]
  rcases b2 with b2 | ⟨T3, K3, s1, c3, f3, L3, W3, κ3, st3, v3, bh3, d1, dp, ds, d2, d3, d4, d5, ⟨d10, d11, d6, d7, d8, d9⟩, d12, d13⟩
  · have b3 := b2.more (st := st) (K := 1 + K1) hfx5 hfe2 (show L ≤ L1 + 1 by omega) (by omega) haut2 (by omega)
    obtain ⟨_, _, _, _, hFS, _⟩ := id b3
    obtain ⟨S', r1, r2, r3, r4⟩ := ifB_f hF (v := nI o) (i := L1) hFS hq (by omega) (by omega)
    exact ⟨S', by rw [takef hFS.2.2.1, Option.bind_some]; exact r1, Or.inl (b3.beh r3 r4 r2)⟩
  obtain ⟨hS6, hTE3, hTP3, hTK3, -, hL3, hW3⟩ := id d1
  have hbl3 := hTK3.2.2.1
  have hκ3 := κ_lt hTK3.2.2.2
  have hbt3 := sum_no_op hTK3.2.2.2 ds hTE3.1 hTE3.2.2.2.2.1 dp (by omega)
  have hj3 := j25_eq hTK3.2.2.2 (mk := 42) (i := (rep2 k ++ R0).length) (by decide)
  rw [if_neg (fun q => by have := q.2; omega), if_neg (fun q => by have := q.2; omega), if_neg (fun q => by have := q.2; omega)] at hj3
  have hsl : ∀ x, x ∈ s1 → x < 40 := fun x hx => by have := isSum_mem dp x hx; omega
  have hs0 : cnt2 s1 = 0 := cnt2_0 s1 (fun x hx => by have := isSum_mem dp x hx; omega)
  rw [List.length_append, hl4x] at hW3
  have hfx6 : FX q L S S6 := hfx5.trans d4 (by omega)
  have hfe3 : FE q W T T3 := hfe2.trans d5 (by omega)
  have haut3 : ∀ n, aut (n + (K3 + (1 + K1))) T = aut n T3 := fun n => by rw [show n + (K3 + (1 + K1)) = n + K3 + (1 + K1) by omega, haut2, d2]
  by_cases c58 : ¬ κ3 = 58
  · -- no ':'
    obtain ⟨S4, g1', g2, g3, g4, g5⟩ := failc (f := 1) hS6 (show L3 ≤ 300 by omega) hTK3.1.2.1 (by decide)
    have hfo : FO len q S6 T3 S4 L3 W3 st3 := by
      refine FO.here (K := 2) d1 g2 g3 g4 g5 (by decide) (fun n => stop_m hTE3 (by decide) hsl hbt3 ?_ n) (by decide)
      rw [hj3, if_neg (fun q => c58 q.1)]
    have hfo2 := hfo.more (st := st) (K := K3 + (1 + K1)) hfx6 hfe3 (by omega) (by omega) haut3 (by omega)
    obtain ⟨_, _, _, _, hFS, _⟩ := id hfo2
    obtain ⟨S', r1, r2, r3, r4⟩ := ifB_f hF (v := nI o) (i := L1) hFS hq (by omega) (by omega)
    exact ⟨S', by rw [show mX4_take S6 25 58 = some S4 from taken (k := 58) hS6.1 hS6.2.2.1 hTK3.1.1 c58 (by omega) (by decide) g1', Option.bind_some]; exact r1, Or.inl (hfo2.beh r3 r4 r2)⟩
  have c58 : κ3 = 58 := Decidable.of_not_not c58
  -- ':'
  rw [if_pos ⟨c58, rfl⟩] at hj3
  obtain ⟨S7, T4, κ4, st4, v4, bh4, h1, h2, h3, h4, h5, h6, h7, h8, h9⟩ := tr_mid d1 (by decide) (by decide) hsl hbt3 hj3 (by rw [hs0]; omega) (by omega) (by omega) hS6.1 rfl rfl
  rw [hs0, Nat.sub_zero] at h8
  have hS7 := h3.se hS6
  rw [show mX4_take S6 25 58 = some S7 from takec (κ := 58) hS6.1 hS6.2.2.1 (by rw [hTK3.1.1, c58]) h1, Option.bind_some]
  have hbl4 := h6.2.2.1
  obtain ⟨S10, u1, u2, u3, u4, u5, u6, u7, u8⟩ := putc (op := 2) (arg := 0) hS7 hq (show L3 < 300 by omega)
  obtain ⟨S12, w1, w2, w3, w4, w5, w6, w7, w8⟩ := aimc (i := L1) u2 hq (by omega)
  have hE12 : EN len b q ie S12 T4 o (43 :: (rep2 k ++ R0)) (L3 + 1) (W3 + s1.length) κ4 st4 v4 bh4 0 := ⟨w2, h8, (h7.se u7 u8).se w7 w8, (h6.se u7).se w7, hq, by omega, by rw [hl4x]; omega⟩
  obtain ⟨S13, b1, b2⟩ := hSum S12 T4 _ (L3 + 1) (W3 + s1.length) κ4 st4 v4 bh4 hE12 (nA_mk (by decide) (by decide)) (fun x r e => by cases e; decide) (by rw [hl4x]; omega)
  have hfx12 : FX q L S S12 := ((hfx6.trans (h3.fx (q := q) (L := L3)) (by omega)).trans u3 (show L ≤ L3 by omega)).trans w3 (by omega)
  have hfe4 : FE q W T T4 := hfe3.trans h4 (by omega)
  have haut4 : ∀ n, aut (n + (1 + (K3 + (1 + K1)))) T = aut n T4 := fun n => by rw [show n + (1 + (K3 + (1 + K1))) = n + 1 + (K3 + (1 + K1)) by omega, haut3, h2]
  have hB : ifB rec (nI o) S7 (nI L1) = ifC S13 (nI L3) := by
    unfold ifB
    rw [dO_out hS7.2.1 hq, Option.bind_some, Option.bind_some, u1, Option.bind_some, dO_out u2.2.1 hq, Option.bind_some, w1, Option.bind_some, b1, Option.bind_some, hS7.2.2.2.2]
  rw [hB]
  rcases b2 with b2 | ⟨T5, K5, s2, c5, f5, L5, W5, κ5, st5, v5, bh5, m1, mp, ms, m2, m3, m4, m5, ⟨m10, m11, m6, m7, m8, m9⟩, m12, m13⟩
  · have b3 := b2.more (st := st) (K := 1 + (K3 + (1 + K1))) hfx12 hfe4 (show L ≤ L3 + 1 by omega) (by omega) haut4 (by omega)
    obtain ⟨_, _, _, _, hFS, _⟩ := id b3
    obtain ⟨S', r1, r2, r3, r4⟩ := ifC_f (i := L3) hFS hq (by omega) (by omega)
    exact ⟨S', r1, Or.inl (b3.beh r3 r4 r2)⟩
  obtain ⟨hS13, hTE5, hTP5, hTK5, -, hL5, hW5⟩ := id m1
  have hbl5 := hTK5.2.2.1
  have hκ5 := κ_lt hTK5.2.2.2
  have hbt5 := sum_no_op hTK5.2.2.2 ms hTE5.1 hTE5.2.2.2.2.1 mp (by omega)
  have hj5 := j25_eq hTK5.2.2.2 (mk := 43) (i := (rep2 k ++ R0).length) (by decide)
  rw [if_neg (fun q => by have := q.2; omega)] at hj5
  have hsl5 : ∀ x, x ∈ s2 → x < 40 := fun x hx => by have := isSum_mem mp x hx; omega
  have hfx13 : FX q L S S13 := hfx12.trans m4 (by omega)
  have hfe5 : FE q W T T5 := hfe4.trans m5 (by omega)
  have haut5 : ∀ n, aut (n + (K5 + (1 + (K3 + (1 + K1))))) T = aut n T5 := fun n => by rw [show n + (K5 + (1 + (K3 + (1 + K1)))) = n + K5 + (1 + (K3 + (1 + K1))) by omega, haut4, m2]
  rw [List.length_append, hl4x] at hW5
  obtain ⟨S15, x1, x2, x3, x4, x5, x6, x7, x8⟩ := aimc (i := L3) hS13 hq (by omega)
  have hCe : ifC S13 (nI L3) = (mX4_take S15 25 211).bind fun S16 => some S16 := by
    unfold ifC
    rw [dO_out hS13.2.1 hq, Option.bind_some, x1, Option.bind_some]
  rw [hCe]
  by_cases c211 : ¬ κ5 = 211
  · -- no end
    obtain ⟨S4, g1', g2, g3, g4, g5⟩ := failc (f := 1) x2 (show L5 ≤ 300 by omega) (by rw [x7]; exact hTK5.1.2.1) (by decide)
    have hfo : FO len q S15 T5 S4 L5 W5 st5 := by
      refine FO.here (K := 2) (⟨x2, hTE5, hTP5.se x7 x8, hTK5.se x7, hq, hL5, by rw [List.length_append, hl4x]; exact hW5⟩ : EN len b q ie S15 T5 o (s2 ++ 43 :: (rep2 k ++ R0)) L5 W5 κ5 st5 v5 bh5 1) g2 g3 g4 g5 (by decide) (fun n => stop_m hTE5 (by decide) hsl5 hbt5 ?_ n) (by decide)
      rw [hj5, if_neg (fun q => c211 q.1), if_neg (fun q => by have := q.2; omega), if_neg (fun q => by have := q.2; omega)]
    have hfo2 := hfo.more (st := st) (K := K5 + (1 + (K3 + (1 + K1)))) (hfx13.trans x3 (show L ≤ L3 by omega)) hfe5 (show L ≤ L5 by omega) (by omega) haut5 (by omega)
    exact ⟨S4, by rw [show mX4_take S15 25 211 = some S4 from taken (k := 211) x2.1 x2.2.2.1 (by rw [x7]; exact hTK5.1.1) c211 (by omega) (by decide) g1', Option.bind_some], Or.inl hfo2⟩
  have c211 : κ5 = 211 := Decidable.of_not_not c211
  -- end
  rw [if_pos ⟨c211, rfl⟩] at hj5
  obtain ⟨S16, T6, κ6, st6, v6, bh6, z1, z2, z3, z4, z5, z6, z7, z8, z9⟩ := tr_close m1 (Or.inr rfl) (fun x hx => isSum_mem mp x hx) hbt5 hj5 (by omega) (by omega) hR (by omega) x2.1 x7 x8
  rw [if_pos rfl] at z8 z9
  rw [show mX4_take S15 25 211 = some S16 from takec (κ := 211) x2.1 x2.2.2.1 (by rw [x7, hTK5.1.1, c211]) z1, Option.bind_some]
  have hbl6 := z6.2.2.1
  have hS16 := z3.se x2
  -- the code of the class at the end
  have q13 : ∀ i, i ≠ L3 → gI S16 (26 + 6 * q + 1) i = gI S13 (26 + 6 * q + 1) i ∧ gI S16 (26 + 6 * q + 2) i = gI S13 (26 + 6 * q + 2) i := fun i hi => ⟨by rw [z3.2.1 _ (by omega), x4], by rw [z3.2.1 _ (by omega), x6 i hi]⟩
  have q12 : ∀ i, i < L3 → gI S16 (26 + 6 * q + 1) i = gI S12 (26 + 6 * q + 1) i ∧ gI S16 (26 + 6 * q + 2) i = gI S12 (26 + 6 * q + 2) i := fun i hi => ⟨((q13 i (by omega)).1).trans (m4.2.2.2.2.2 i (by omega)).1, ((q13 i (by omega)).2).trans (m4.2.2.2.2.2 i (by omega)).2⟩
  have q7 : ∀ i, i < L3 → i ≠ L1 → gI S16 (26 + 6 * q + 1) i = gI S6 (26 + 6 * q + 1) i ∧ gI S16 (26 + 6 * q + 2) i = gI S6 (26 + 6 * q + 2) i := fun i hi hne => by
    refine ⟨((q12 i hi).1).trans ?_, ((q12 i hi).2).trans ?_⟩
    · rw [w4, (u6 i (by omega)).1, h3.2.1 _ (by omega)]
    · rw [w6 i hne, (u6 i (by omega)).2, h3.2.1 _ (by omega)]
  have q1 : ∀ i, i < L1 → gI S16 (26 + 6 * q + 1) i = gI S1 (26 + 6 * q + 1) i ∧ gI S16 (26 + 6 * q + 2) i = gI S1 (26 + 6 * q + 2) i := fun i hi => by
    have t1 := q7 i (by omega) (by omega)
    have t2 := d4.2.2.2.2.2 i (by omega)
    have t3 := p6 i (by omega)
    exact ⟨t1.1.trans (t2.1.trans (t3.1.trans (by rw [a3.2.1 _ (by omega)]))), t1.2.trans (t2.2.trans (t3.2.trans (by rw [a3.2.1 _ (by omega)])))⟩
  have o1 : gI S16 (26 + 6 * q + 1) L1 = 3 := by
    rw [(q12 L1 (by omega)).1, w4, (u6 L1 (by omega)).1, h3.2.1 _ (by omega), (d4.2.2.2.2.2 L1 (by omega)).1]
    exact p4
  have o1a : gI S16 (26 + 6 * q + 2) L1 = nI (L3 + 1) := by rw [(q12 L1 (by omega)).2]; exact w5
  have o3 : gI S16 (26 + 6 * q + 1) L3 = 2 := by
    rw [z3.2.1 _ (by omega), x4, (m4.2.2.2.2.2 L3 (by omega)).1, w4]
    exact u4
  have o3a : gI S16 (26 + 6 * q + 2) L3 = nI L5 := by rw [z3.2.1 _ (by omega)]; exact x5
  have hcev := cev_if (D := D1 o + 5) (e11.congr (fun i _ b' => q1 i b')) ((d11.mono (show D1 o + 2 ≤ D1 o + 5 by omega)).congr (fun i a' b' => q7 i b' (by omega))) ((m11.mono (show D1 o + 2 ≤ D1 o + 5 by omega)).congr (fun i a' b' => q13 i (by omega))) (by omega) (by omega) (by omega) o1 o1a o3 o3a (by omega)
  have hfx16 : FX q L S S16 := (hfx13.trans x3 (show L ≤ L3 by omega)).trans (z3.fx (q := q) (L := L5)) (by omega)
  have hfe6 : FE q W T T6 := hfe5.trans z4 (by omega)
  have hlc : ((c1 ++ opsC pend) ++ (c3 ++ opsC s1) ++ (c5 ++ opsC s2) ++ [(23, 0)] : List (Nat × Nat)).length = c1.length + pend.length + c3.length + s1.length + c5.length + s2.length + 1 := by
    rw [List.length_append, List.length_append, List.length_append, List.length_append, List.length_append, List.length_append, opsC_len, opsC_len, opsC_len]
    show _ + 1 = _
    omega
  refine ⟨S16, rfl, Or.inr ⟨T6, 1 + (K5 + (1 + (K3 + (1 + K1)))), (c1 ++ opsC pend) ++ (c3 ++ opsC s1) ++ (c5 ++ opsC s2) ++ [(23, 0)], _, L5, W5 + s2.length + 1 + k, κ6, st6, v6, bh6, ⟨hS16, z8, z7, z6, hq, by omega, by omega⟩, fun n => by rw [show n + (1 + (K5 + (1 + (K3 + (1 + K1))))) = n + 1 + (K5 + (1 + (K3 + (1 + K1)))) by omega, haut5, z2], by omega, hfx16, hfe6, ?_, by rw [hlc]; omega, ?_, mv_if e9 d9 m9, by omega, hcev, by omega, by rw [hlc]; omega⟩⟩
  · -- the code of the reference
    rw [codL_app, codL_app, codL_app, codL_app, codL_app, codL_app, codL_app]
    have r9 := (codL_app _ _ _).mp z9
    have r9' := (codL_app _ _ _).mp r9.1
    have hls2 : (List.map (fun x => (x, 0)) s2 : List (Nat × Nat)).length = s2.length := List.length_map ..
    rw [hls2] at r9'
    have hlb : (List.map (fun x => (x, 0)) s2 ++ [(23, 0)] : List (Nat × Nat)).length = s2.length + 1 := by rw [List.length_append, hls2]; rfl
    rw [hlb] at r9
    have C : ∀ (cc : List (Nat × Nat)) (w : Nat) (Tz : xS) (wz : Nat), codL (gI Tz 3) (680 * q + 75) cc w → w + cc.length ≤ wz → FE q wz Tz T6 → codL (gI T6 3) (680 * q + 75) cc w := fun cc w Tz wz h1 h2 h3 => codL_congr cc w (fun i a' b' => h3.2.2.2.2 i (Or.inl (by omega))) h1
    have f56 : FE q W5 T5 T6 := z4
    have f46 : FE q (W3 + s1.length) T4 T6 := m5.trans z4 (by omega)
    have f36 : FE q W3 T3 T6 := h4.trans f46 (by omega)
    have f26 : FE q (W1 + pend.length) T2 T6 := d5.trans f36 (by omega)
    have f16 : FE q W1 T1 T6 := a4.trans f26 (by omega)
    simp only [List.length_append, opsC_len]
    refine ⟨⟨⟨⟨⟨C c1 W T1 W1 e6 (by omega) f16, ?_⟩, ?_, ?_⟩, ?_, ?_⟩, ?_⟩, ?_⟩
    · have := C (opsC pend) W1 T2 (W1 + pend.length) a9 (by rw [opsC_len]; omega) f26
      rw [e7] at this
      exact this
    · have := C c3 (W1 + pend.length) T3 W3 d6 (by omega) f36
      rw [show W + (c1.length + pend.length) = W1 + pend.length by omega]
      exact this
    · have := C (opsC s1) W3 T4 (W3 + s1.length) h9 (by rw [opsC_len]; omega) f46
      rw [show W + (c1.length + pend.length) + c3.length = W3 by omega]
      exact this
    · have := C c5 (W3 + s1.length) T5 W5 m6 (by omega) f56
      rw [show W + (c1.length + pend.length + (c3.length + s1.length)) = W3 + s1.length by omega]
      exact this
    · rw [show W + (c1.length + pend.length + (c3.length + s1.length)) + c5.length = W5 by omega]
      exact r9'.1
    · rw [show W + (c1.length + pend.length + (c3.length + s1.length) + (c5.length + s2.length)) = W5 + s2.length by omega]
      exact r9'.2
    · have e1' : W + (c1.length + pend.length + (c3.length + s1.length) + (c5.length + s2.length) + [((23 : Nat), (0 : Nat))].length) = W5 + (s2.length + 1) := by
        show W + (c1.length + pend.length + (c3.length + s1.length) + (c5.length + s2.length) + 1) = _
        omega
      rw [e1']
      exact r9.2
  · exact okC_app (okC_app (okC_app e8 d8) m8) (okC_one (by simp [okP]))

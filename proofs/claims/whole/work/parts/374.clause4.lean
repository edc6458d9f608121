/-! CLAUSES: the orders among them; any clause -/
theorem clause_line {len : Nat} {b : Nat → Nat} {q : Nat} {S T : xS} {n L W onc κ st v bh s : Nat} (h : CLS len b q S T n L W onc κ st v bh) (hs : 2 ≤ s) (hs6 : s < 6) (hκ : κ = 200 + s) (hn : n < 24) : ∃ S', ((mX7_advance S 23).bind fun S4 => (mX4_readOrder S4 25 (nI (200 + s))).bind fun S7 => jX4_readClause_160 S7 25) = some S' ∧ CO len b q S T S' n st (jX9_clause_66 T 0 (nI s) (nI n)) := by
  obtain ⟨⟨hC, hM, hTP, hTK, hq⟩, ⟨g1, g4, g5⟩, ⟨a2, a10, a24⟩, ⟨b12, b14, b3, b18, b21, b4⟩, ⟨hL, hW⟩, hcl, l0, l1⟩ := h
  obtain ⟨T0, e0⟩ : ∃ z, z = pI T 0 20 (nI s) := ⟨_, rfl⟩
  have k0 : ∀ k, k ≠ 20 → gI T0 0 k = gI T 0 k := fun k h1 => by rw [e0, gI_nk _ _ _ _ h1]
  have c0 : ∀ c, c ≠ 0 → gI T0 c = gI T c := fun c hc => by rw [e0, gIf_ne _ _ _ _ hc]
  obtain ⟨S1, T1, κ1, st1, v1, bh1, n1, n2, n3, n4, n5, n6, n7⟩ := nxj (Sx := S) (Tx := T0) hTP hTK hC (hM.ofR (by rw [e0]; rfl)) rfl rfl (k0 4 (by decide)) (k0 7 (by decide)) (c0 4 (by decide))
  have hst := hTK.2.2.1.2.2.1 (by omega)
  have hC1 : RCr S1 := hC.ofR (by rw [n3.1])
  have hM1 : RMr T1 := hM.ofR (by rw [n4.1, e0]; rfl)
  have ho1 : gR S1 25 1 = some (26 + 6 * q) := by unfold gR at g1 ⊢; rw [n3.1]; exact g1
  have s1c : ∀ c, c ≠ 23 → gI S1 c = gI S c := n3.2.1
  obtain ⟨x, hx⟩ : ∃ z, z = 680 * q + 1 + 3 * n := ⟨_, rfl⟩
  have hlen := hTP.1
  have hbl := n6.2.2.1
  obtain ⟨T2, e2⟩ : ∃ z, z = pI T1 3 x (nI s) := ⟨_, rfl⟩
  have c2 : ∀ c, c ≠ 3 → gI T2 c = gI T1 c := fun c h1 => by rw [e2, gIf_ne _ _ _ _ h1]
  have x2 : ∀ i, i ≠ x → gI T2 3 i = gI T 3 i := fun i hi => by rw [e2, gI_nk _ _ _ _ hi, n4.2.1 3 (by decide), c0 3 (by decide)]
  have x2x : gI T2 3 x = nI s := by rw [e2, gI_eq]
  have hM2 : RMr T2 := hM1.ofR (by rw [e2]; rfl)
  have p2 : ∀ k, k < 7 ∨ 10 < k → k ≠ 20 → gI T2 0 k = gI T 0 k := fun k hk hk2 => by rw [c2 0 (by decide), n4.2.2.1 k hk, k0 k hk2]
  have bm2 : BM q T T2 := ⟨by rw [e2]; show T1.2.2 = _; rw [n4.1, e0]; rfl, fun c h1 h2 h3 => by rw [c2 c h2, n4.2.1 c h1, c0 c h1], fun k hk => p2 k (by omega) (by omega), fun i hi => x2 i (by omega)⟩
  have hTP2 : TP S1 T2 len b := n7.te (by rw [c2 0 (by decide)]) (c2 4 (by decide))
  have hTK2 : TK S1 T2 len b κ1 st1 v1 bh1 := n6.te (fun j _ => by rw [c2 0 (by decide)]) (by rw [e2]; rfl)
  obtain ⟨S4, r1, r2⟩ := order_ok (x := x) hC1 hM2 hTP2 hTK2 hq (by rw [s1c 25 (by decide)]; exact g4) ho1 (by rw [s1c _ (by omega)]; exact a10) hn hx hs hs6
  have hj : jX9_clause_66 T 0 (nI s) (nI n) = (mX9_line T2 0 (nI s) (nI x)).bind fun q8 => jX9_clause_118 q8.2 0 (nI s) (nI x) (nI W) q8.1 := by
    unfold jX9_clause_66
    rw [xlet_eq, ← e0, n2, Option.bind_some, xlet_eq, n4.2.2.1 12 (by omega), k0 12 (by decide), b12, show (nI (680 * q) + 1 : Int32) + 3 * nI n = nI x from by rw [hx, nI_1, show (3 : Int32) = nI 3 from rfl, pk_mul, nI_add], rm_2 hM1, Option.bind_some, sI_nI (Y := Ym) (c := 3) (by show _ < 2720; omega) (by decide), Option.bind_some, if_pos (show (2 : Int32) ≤ nI s from nI_le (a := 2) hs (by omega)), ← e2, p2 14 (by omega) (by omega), b14]
  rw [n1, Option.bind_some, r1, Option.bind_some, hj]
  rcases r2 with ⟨f, st2, T4, u1, u2, u3, u4, u5⟩ | ⟨T4, a, c, κ2, st2, v2, bh2, u1, u2, u3, u4, u5, u6⟩
  · refine ⟨S4, ?_, Or.inl ⟨f, st2, T4, u1, n3.bf.trans u2, ?_, u4, bm2.trans u5⟩⟩
    · unfold jX4_readClause_160
      rw [takef (by rw [u1.1]; exact nI_ne0 (Nat.pos_of_ne_zero u1.2.2.1) (by have := u1.2.2.2; omega)), Option.bind_some]
    · rw [u3, Option.bind_some]
      unfold jX9_clause_118
      dsimp only
      rw [if_neg (nI_ne0 (Nat.pos_of_ne_zero u1.2.2.1) (by have := u1.2.2.2; omega))]
  · obtain ⟨d1, d2, d3, d4, d5, d6, d7⟩ := u2
    obtain ⟨m1, m2, m3, m4, m5, m6⟩ := u3
    have hlen4 := u5.2.2.1
    have hM4 : RMr T4 := hM2.ofR m1
    have hC4 : RCr S4 := hC1.ofR (by rw [d1])
    have h4c : ∀ e, e ≠ 23 → e ≠ 26 + 6 * q → e ≠ 26 + 6 * q + 3 → e ≠ 26 + 6 * q + 4 → e ≠ 26 + 6 * q + 5 → gI S4 e = gI S e := fun e h0 h1 h2 h3 h4 => (d2 e h0 h1 h2 h3 h4).trans (s1c e h0)
    have h44 : gI S4 25 4 = 0 := by rw [h4c 25 (by omega) (by omega) (by omega) (by omega) (by omega)]; exact g4
    have bf4 : BF q S S4 := n3.bf.trans ⟨d1, fun e h0 _ h2 => d2 e h0 (by omega) (by omega) (by omega) (by omega), d3, by rw [d2 25 (by omega) (by omega) (by omega) (by omega) (by omega)]⟩
    have bm4 : BM q T T4 := bm2.trans ⟨m1, fun e h0 h3 _ => m2 e h0 h3, fun k hk => m3 k (by omega), fun i hi => m6 i (by omega) (by omega)⟩
    have hn4 : gI T4 3 (680 * q) = nI n := by rw [m6 _ (by omega) (by omega), x2 _ (by omega)]; exact b3
    have hj2 : jX9_clause_118 T4 0 (nI s) (nI x) (nI W) 0 = jX9_clause_155 T4 0 := by
      unfold jX9_clause_118
      rw [if_pos rfl, if_pos (show (2 : Int32) ≤ nI s from nI_le (a := 2) hs (by omega))]
    have t12 : gI T4 0 12 = nI (680 * q) := by rw [m3 12 (by omega), p2 12 (by omega) (by omega)]; exact b12
    rw [u1, Option.bind_some]
    dsimp only
    rw [hj2]
    rcases semi (n := n) hC4 hM4 u6 u5 hq h44 t12 hn4 with ⟨S', T', z1, z2, z3, z4, z5, z6, z7⟩ | ⟨S', T', κ3, st3, v3, bh3, z1, z2, z3, z4, z5, z6, z7⟩
    · exact ⟨S', z1, Or.inl ⟨1, st2, T', ⟨z3, z4, by decide, by decide⟩, bf4.trans z5, z2, z6, bm4.trans z7⟩⟩
    · have sc : ∀ c, c ≠ 23 → gI S' c = gI S4 c := z3.2.1
      have tx : ∀ i, i ≠ 680 * q → gI T' 3 i = gI T4 3 i := fun i hi => by rw [z4.2.1 3 (by decide), gI_nk _ _ _ _ hi]
      have tk : ∀ k, k = 12 ∨ k = 14 ∨ k = 18 ∨ k = 21 → gI T' 0 k = gI T 0 k := fun k hk => by rw [z4.2.2.1 k (by omega), gI_ne _ _ _ _ (by decide), m3 k (by omega), p2 k (by omega) (by omega)]
      have tfar : ∀ i, i ≠ 680 * q → i ≠ x → i ≠ x + 1 → i ≠ x + 2 → gI T' 3 i = gI T 3 i := fun i h1 h2 h3 h4 => by rw [tx i h1, m6 i h3 h4, x2 i h2]
      have sB : ∀ j, j ≠ 10 → gI S' (26 + 6 * q) j = gI S (26 + 6 * q) j := fun j h1 => by rw [sc _ (by omega), d4 j h1, s1c _ (by omega)]
      have sop : ∀ d, d = 1 ∨ d = 2 → gI S' (26 + 6 * q + d) = gI S (26 + 6 * q + d) := fun d hd => by rw [sc _ (by omega), h4c _ (by omega) (by omega) (by omega) (by omega) (by omega)]
      have stt : L ≤ st3 ∧ W ≤ st3 := by omega
      have xxx : gI T' 3 x = nI s := by rw [tx x (by omega), m6 x (by omega) (by omega), x2x]
      have hold : ∀ s' m t, s' < 2 → LAWs q S T n L W s' m t → LAWs q S' T' (n + 1) L W s' m t := fun s' m t hs' hl => by
        refine hl.go (by omega) (by omega) (by omega) (by omega) (fun j hj => sB j (by omega)) (fun i _ => ⟨by rw [sop 1 (Or.inl rfl)], by rw [sop 2 (Or.inr rfl)]⟩) (fun i h1 h2 h3 => tfar i (by omega) (by omega) (by omega) (by omega)) (fun k h1 h2 _ => ?_)
        have : k = n := by omega
        subst this
        rw [← hx, xxx]
        exact fun e => by
          have := (nI_eq (a := s) (b := s') (by omega) (by omega)).mp e
          omega
      refine ⟨S', z1, Or.inr ⟨T', L, W, onc, κ3, st3, v3, bh3, z2, ⟨⟨hC4.ofR (by rw [z3.1]), (hM4.ofR (S' := pI T4 3 (680 * q) (nI (n + 1))) rfl).ofR z4.1, z7, z6, hq⟩, ⟨?_, ?_, ?_⟩, ⟨?_, ?_, by omega⟩, ⟨by rw [tk 12 (by omega)]; exact b12, by rw [tk 14 (by omega)]; exact b14, by rw [z4.2.1 3 (by decide), gI_eq], by rw [tk 18 (by omega)]; exact b18, by rw [tk 21 (by omega)]; exact b21, b4⟩, stt, fun k hk => ?_, hold 0 3 _ (by decide) l0, hold 1 6 _ (by decide) l1⟩, by omega, bf4.trans z3.bf, (bm4.trans (BM.pI3 (by omega))).trans z4.bm⟩⟩
      · unfold gR at g1 ⊢; rw [z3.1, d1, n3.1]; exact g1
      · rw [sc 25 (by decide)]; exact h44
      · rw [sc 25 (by decide), h4c 25 (by omega) (by omega) (by omega) (by omega) (by omega)]; exact g5
      · rw [sB 2 (by decide)]; exact a2
      · rw [sc _ (by omega)]; exact d5
      · by_cases hkn : k = n
        · subst hkn
          refine ⟨s, hs6, by rw [sc _ (by omega)]; exact d6.1, by rw [← hx]; exact xxx, fun _ => ?_, fun _ hh => ?_⟩
          · rw [sc _ (by omega), d6.2.1, ← hx, tx _ (by omega), m4]
          · rw [sc _ (by omega), d6.2.2, ← hx, tx _ (by omega), m5 hh]
        · obtain ⟨s', i1, i2, i3, i4, i5⟩ := hcl k (by omega)
          have hk2 : k < n := by omega
          refine ⟨s', i1, ?_, ?_, fun hh => ?_, fun hh hh2 => ?_⟩
          · rw [sc _ (by omega), (d7 k hkn).1, s1c _ (by omega)]; exact i2
          · rw [tfar _ (by omega) (by omega) (by omega) (by omega)]; exact i3
          · rw [tfar _ (by omega) (by omega) (by omega) (by omega), sc _ (by omega), (d7 k hkn).2.1, s1c _ (by omega)]; exact i4 hh
          · rw [tfar _ (by omega) (by omega) (by omega) (by omega), sc _ (by omega), (d7 k hkn).2.2, s1c _ (by omega)]; exact i5 hh hh2
theorem has_law {q : Nat} {S T : xS} {n L W s m : Nat} {t : Bool} (h : LAWs q S T n L W s m t) (hL : L ≤ 300) : (gI S (26 + 6 * q) (4 + 2 * s) ≤ gI S (26 + 6 * q) (3 + 2 * s)) ↔ t = false := by
  rcases h with ⟨h1, h2, h4⟩ | ⟨h1, k, fr, to, f, c, fM, g1, g2, g3, g4, g5, g6, g7, g8⟩
  · exact ⟨fun _ => h1, fun _ => h4⟩
  · rw [g4, g5, h1]
    exact ⟨fun e => absurd e (nI_ge (by omega) (by omega)), fun e => absurd e (by decide)⟩
theorem clause_ok {len : Nat} {b : Nat → Nat} {q : Nat} {S T : xS} {n L W onc κ st v bh : Nat} (h : CLS len b q S T n L W onc κ st v bh) : ∃ S', mX4_readClause S 25 = some S' ∧ CO len b q S T S' n st (mX9_clause T 0) := by
  have h' := h
  obtain ⟨⟨hC, hM, hTP, hTK, hq⟩, ⟨g1, g4, g5⟩, ⟨a2, a10, a24⟩, ⟨b12, b14, b3, b18, b21, b4⟩, ⟨hL, hW⟩, hcl, l0, l1⟩ := h'
  have hκ3 := κ_lt hTK.2.2.2
  have hlen := hTP.1
  have hbl := hTK.2.2.1
  have hf : ∀ f : Nat, f ≠ 0 → f < 7 → CF q S T (pI (pI S 25 4 (nI f)) 25 5 (nI st)) (some (nI f, T)) := fun f h1 h2 => ⟨f, st, T, ⟨by rw [gI_nk _ _ _ _ (by decide), gI_eq], gI_eq _ _ _ _, h1, h2⟩, (BF.pI25 (by decide)).trans (BF.pI25 (by decide)), rfl, hTK.2.1.1, BM.rfl'⟩
  have hfl := fail0 hC g4 hTK.1.2.1
  unfold mX4_readClause mX9_clause
  rw [rc_25_0 hC, Option.bind_some, hTK.1.1, sortOf_m hTK.2.2.2, Option.bind_some]
  dsimp only
  by_cases hr : 200 ≤ κ ∧ κ ≤ 205
  · obtain ⟨s, hs⟩ : ∃ s, κ = 200 + s := ⟨κ - 200, by omega⟩
    have hs6 : s < 6 := by omega
    rw [if_neg (show ¬ nI κ < (200 : Int32) from nI_nlt (b := 200) hr.1 (by omega)), if_pos (show nI κ ≤ (205 : Int32) from nI_le (b := 205) hr.2 (by decide)), if_pos hr, hs, show 200 + s - 200 = s by omega, if_pos (show (0 : Int32) ≤ nI s from nI_le (a := 0) (by omega) (by omega))]
    -- the class before the count, the reference too
    have e72 : jX4_readClause_72 S 25 (nI (200 + s)) = if n < 24 then ((mX7_advance S 23).bind fun S4 => if s < 2 then jX4_readClause_114 S4 25 (nI (200 + s)) else (mX4_readOrder S4 25 (nI (200 + s))).bind fun S7 => jX4_readClause_160 S7 25) else some (pI (pI S 25 4 (nI 6)) 25 5 (nI st)) := by
      unfold jX4_readClause_72
      rw [dO_out g1 hq, Option.bind_some, a10, rc_25_0 hC, Option.bind_some]
      by_cases hn : n < 24
      · rw [if_pos hn, if_pos (show nI n < (24 : Int32) from nI_lt (b := 24) hn (by decide))]
        congr 1
        funext S4
        have : s = 0 ∨ s = 1 ∨ 2 ≤ s := by omega
        rcases this with rfl | rfl | h2
        · rfl
        · rfl
        · rw [if_neg (show ¬ nI (200 + s) = (200 : Int32) from fun e => by have := (nI_eq (a := 200 + s) (b := 200) (by omega) (by decide)).mp e; omega), if_neg (show ¬ nI (200 + s) = (201 : Int32) from fun e => by have := (nI_eq (a := 200 + s) (b := 201) (by omega) (by decide)).mp e; omega), if_neg (by omega)]
      · rw [if_neg hn, if_neg (show ¬ nI n < (24 : Int32) from nI_nlt (b := 24) (by omega) (by omega)), hfl 6, Option.bind_some]
        rfl
    have e30 : jX9_clause_30 T 0 (nI s) = if n < 24 then (if s < 2 then jX9_clause_66 (pI T 0 21 (nI (onc ||| 2 ^ s))) 0 (nI s) (nI n) else jX9_clause_66 T 0 (nI s) (nI n)) else some (nI 6, T) := by
      unfold jX9_clause_30
      rw [rm_2 hM, Option.bind_some, b12, aI_nI (Y := Ym) (c := 3) (by show _ < 2720; omega) (by decide), Option.bind_some, b3]
      by_cases hn : n < 24
      · rw [if_pos hn, if_neg (show ¬ nI n = (24 : Int32) from fun e => by have := (nI_eq (a := n) (b := 24) (by omega) (by decide)).mp e; omega)]
        by_cases h2 : s < 2
        · rw [if_neg (show ¬ (2 : Int32) ≤ nI s from nI_ge (a := s) (b := 2) h2 (by decide)), if_pos h2, xlet_eq, b21, (onc_d onc b4 s h2).1.1]
        · rw [if_pos (show (2 : Int32) ≤ nI s from nI_le (a := 2) (by omega) (by omega)), if_neg h2]
      · rw [if_neg hn, if_pos (show nI n = (24 : Int32) from by rw [show n = 24 by omega]; rfl)]
        rfl
    -- a second law of its sort
    have ec : (if (nI (200 + s) = (200 : Int32) : Prop) then ((dO Yc (gR S 25 1) 6).bind fun d5 => (mX6_hasSlices S d5).bind fun q6 => if (q6.1 = 0 : Prop) then (jX4_readClause_47 q6.2 25 (nI (200 + s))) else (jX4_readClause_64 q6.2 25)) else (jX4_readClause_47 S 25 (nI (200 + s)))) = if s < 2 ∧ onc.testBit s = true then some (pI (pI S 25 4 (nI 4)) 25 5 (nI st)) else jX4_readClause_72 S 25 (nI (200 + s)) := by
      have e64 : jX4_readClause_64 S 25 = some (pI (pI S 25 4 (nI 4)) 25 5 (nI st)) := by
        unfold jX4_readClause_64
        rw [hfl 4, Option.bind_some]
        rfl
      have h0 := has_law l0 (by omega)
      have h1 := has_law l1 (by omega)
      have : s = 0 ∨ s = 1 ∨ 2 ≤ s := by omega
      unfold jX4_readClause_47
      rcases this with rfl | rfl | h2
      · rw [if_pos (show nI (200 + 0) = (200 : Int32) from rfl), dO_out g1 hq, Option.bind_some]
        unfold mX6_hasSlices
        by_cases hb : onc.testBit 0 = true
        · rw [if_neg (show ¬ gI S (26 + 6 * q) 4 ≤ gI S (26 + 6 * q) 3 from fun e => by rw [h0.mp e] at hb; exact absurd hb (by decide)), Option.bind_some, if_neg (show ¬ (1 : Int32) = 0 by decide), if_pos ⟨by decide, hb⟩]
          exact e64
        · have hb' : onc.testBit 0 = false := by simpa using hb
          rw [if_pos (show gI S (26 + 6 * q) 4 ≤ gI S (26 + 6 * q) 3 from h0.mpr hb'), Option.bind_some, if_pos rfl, if_neg (show ¬ nI (200 + 0) = (201 : Int32) from by decide), if_neg (fun e => hb e.2)]
      · rw [if_neg (show ¬ nI (200 + 1) = (200 : Int32) from by decide), if_pos (show nI (200 + 1) = (201 : Int32) from rfl), dO_out g1 hq, Option.bind_some]
        unfold mX6_hasEats
        by_cases hb : onc.testBit 1 = true
        · rw [if_neg (show ¬ gI S (26 + 6 * q) 6 ≤ gI S (26 + 6 * q) 5 from fun e => by rw [h1.mp e] at hb; exact absurd hb (by decide)), Option.bind_some, if_neg (show ¬ (1 : Int32) = 0 by decide), if_pos ⟨by decide, hb⟩]
          exact e64
        · have hb' : onc.testBit 1 = false := by simpa using hb
          rw [if_pos (show gI S (26 + 6 * q) 6 ≤ gI S (26 + 6 * q) 5 from h1.mpr hb'), Option.bind_some, if_pos rfl, if_neg (fun e => hb e.2)]
      · rw [if_neg (show ¬ nI (200 + s) = (200 : Int32) from fun e => by have := (nI_eq (a := 200 + s) (b := 200) (by omega) (by decide)).mp e; omega), if_neg (show ¬ nI (200 + s) = (201 : Int32) from fun e => by have := (nI_eq (a := 200 + s) (b := 201) (by omega) (by decide)).mp e; omega), if_neg (fun e => by omega)]
    have em : (if (2 ≤ nI s : Prop) then (jX9_clause_30 T 0 (nI s)) else (if ((((gI T 0 21) >>> (nI s &&& 31)) &&& 1) = 1 : Prop) then (some (4, T)) else (jX9_clause_30 T 0 (nI s)))) = if s < 2 ∧ onc.testBit s = true then some (nI 4, T) else jX9_clause_30 T 0 (nI s) := by
      by_cases h2 : s < 2
      · rw [if_neg (show ¬ (2 : Int32) ≤ nI s from nI_ge (a := s) (b := 2) h2 (by decide)), b21]
        by_cases hb : onc.testBit s = true
        · rw [if_pos ((onc_d onc b4 s h2).2.mpr hb), if_pos ⟨h2, hb⟩]
          rfl
        · rw [if_neg (fun e => hb ((onc_d onc b4 s h2).2.mp e)), if_neg (fun e => hb e.2)]
      · rw [if_pos (show (2 : Int32) ≤ nI s from nI_le (a := 2) (by omega) (by omega)), if_neg (fun e => h2 e.1)]
    rw [ec, em]
    by_cases h4 : s < 2 ∧ onc.testBit s = true
    · rw [if_pos h4, if_pos h4]
      exact ⟨_, rfl, Or.inl (hf 4 (by decide) (by decide))⟩
    · rw [if_neg h4, if_neg h4, e72, e30]
      by_cases hn : n < 24
      · rw [if_pos hn, if_pos hn]
        by_cases h2 : s < 2
        · simp only [if_pos h2]
          exact clause_law h h2 hs (by
            cases hb : onc.testBit s
            · rfl
            · exact absurd ⟨h2, hb⟩ h4) hn
        · simp only [if_neg h2]
          exact clause_line h (by omega) hs6 hs hn
      · rw [if_neg hn, if_neg hn]
        exact ⟨_, rfl, Or.inl (hf 6 (by decide) (by decide))⟩
  · have e22 : jX4_readClause_22 S 25 = some (pI (pI S 25 4 (nI 1)) 25 5 (nI st)) := by
      unfold jX4_readClause_22
      rw [hfl 1, Option.bind_some]
      rfl
    rw [if_neg hr, if_neg (show ¬ (0 : Int32) ≤ -1 by decide)]
    refine ⟨pI (pI S 25 4 (nI 1)) 25 5 (nI st), ?_, Or.inl (hf 1 (by decide) (by decide))⟩
    by_cases h1 : κ < 200
    · rw [if_pos (show nI κ < (200 : Int32) from nI_lt (b := 200) h1 (by decide)), e22]
    · rw [if_neg (show ¬ nI κ < (200 : Int32) from nI_nlt (b := 200) (by omega) (by omega)), if_neg (show ¬ nI κ ≤ (205 : Int32) from nI_ge (a := 205) (by omega) (by omega)), e22]

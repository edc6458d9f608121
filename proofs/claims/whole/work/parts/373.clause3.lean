/-! CLAUSES: the laws among them -/
theorem onc_d : ∀ onc, onc < 4 → ∀ s, s < 2 → ((nI onc ||| ((1 : Int32) <<< (nI s &&& 31))) = nI (onc ||| 2 ^ s) ∧ onc ||| 2 ^ s < 4 ∧ (onc ||| 2 ^ s).testBit s = true ∧ (onc ||| 2 ^ s).testBit (1 - s) = onc.testBit (1 - s)) ∧ ((((nI onc) >>> (nI s &&& 31)) &&& 1) = 1 ↔ onc.testBit s = true) := by decide
theorem addL {q n s L Lx : Nat} {S : xS} (hC : RCr S) (hq : q < 4) (hs : s < 2) (h2 : gI S (26 + 6 * q) 2 = nI Lx) (h10 : gI S (26 + 6 * q) 10 = nI n) (hn : n < 24) : ∃ S', mX6_addLaw S (26 + 6 * q) (nI (200 + s)) (nI L) = some S' ∧ S'.2 = S.2 ∧ (∀ c, c ≠ 26 + 6 * q → c ≠ 26 + 6 * q + 3 → c ≠ 26 + 6 * q + 4 → c ≠ 26 + 6 * q + 5 → gI S' c = gI S c) ∧ (∀ j, j ≠ 10 → j ≠ 3 + 2 * s → j ≠ 4 + 2 * s → gI S' (26 + 6 * q) j = gI S (26 + 6 * q) j) ∧ gI S' (26 + 6 * q) 10 = nI (n + 1) ∧ gI S' (26 + 6 * q) (3 + 2 * s) = nI L ∧ gI S' (26 + 6 * q) (4 + 2 * s) = nI Lx ∧ gI S' (26 + 6 * q + 3) n = nI (200 + s) ∧ ∀ j, j ≠ n → gI S' (26 + 6 * q + 3) j = gI S (26 + 6 * q + 3) j ∧ gI S' (26 + 6 * q + 4) j = gI S (26 + 6 * q + 4) j ∧ gI S' (26 + 6 * q + 5) j = gI S (26 + 6 * q + 5) j := by
  obtain ⟨S2, e2⟩ : ∃ z, z = pI (pI S (26 + 6 * q) (3 + 2 * s) (nI L)) (26 + 6 * q) (4 + 2 * s) (nI Lx) := ⟨_, rfl⟩
  have c2 : ∀ c, c ≠ 26 + 6 * q → gI S2 c = gI S c := fun c hc => by rw [e2, gIf_ne _ _ _ _ hc, gIf_ne _ _ _ _ hc]
  have k2 : ∀ j, j ≠ 3 + 2 * s → j ≠ 4 + 2 * s → gI S2 (26 + 6 * q) j = gI S (26 + 6 * q) j := fun j a b => by rw [e2, gI_nk _ _ _ _ b, gI_nk _ _ _ _ a]
  obtain ⟨S', a1, a2, a3, a4, a5, a6, a7⟩ := addc (q := q) (n := n) (S := S2) (hC.ofR (by rw [e2]; rfl)) hq (by rw [k2 10 (by omega) (by omega)]; exact h10) hn (nI (200 + s)) 0 0
  refine ⟨S', ?_, by rw [a2, e2]; rfl, fun c b1 b2 b3 b4 => (a3 c b1 b2 b3 b4).trans (c2 c b1), fun j b1 b2 b3 => (a4 j b1).trans (k2 j b2 b3), a5, ?_, ?_, a6.1, fun j hj => ?_⟩
  · unfold mX6_addLaw jX6_addLaw_36
    have h : s = 0 ∨ s = 1 := by omega
    rcases h with rfl | rfl
    · rw [if_neg (by decide), xlet_eq, xlet_eq, gI_nk _ _ _ _ (by decide), h2, ← e2, a1, Option.bind_some]
    · rw [if_pos (by decide), xlet_eq, xlet_eq, gI_nk _ _ _ _ (by decide), h2, ← e2, a1, Option.bind_some]
  · rw [a4 _ (by omega), e2, gI_nk _ _ _ _ (by omega), gI_eq]
  · rw [a4 _ (by omega), e2, gI_eq]
  · rw [← c2 _ (show 26 + 6 * q + 3 ≠ 26 + 6 * q by omega), ← c2 _ (show 26 + 6 * q + 4 ≠ 26 + 6 * q by omega), ← c2 _ (show 26 + 6 * q + 5 ≠ 26 + 6 * q by omega)]
    exact a7 j hj
theorem c114 {q s L : Nat} {S : xS} (hq : q < 4) (hs : s < 2) (hout : gR S 25 1 = some (26 + 6 * q)) (h2 : gI S (26 + 6 * q) 2 = nI L) : jX4_readClause_114 S 25 (nI (200 + s)) = (rX4 100 0 (pI S 25 2 (nI s)) 25 0).bind fun S3 => (dO Yc (gR S3 25 1) 6).bind fun d4 => (mX6_addLaw S3 d4 (nI (200 + s)) (nI L)).bind fun S5 => jX4_readClause_160 S5 25 := by
  unfold jX4_readClause_114 jX4_readClause_135
  rw [dO_out hout hq, Option.bind_some, h2]
  have h : s = 0 ∨ s = 1 := by omega
  rcases h with rfl | rfl
  · rw [if_neg (by decide), show zk 0 = some _ from rfl, Option.bind_some, xlet_eq]; rfl
  · rw [if_pos (by decide), show zk 1 = some _ from rfl, Option.bind_some, xlet_eq]; rfl
/-- what a clause comes to -/
def CO (len : Nat) (b : Nat → Nat) (q : Nat) (S T S' : xS) (n st : Nat) (r : Option (Int32 × xS)) : Prop := CF q S T S' r ∨ ∃ T' L' W' onc' κ' st' v' bh', r = some (0, T') ∧ CLS len b q S' T' (n + 1) L' W' onc' κ' st' v' bh' ∧ st < st' ∧ BF q S S' ∧ BM q T T'
theorem clause_law {len : Nat} {b : Nat → Nat} {q : Nat} {S T : xS} {n L W onc κ st v bh s : Nat} (h : CLS len b q S T n L W onc κ st v bh) (hs : s < 2) (hκ : κ = 200 + s) (hb : onc.testBit s = false) (hn : n < 24) : ∃ S', ((mX7_advance S 23).bind fun S4 => jX4_readClause_114 S4 25 (nI (200 + s))) = some S' ∧ CO len b q S T S' n st (jX9_clause_66 (pI T 0 21 (nI (onc ||| 2 ^ s))) 0 (nI s) (nI n)) := by
  obtain ⟨⟨hC, hM, hTP, hTK, hq⟩, ⟨g1, g4, g5⟩, ⟨a2, a10, a24⟩, ⟨b12, b14, b3, b18, b21, b4⟩, ⟨hL, hW⟩, hcl, l0, l1⟩ := h
  obtain ⟨⟨o1, o2, o3, o4⟩, _⟩ := onc_d onc b4 s hs
  obtain ⟨onc', eo⟩ : ∃ z, z = onc ||| 2 ^ s := ⟨_, rfl⟩
  rw [← eo] at o1 o2 o3 o4 ⊢
  obtain ⟨ie, hie⟩ : ∃ ie : Bool, nI s = bI ie ∧ mOf ie = 3 + 3 * s := by
    have h : s = 0 ∨ s = 1 := by omega
    rcases h with rfl | rfl
    · exact ⟨false, rfl, rfl⟩
    · exact ⟨true, rfl, rfl⟩
  obtain ⟨T0, e0⟩ : ∃ z, z = pI (pI T 0 21 (nI onc')) 0 20 (nI s) := ⟨_, rfl⟩
  have k0 : ∀ k, k ≠ 20 → k ≠ 21 → gI T0 0 k = gI T 0 k := fun k h1 h2 => by rw [e0, gI_nk _ _ _ _ h1, gI_nk _ _ _ _ h2]
  have c0 : ∀ c, c ≠ 0 → gI T0 c = gI T c := fun c hc => by rw [e0, gIf_ne _ _ _ _ hc, gIf_ne _ _ _ _ hc]
  obtain ⟨S1, T1, κ1, st1, v1, bh1, n1, n2, n3, n4, n5, n6, n7⟩ := nxj (Sx := S) (Tx := T0) hTP hTK hC (hM.ofR (by rw [e0]; rfl)) rfl rfl (k0 4 (by decide) (by decide)) (k0 7 (by decide) (by decide)) (c0 4 (by decide))
  have hst := hTK.2.2.1.2.2.1 (by omega)
  have hC1 : RCr S1 := hC.ofR (by rw [n3.1])
  have hM1 : RMr T1 := hM.ofR (by rw [n4.1, e0]; rfl)
  have ho1 : gR S1 25 1 = some (26 + 6 * q) := by unfold gR at g1 ⊢; rw [n3.1]; exact g1
  have s1c : ∀ c, c ≠ 23 → gI S1 c = gI S c := n3.2.1
  obtain ⟨x, hx⟩ : ∃ z, z = 680 * q + 1 + 3 * n := ⟨_, rfl⟩
  have hlen := hTP.1
  have hbl := n6.2.2.1
  -- the reference before the law
  obtain ⟨T3, e3⟩ : ∃ z, z = pI (pI (pI T1 3 x (nI s)) 0 17 0) 0 19 0 := ⟨_, rfl⟩
  have k3 : ∀ k, k ≠ 17 → k ≠ 19 → gI T3 0 k = gI T1 0 k := fun k h1 h2 => by rw [e3, gI_nk _ _ _ _ h2, gI_nk _ _ _ _ h1, gI_ne _ _ _ _ (by decide)]
  have c3 : ∀ c, c ≠ 0 → c ≠ 3 → gI T3 c = gI T1 c := fun c h1 h2 => by rw [e3, gIf_ne _ _ _ _ h1, gIf_ne _ _ _ _ h1, gIf_ne _ _ _ _ h2]
  have x3 : ∀ i, i ≠ x → gI T3 3 i = gI T 3 i := fun i hi => by rw [e3, gI_ne _ _ _ _ (by decide), gI_ne _ _ _ _ (by decide), gI_nk _ _ _ _ hi, n4.2.1 3 (by decide), c0 3 (by decide)]
  have x3x : gI T3 3 x = nI s := by rw [e3, gI_ne _ _ _ _ (by decide), gI_ne _ _ _ _ (by decide), gI_eq]
  have hM3 : RMr T3 := hM1.ofR (by rw [e3]; rfl)
  have p3 : ∀ k, k < 7 ∨ k = 12 ∨ k = 14 ∨ k = 18 → gI T3 0 k = gI T 0 k := fun k hk => by rw [k3 k (by omega) (by omega), n4.2.2.1 k (by omega), k0 k (by omega) (by omega)]
  have p20 : gI T3 0 20 = nI s := by rw [k3 20 (by omega) (by omega), n4.2.2.1 20 (by omega), e0, gI_eq]
  have p21 : gI T3 0 21 = nI onc' := by rw [k3 21 (by omega) (by omega), n4.2.2.1 21 (by omega), e0, gI_nk _ _ _ _ (by decide), gI_eq]
  have bm3 : BM q T T3 := ⟨by rw [e3]; show T1.2.2 = _; rw [n4.1, e0]; rfl, fun c h1 h2 h3 => by rw [c3 c h1 h2, n4.2.1 c h1, c0 c h1], fun k hk => p3 k (by omega), fun i hi => x3 i (by omega)⟩
  have EN0 : EN len b q ie (pI S1 25 2 (nI s)) T3 0 [] L W κ1 st1 v1 bh1 0 := by
    refine ⟨⟨hC1.ofR rfl, ho1, ?_, ?_, ?_⟩, ⟨hM3, by rw [p20, hie.1], by rw [p3 12 (by omega)]; exact b12, by rw [p3 14 (by omega)]; exact b14, ⟨?_, by decide, trivial⟩, by rw [p3 18 (by omega)]; exact b18, by rw [e3, gI_eq]⟩, (n7.se (gIf_ne _ _ _ _ (by decide)) (gIf_ne _ _ _ _ (by decide))).te (k3 4 (by decide) (by decide)) (c3 4 (by decide) (by decide)), (n6.se (gIf_ne _ _ _ _ (by decide))).te (fun j hj => k3 j (by omega) (by omega)) (by rw [e3]; rfl), hq, by omega, by simp; omega⟩
    · rw [gI_nk _ _ _ _ (by decide), s1c 25 (by decide)]; exact g4
    · rw [gI_eq, hie.1]
    · rw [gI_ne _ _ _ _ (by omega), s1c _ (by omega)]; exact a2
    · rw [e3, gI_nk _ _ _ _ (by decide), gI_eq]; rfl
  obtain ⟨S4, r1, r2⟩ := law_ok EN0
  have hj : jX9_clause_66 (pI T 0 21 (nI onc')) 0 (nI s) (nI n) = (aut 5000 T3).bind fun q8 => jX9_clause_118 q8.2 0 (nI s) (nI x) (nI W) q8.1 := by
    unfold jX9_clause_66 mX9_parsed
    rw [xlet_eq, ← e0, n2, Option.bind_some, xlet_eq, n4.2.2.1 12 (by omega), k0 12 (by decide) (by decide), b12, show (nI (680 * q) + 1 : Int32) + 3 * nI n = nI x from by rw [hx, nI_1, show (3 : Int32) = nI 3 from rfl, pk_mul, nI_add], rm_2 hM1, Option.bind_some, sI_nI (Y := Ym) (c := 3) (by show _ < 2720; omega) (by decide), Option.bind_some, if_neg (show ¬ (2 : Int32) ≤ nI s from nI_ge (a := s) (b := 2) hs (by decide)), xlet_eq, xlet_eq, ← e3, gI_ne _ _ _ _ (by decide), n4.2.2.1 14 (by omega), k0 14 (by decide) (by decide), b14]
    rfl
  rw [n1, Option.bind_some, c114 hq hs ho1 (by rw [s1c _ (by omega)]; exact a2), r1, Option.bind_some, hj]
  rcases r2 with ⟨f, st2, T4, u1, u2, u3, u4, u5, u6⟩ | ⟨T4, c, f, L', κ2, st2, v2, bh2, u1, u2, u3, u4, u5, u6, u7, u8, u9, u10, u11, u12⟩
  · obtain ⟨w1, w2, w3, Lx, w4, w5, w6⟩ := u1
    have h10 : gI S4 (26 + 6 * q) 10 = nI n := by rw [u3.2.2.2.2.1 10 (by decide), gI_ne _ _ _ _ (by omega), s1c _ (by omega)]; exact a10
    obtain ⟨S5, y1, y2, y3, y4, y5, y6, y7, y8, y9⟩ := addL (L := L) w1 hq hs w6 h10 hn
    have y25 := y3 25 (by omega) (by omega) (by omega) (by omega)
    refine ⟨S5, ?_, Or.inl ⟨f, st2, T4, ⟨by rw [y25]; exact u2.1, by rw [y25]; exact u2.2.1, u2.2.2.1, u2.2.2.2⟩, ((n3.bf.trans (BF.pI25 (by decide))).trans u3.bf).trans (addc_bf y2 y3), ?_, u5, bm3.trans u6.bm⟩⟩
    · rw [dO_out w2 hq, Option.bind_some, y1, Option.bind_some]
      unfold jX4_readClause_160
      rw [takef (by rw [y25]; exact w3), Option.bind_some]
    · rw [u4, Option.bind_some]
      unfold jX9_clause_118
      dsimp only
      rw [if_neg (nI_ne0 (Nat.pos_of_ne_zero u2.2.2.1) (by have := u2.2.2.2; omega))]
  · obtain ⟨⟨q1, q2, q3, q4, q5⟩, ⟨t1, t2, t3, t4, t5, t6, t7⟩, hTP4, hTK4, _, hL4, hW4⟩ := u1
    have hW4' : W + c.length ≤ st2 := by have : W + c.length + 0 ≤ st2 := hW4; omega
    have hlen4 := hTK4.2.2.1
    have h10 : gI S4 (26 + 6 * q) 10 = nI n := by rw [u4.2.2.2.2.1 10 (by decide), gI_ne _ _ _ _ (by omega), s1c _ (by omega)]; exact a10
    obtain ⟨S5, y1, y2, y3, y4, y5, y6, y7, y8, y9⟩ := addL (L := L) q1 hq hs q5 h10 hn
    have y25 := y3 25 (by omega) (by omega) (by omega) (by omega)
    obtain ⟨T6, e6⟩ : ∃ z, z = pI (pI T4 3 (x + 1) (nI W)) 3 (x + 2) (nI (W + c.length)) := ⟨_, rfl⟩
    have c6 : ∀ d, d ≠ 3 → gI T6 d = gI T4 d := fun d hd => by rw [e6, gIf_ne _ _ _ _ hd, gIf_ne _ _ _ _ hd]
    have x6 : ∀ i, i ≠ x + 1 → i ≠ x + 2 → gI T6 3 i = gI T4 3 i := fun i h1 h2 => by rw [e6, gI_nk _ _ _ _ h2, gI_nk _ _ _ _ h1]
    have x4 : ∀ i, i < 680 * q + 75 + 2 * W ∨ 680 * q + 680 ≤ i → gI T4 3 i = gI T3 3 i := u5.2.2.2.2
    have hj2 : jX9_clause_118 T4 0 (nI s) (nI x) (nI W) 0 = jX9_clause_155 T6 0 := by
      unfold jX9_clause_118
      rw [if_pos rfl, if_neg (show ¬ (2 : Int32) ≤ nI s from nI_ge (a := s) (b := 2) hs (by decide)), rm_2 t1, Option.bind_some, nI_1, sI_nI (Y := Ym) (c := 3) (by show _ < 2720; omega) (by decide), Option.bind_some, gR_pI, rm_2 t1, Option.bind_some, gI_ne _ _ _ _ (by decide), t4, show nI x + (2 : Int32) = nI (x + 2) from nI_add x 2, sI_nI (Y := Ym) (c := 3) (by show _ < 2720; omega) (by decide), Option.bind_some, ← e6]
    have bf5 : BF q S S5 := ((n3.bf.trans (BF.pI25 (by decide))).trans u4.bf).trans (addc_bf y2 y3)
    have bm6 : BM q T T6 := (bm3.trans u5.bm).trans (by rw [e6]; exact (BM.pI3 (by omega)).trans (BM.pI3 (by omega)))
    have hn6 : gI T6 3 (680 * q) = nI n := by rw [x6 _ (by omega) (by omega), x4 _ (by omega), x3 _ (by omega)]; exact b3
    have hTP6 : TP S5 T6 len b := (hTP4.se (y3 23 (by omega) (by omega) (by omega) (by omega)) (y3 24 (by omega) (by omega) (by omega) (by omega))).te (by rw [c6 0 (by decide)]) (c6 4 (by decide))
    have hTK6 : TK S5 T6 len b κ2 st2 v2 bh2 := (hTK4.se (y3 23 (by omega) (by omega) (by omega) (by omega))).te (fun j _ => by rw [c6 0 (by decide)]) (by rw [e6]; rfl)
    have hC5 : RCr S5 := q1.ofR (by rw [y2])
    have hM6 : RMr T6 := t1.ofR (by rw [e6]; rfl)
    have h45 : gI S5 25 4 = 0 := by rw [y25]; exact q3
    rw [dO_out q2 hq, Option.bind_some, y1, Option.bind_some, u2, Option.bind_some]
    dsimp only
    rw [hj2]
    rcases semi (n := n) hC5 hM6 hTP6 hTK6 hq h45 (by rw [c6 0 (by decide)]; exact t3) hn6 with ⟨S', T', z1, z2, z3, z4, z5, z6, z7⟩ | ⟨S', T', κ3, st3, v3, bh3, z1, z2, z3, z4, z5, z6, z7⟩
    · exact ⟨S', z1, Or.inl ⟨1, st2, T', ⟨z3, z4, by decide, by decide⟩, bf5.trans z5, z2, z6, bm6.trans z7⟩⟩
    · have sc : ∀ c, c ≠ 23 → gI S' c = gI S5 c := z3.2.1
      have tx : ∀ i, i ≠ 680 * q → gI T' 3 i = gI T6 3 i := fun i hi => by rw [z4.2.1 3 (by decide), gI_nk _ _ _ _ hi]
      have tk : ∀ k, k = 12 ∨ k = 14 ∨ k = 18 ∨ k = 21 → gI T' 0 k = gI T4 0 k := fun k hk => by rw [z4.2.2.1 k (by omega), gI_ne _ _ _ _ (by decide), c6 0 (by decide)]
      have tfar : ∀ i, i ≠ 680 * q → i ≠ x → i ≠ x + 1 → i ≠ x + 2 → i < 680 * q + 75 + 2 * W → gI T' 3 i = gI T 3 i := fun i h1 h2 h3 h4 h5 => by rw [tx i h1, x6 i h3 h4, x4 i (Or.inl h5), x3 i h2]
      have sB : ∀ j, j ≠ 2 → j ≠ 10 → j ≠ 3 + 2 * s → j ≠ 4 + 2 * s → gI S' (26 + 6 * q) j = gI S (26 + 6 * q) j := fun j h1 h2 h3 h4 => by rw [sc _ (by omega), y4 j h2 h3 h4, u4.2.2.2.2.1 j h1, gI_ne _ _ _ _ (by omega), s1c _ (by omega)]
      have s1' : ∀ d, d = 1 ∨ d = 2 → gI S' (26 + 6 * q + d) = gI S4 (26 + 6 * q + d) := fun d hd => by rw [sc _ (by omega), y3 _ (by omega) (by omega) (by omega) (by omega)]
      have sop : ∀ i, i < L → gI S' (26 + 6 * q + 1) i = gI S (26 + 6 * q + 1) i ∧ gI S' (26 + 6 * q + 2) i = gI S (26 + 6 * q + 2) i := fun i hi => by
        rw [s1' 1 (Or.inl rfl), s1' 2 (Or.inr rfl), (u4.2.2.2.2.2 i hi).1, (u4.2.2.2.2.2 i hi).2, gI_ne _ _ _ _ (by omega), gI_ne _ _ _ _ (by omega), s1c _ (by omega), s1c _ (by omega)]
        exact ⟨rfl, rfl⟩
      have skc : ∀ d, d = 3 ∨ d = 4 ∨ d = 5 → gI S4 (26 + 6 * q + d) = gI S (26 + 6 * q + d) := fun d hd => by rw [u4.2.1 _ (by omega) (by omega) (by omega) (by omega) (by omega), gIf_ne _ _ _ _ (by omega), s1c _ (by omega)]
      have stt : L' ≤ st3 ∧ W + c.length ≤ st3 := by omega
      have xxx : gI T' 3 x = nI s := by rw [tx x (by omega), x6 x (by omega) (by omega), x4 x (Or.inl (by omega)), x3x]
      have hnew : LAWs q S' T' (n + 1) L' (W + c.length) s (3 + 3 * s) true := by
        refine Or.inr ⟨rfl, n, L, L', f, c, W, by omega, fun j hj => ?_, by rw [← hx]; exact xxx, by rw [sc _ (by omega)]; exact y6, by rw [sc _ (by omega)]; exact y7, u9, Nat.le_refl _, ?_, ?_, Nat.le_refl _, ?_, ?_, ?_, ?_⟩
        · rw [tfar _ (by omega) (by omega) (by omega) (by omega) (by omega)]
          have hl : LAWs q S T n L W s (3 + 3 * s) (onc.testBit s) := by
            have h : s = 0 ∨ s = 1 := by omega
            rcases h with rfl | rfl
            · exact l0
            · exact l1
          rw [hb] at hl
          rcases hl with ⟨_, hh, _⟩ | ⟨hh, _⟩
          · exact hh j hj
          · exact absurd hh (by decide)
        · rw [s1' 1 (Or.inl rfl), s1' 2 (Or.inr rfl), ← hie.2]
          exact u10
        · exact codL_congr c W (fun i h1 h2 => by rw [tx i (by omega), x6 i (by omega) (by omega)]) u6
        · rw [← hx, tx _ (by omega), e6, gI_nk _ _ _ _ (by omega), gI_eq]
        · rw [← hx, tx _ (by omega), e6, gI_eq]
        · rw [← hie.2]; exact u7
        · rw [← hie.2]; exact u8
      have hold : ∀ m, LAWs q S T n L W (1 - s) m (onc.testBit (1 - s)) → LAWs q S' T' (n + 1) L' (W + c.length) (1 - s) m (onc'.testBit (1 - s)) := fun m hl => by
        rw [o4]
        refine hl.go (by omega) (by omega) (by omega) (by omega) (fun j hj => sB j (by omega) (by omega) (by omega) (by omega)) sop (fun i h1 h2 h3 => tfar i (by omega) (by omega) (by omega) (by omega) h2) (fun k h1 h2 _ => ?_)
        have : k = n := by omega
        subst this
        rw [← hx, xxx]
        exact fun e => by
          have := (nI_eq (a := s) (b := 1 - s) (by omega) (by omega)).mp e
          omega
      refine ⟨S', z1, Or.inr ⟨T', L', W + c.length, onc', κ3, st3, v3, bh3, z2, ⟨⟨hC5.ofR (by rw [z3.1]), (hM6.ofR (S' := pI T6 3 (680 * q) (nI (n + 1))) rfl).ofR z4.1, z7, z6, hq⟩, ⟨?_, ?_, ?_⟩, ⟨?_, ?_, by omega⟩, ⟨by rw [tk 12 (by omega)]; exact t3, by rw [tk 14 (by omega)]; exact t4, by rw [z4.2.1 3 (by decide), gI_eq], by rw [tk 18 (by omega)]; exact t6, ?_, o2⟩, stt, fun k hk => ?_, ?_, ?_⟩, by omega, bf5.trans z3.bf, (bm6.trans (BM.pI3 (by omega))).trans z4.bm⟩⟩
      · unfold gR at q2 ⊢; rw [z3.1, y2]; exact q2
      · rw [sc 25 (by decide)]; exact h45
      · rw [sc 25 (by decide), y25, u4.2.2.2.1 5 (Or.inr q3), gI_nk _ _ _ _ (by decide), s1c 25 (by decide)]; exact g5
      · rw [sc _ (by omega), y4 2 (by omega) (by omega) (by omega)]; exact q5
      · rw [sc _ (by omega)]; exact y5
      · rw [tk 21 (by omega), u5.2.2.1 21 (by omega)]; exact p21
      · by_cases hkn : k = n
        · subst hkn
          exact ⟨s, by omega, by rw [sc _ (by omega)]; exact y8, by rw [← hx]; exact xxx, fun h => absurd h (by omega), fun h => absurd h (by omega)⟩
        · obtain ⟨s', i1, i2, i3, i4, i5⟩ := hcl k (by omega)
          have hk2 : k < n := by omega
          refine ⟨s', i1, ?_, ?_, fun hh => ?_, fun hh hh2 => ?_⟩
          · rw [sc _ (by omega), (y9 k hkn).1, skc 3 (by omega)]; exact i2
          · rw [tfar _ (by omega) (by omega) (by omega) (by omega) (by omega)]; exact i3
          · rw [tfar _ (by omega) (by omega) (by omega) (by omega) (by omega), sc _ (by omega), (y9 k hkn).2.1, skc 4 (by omega)]; exact i4 hh
          · rw [tfar _ (by omega) (by omega) (by omega) (by omega) (by omega), sc _ (by omega), (y9 k hkn).2.2, skc 5 (by omega)]; exact i5 hh hh2
      · have h : s = 0 ∨ s = 1 := by omega
        rcases h with rfl | rfl
        · rw [o3]; exact hnew
        · exact hold 3 l0
      · have h : s = 0 ∨ s = 1 := by omega
        rcases h with rfl | rfl
        · exact hold 6 l1
        · rw [o3]; exact hnew

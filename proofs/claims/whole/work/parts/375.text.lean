/-! TEXT: clause by clause -/
theorem parse_end {S : xS} {n i : Nat} {b : Nat → Nat} {T : xS} {len st v bh : Nat} (hC : RCr S) (hTK : TK S T len b 0 st v bh) (h4 : gI S 25 4 = 0) : lX4_parse_42 (n + 1) S 25 (nI i) = some (1, S) := by
  have hj : jX4_parse_76 S 25 = some (1, S) := by
    unfold jX4_parse_76
    rw [if_pos h4]
  rw [lX4_parse_42.eq_2, hj, if_pos h4, rc_25_0 hC, Option.bind_some, hTK.1.1, if_pos (show nI 0 = (0 : Int32) from rfl)]
  split <;> rfl
theorem parse_fail {S : xS} {n : Nat} {v : Int32} (h4 : ¬ gI S 25 4 = 0) : lX4_parse_42 (n + 1) S 25 v = some (0, S) := by
  have hj : jX4_parse_76 S 25 = some (0, S) := by
    unfold jX4_parse_76
    rw [if_neg h4]
  rw [lX4_parse_42.eq_2, hj, if_neg h4]
  split <;> rfl
def TXE (len : Nat) (b : Nat → Nat) (q : Nat) (S T S' T' : xS) (f : Nat) : Prop := BF q S S' ∧ BM q T T' ∧ f < 7 ∧ gI S' 25 4 = nI f ∧ ((f ≠ 0 ∧ gI S' 25 5 = gI T' 0 8) ∨ (f = 0 ∧ gI S' 25 5 = -1 ∧ ∃ n L W onc κ st v bh, CLS len b q S' T' n L W onc κ st v bh))
theorem read_go {len : Nat} {b : Nat → Nat} {q : Nat} : ∀ d S T n L W onc κ st v bh i nC nM, CLS len b q S T n L W onc κ st v bh → len ≤ d + st → i ≤ st → d + 1 < nC → d < nM → ∃ S' T' f, lX4_parse_42 nC S 25 (nI i) = some (if f = 0 then 1 else 0, S') ∧ lX9_readText_48 nM T 0 = some (nI f, T') ∧ TXE len b q S T S' T' f := by
  have hend : ∀ S T n L W onc st v bh i nC nM, CLS len b q S T n L W onc 0 st v bh → 0 < nC → 0 < nM → ∃ S' T' f, lX4_parse_42 nC S 25 (nI i) = some (if f = 0 then 1 else 0, S') ∧ lX9_readText_48 nM T 0 = some (nI f, T') ∧ TXE len b q S T S' T' f := by
    intro S T n L W onc st v bh i nC nM h h1 h2
    obtain ⟨nC, rfl⟩ : ∃ z, nC = z + 1 := ⟨nC - 1, by omega⟩
    obtain ⟨nM, rfl⟩ : ∃ z, nM = z + 1 := ⟨nM - 1, by omega⟩
    refine ⟨S, T, 0, ?_, ?_, BF.rfl', BM.rfl', by decide, h.2.1.2.1, Or.inr ⟨rfl, h.2.1.2.2, n, L, W, onc, 0, st, v, bh, h⟩⟩
    · rw [parse_end h.1.1 h.1.2.2.2.1 h.2.1.2.1, if_pos rfl]
    · rw [lX9_readText_48.eq_2, if_pos ((tk_spec h.1.2.2.2.1.2.2.2).1.mpr rfl)]
      rfl
  intro d
  induction d with
  | zero =>
    intro S T n L W onc κ st v bh i nC nM h h1 h2 h3 h4
    have hb := h.1.2.2.2.1.2.2.1
    by_cases hk : κ = 0
    · subst hk
      exact hend S T n L W onc st v bh i nC nM h (by omega) (by omega)
    · have := hb.2.2.1 hk
      omega
  | succ d ih =>
    intro S T n L W onc κ st v bh i nC nM h h1 h2 h3 h4
    have hb := h.1.2.2.2.1.2.2.1
    by_cases hk : κ = 0
    · subst hk
      exact hend S T n L W onc st v bh i nC nM h (by omega) (by omega)
    · have hst := hb.2.2.1 hk
      have hlen := h.1.2.2.1.1
      have hκ3 := κ_lt h.1.2.2.2.1.2.2.2
      obtain ⟨nC, rfl⟩ : ∃ z, nC = z + 1 := ⟨nC - 1, by omega⟩
      obtain ⟨nM, rfl⟩ : ∃ z, nM = z + 1 := ⟨nM - 1, by omega⟩
      obtain ⟨S1, r1, r2⟩ := clause_ok h
      rw [lX4_parse_42.eq_2, if_neg (show ¬ (300 : Int32) ≤ nI i from nI_ge (a := i) (b := 300) (by omega) (by decide)), if_pos h.2.1.2.1, rc_25_0 h.1.1, Option.bind_some, h.1.2.2.2.1.1.1, if_neg (nI_ne0 (by omega) (by omega)), r1, Option.bind_some, nI_1, lX9_readText_48.eq_2, if_neg (fun e => hk ((tk_spec h.1.2.2.2.1.2.2.2).1.mp e))]
      rcases r2 with ⟨f, st', T', u1, u2, u3, u4, u5⟩ | ⟨T', L', W', onc', κ', st', v', bh', u1, u2, u3, u4, u5⟩
      · obtain ⟨nC, rfl⟩ : ∃ z, nC = z + 1 := ⟨nC - 1, by omega⟩
        have hf := nI_ne0 (n := f) (Nat.pos_of_ne_zero u1.2.2.1) (by have := u1.2.2.2; omega)
        refine ⟨S1, T', f, ?_, ?_, u2, u5, u1.2.2.2, u1.1, Or.inl ⟨u1.2.2.1, by rw [u1.2.1, u4]⟩⟩
        · rw [parse_fail (by rw [u1.1]; exact hf), if_neg u1.2.2.1]
        · rw [u3, Option.bind_some, if_neg hf]
      · obtain ⟨S2, T2, f, w1, w2, w3, w4, w5⟩ := ih S1 T' (n + 1) L' W' onc' κ' st' v' bh' (i + 1) nC nM u2 (by omega) (by omega) (by omega) (by omega)
        refine ⟨S2, T2, f, w1, ?_, u4.trans w3, u5.trans w4, w5⟩
        rw [u1, Option.bind_some, if_pos rfl]
        exact w2
/-! TEXT: the beginning -/
theorem RCr.out {S : xS} (h : RCr S) (v : Option Nat) : RCr (pR S 25 1 v) := by
  unfold RCr at h ⊢
  simp only [gR_pR]
  exact h
theorem RTp.tp {Sc Sm : xS} (h : RTp Sc Sm) : ∃ len b, TP Sc Sm len b := by
  obtain ⟨len, h1, h2, h3, h4⟩ := h
  refine ⟨len, fun k => (gI Sm 4 k).toInt.toNat, h1, h2, h3, fun k hk => ?_⟩
  obtain ⟨e1, j, hj, e2⟩ := h4 k hk
  have : (gI Sm 4 k).toInt.toNat = j := by rw [e2, nI_toInt (by omega)]; rfl
  dsimp only
  rw [this]
  exact ⟨e1.trans e2, e2, hj⟩
/-- the class makes ready to read text q -/
def rdC (S : xS) (q : Nat) : xS := pI (pI (pI (pI (pI (pI (pI (pR (pI (pI (pI S 25 3 1) 25 4 0) 25 5 (-1)) 25 1 (some (26 + 6 * q))) (26 + 6 * q) 2 0) (26 + 6 * q) 3 0) (26 + 6 * q) 4 0) (26 + 6 * q) 5 0) (26 + 6 * q) 6 0) (26 + 6 * q) 10 0) 23 5 0
def rdM (T : xS) (q : Nat) : xS := pI (pI (pI (pI (pI (pI T 0 12 (nI (680 * q))) 3 (680 * q) 0) 0 14 0) 0 18 0) 0 21 0) 0 7 0
theorem rdC_c {S : xS} {q c : Nat} (h1 : c ≠ 23) (h2 : c ≠ 25) (h3 : c ≠ 26 + 6 * q) : gI (rdC S q) c = gI S c := by
  unfold rdC
  rw [gIf_ne _ _ _ _ h1, gIf_ne _ _ _ _ h3, gIf_ne _ _ _ _ h3, gIf_ne _ _ _ _ h3, gIf_ne _ _ _ _ h3, gIf_ne _ _ _ _ h3, gIf_ne _ _ _ _ h3]
  show gI (pI (pI (pI S 25 3 1) 25 4 0) 25 5 (-1)) c = _
  rw [gIf_ne _ _ _ _ h2, gIf_ne _ _ _ _ h2, gIf_ne _ _ _ _ h2]
theorem rdC_B {S : xS} {q k : Nat} (hk : k = 2 ∨ k = 3 ∨ k = 4 ∨ k = 5 ∨ k = 6 ∨ k = 10) : gI (rdC S q) (26 + 6 * q) k = 0 := by
  unfold rdC
  rw [gI_ne _ _ _ _ (by omega)]
  rcases hk with rfl | rfl | rfl | rfl | rfl | rfl <;> simp (disch := decide) only [gI_nk, gI_eq]
theorem rdC_25 {S : xS} {q : Nat} : gI (rdC S q) 25 3 = 1 ∧ gI (rdC S q) 25 4 = 0 ∧ gI (rdC S q) 25 5 = -1 := by
  have h : ∀ k, gI (rdC S q) 25 k = gI (pI (pI (pI S 25 3 1) 25 4 0) 25 5 (-1)) 25 k := fun k => by
    unfold rdC
    rw [gI_ne _ _ _ _ (by omega), gI_ne _ _ _ _ (by omega), gI_ne _ _ _ _ (by omega), gI_ne _ _ _ _ (by omega), gI_ne _ _ _ _ (by omega), gI_ne _ _ _ _ (by omega), gI_ne _ _ _ _ (by omega)]
    rfl
  rw [h, h, h]
  exact ⟨by simp (disch := decide) only [gI_nk, gI_eq], by simp (disch := decide) only [gI_nk, gI_eq], gI_eq _ _ _ _⟩
theorem rdC_23 {S : xS} {q : Nat} : gI (rdC S q) 23 5 = 0 ∧ gI (rdC S q) 23 1 = gI S 23 1 := by
  refine ⟨gI_eq _ _ _ _, ?_⟩
  unfold rdC
  rw [gI_nk _ _ _ _ (by decide), gI_ne _ _ _ _ (by omega), gI_ne _ _ _ _ (by omega), gI_ne _ _ _ _ (by omega), gI_ne _ _ _ _ (by omega), gI_ne _ _ _ _ (by omega), gI_ne _ _ _ _ (by omega)]
  show gI (pI (pI (pI S 25 3 1) 25 4 0) 25 5 (-1)) 23 1 = _
  rw [gI_ne _ _ _ _ (by decide), gI_ne _ _ _ _ (by decide), gI_ne _ _ _ _ (by decide)]
theorem rdC_R {S : xS} {q : Nat} : (rdC S q).2.2 = (pR S 25 1 (some (26 + 6 * q))).2.2 := rfl
theorem rdM_f {T : xS} {q : Nat} : gI (rdM T q) 0 12 = nI (680 * q) ∧ gI (rdM T q) 0 14 = 0 ∧ gI (rdM T q) 0 18 = 0 ∧ gI (rdM T q) 0 21 = 0 ∧ gI (rdM T q) 0 7 = 0 ∧ gI (rdM T q) 3 (680 * q) = 0 := by
  unfold rdM
  refine ⟨?_, ?_, ?_, ?_, ?_, ?_⟩ <;> simp (disch := decide) only [gI_nk, gI_ne, gI_eq]
theorem rdM_bm {T : xS} {q : Nat} : BM q T (rdM T q) := by
  unfold rdM
  exact (((((BM.pI0 (by decide)).trans (BM.pI3 (by omega))).trans (BM.pI0 (by decide))).trans (BM.pI0 (by decide))).trans (BM.pI0 (by decide))).trans (BM.pI0 (by decide))
theorem read_ok {Sc Sm : xS} {q : Nat} (hC : RCr Sc) (hM : RMr Sm) (hTp : RTp Sc Sm) (hq : q < 4) (h4 : gI Sm 1 4 = nI q) : ∃ len b S' T' f, mX4_parse Sc 25 (some (26 + 6 * q)) = some (if f = 0 then 1 else 0, S') ∧ mX9_readText Sm 0 = some (nI f, T') ∧ TXE len b q (rdC Sc q) Sm S' T' f := by
  obtain ⟨len, b, hTP⟩ := hTp.tp
  have hCr : RCr (rdC Sc q) := (hC.out (some (26 + 6 * q))).ofR rdC_R
  have hMr : RMr (rdM Sm q) := hM.ofR rdM_bm.1
  obtain ⟨m12, m14, m18, m21, m7, m3⟩ := rdM_f (T := Sm) (q := q)
  have bm := rdM_bm (T := Sm) (q := q)
  have hTP0 : TP (rdC Sc q) (rdM Sm q) len b := ⟨hTP.1, rdC_23.2.trans hTP.2.1, (bm.2.2.1 4 (by decide)).trans hTP.2.2.1, fun k hk => by rw [rdC_c (by decide) (by decide) (by omega), bm.2.1 4 (by decide) (by decide) (by decide)]; exact hTP.2.2.2 k hk⟩
  obtain ⟨S1, T1, κ, st, v, bh, n1, n2, n3, n4, n5, n6⟩ := next_ok (p := 0) hCr hMr hTP0 rdC_23.1 m7 (by omega)
  have n7 : TP S1 T1 len b := hTP0.step n3 n4
  have sc : ∀ c, c ≠ 23 → gI S1 c = gI (rdC Sc q) c := n3.2.1
  have tk : ∀ k, 10 < k → gI T1 0 k = gI (rdM Sm q) 0 k := fun k hk => n4.2.2.1 k (Or.inr hk)
  have hcls : CLS len b q S1 T1 0 0 0 0 κ st v bh := by
    have l : ∀ s m, s < 2 → LAWs q S1 T1 0 0 0 s m false := fun s m hs => Or.inl ⟨rfl, fun k hk => absurd hk (by omega), by rw [sc _ (by omega), rdC_B (by omega), rdC_B (by omega)]; decide⟩
    refine ⟨⟨hCr.ofR (by rw [n3.1]), hMr.ofR n4.1, n7, n6, hq⟩, ⟨?_, by rw [sc 25 (by decide)]; exact rdC_25.2.1, by rw [sc 25 (by decide)]; exact rdC_25.2.2⟩, ⟨by rw [sc _ (by omega)]; exact rdC_B (by omega), by rw [sc _ (by omega)]; exact rdC_B (by omega), by omega⟩, ⟨by rw [tk 12 (by decide)]; exact m12, by rw [tk 14 (by decide)]; exact m14, by rw [n4.2.1 3 (by decide)]; exact m3, by rw [tk 18 (by decide)]; exact m18, by rw [tk 21 (by decide)]; exact m21, by decide⟩, ⟨by omega, by omega⟩, fun k hk => absurd hk (by omega), l 0 3 (by decide), l 1 6 (by decide)⟩
    unfold gR
    rw [n3.1]
    rfl
  have hlen := hTP.1
  obtain ⟨S', T', f, w1, w2, w3, w4, w5⟩ := read_go len S1 T1 0 0 0 0 κ st v bh 0 5000 5000 hcls (by omega) (by omega) (by omega) (by omega)
  refine ⟨len, b, S', T', f, ?_, ?_, (n3.bf).trans w3, (bm.trans n4.bm).trans w4, w5⟩
  · unfold mX4_parse mX6_clear mX7_rewind
    rw [if_neg (by simp), xlet_eq, xlet_eq, xlet_eq, xlet_eq, dO_out (S := pR (pI (pI (pI Sc 25 3 1) 25 4 0) 25 5 (-1)) 25 1 (some (26 + 6 * q))) (q := q) (by rw [gR_pR]; simp) hq, Option.bind_some, xlet_eq, xlet_eq, xlet_eq, xlet_eq, xlet_eq, xlet_eq, Option.bind_some, gR_pI, gR_pI, gR_pI, gR_pI, gR_pI, gR_pI, rc_25_0 (S := pR (pI (pI (pI Sc 25 3 1) 25 4 0) 25 5 (-1)) 25 1 (some (26 + 6 * q))) ((hC.out (some (26 + 6 * q))).ofR rfl), Option.bind_some, xlet_eq]
    show ((mX7_advance (rdC Sc q) 23).bind fun S2 => some S2).bind _ = _
    rw [n1, Option.bind_some, Option.bind_some]
    exact w1
  · unfold mX9_readText
    rw [rm_0 hM, Option.bind_some, aI_lit (Y := Ym) (c := 1) (i := 4) 4 rfl (by decide) (by decide), Option.bind_some, h4, xlet_eq, show (680 : Int32) * nI q = nI (680 * q) from pk_mul 680 q, gR_pI, rm_2 hM, Option.bind_some, gI_eq, sI_nI (Y := Ym) (c := 3) (by show _ < 2720; omega) (by decide), Option.bind_some, xlet_eq, xlet_eq, xlet_eq, xlet_eq]
    show (mX9_nextToken (rdM Sm q) 0).bind _ = _
    rw [n2, Option.bind_some]
    exact w2

/-! THE PARSERS: questions -/
def isAsk (p : List Nat) (j : Nat) : Prop := ∃ s c, p = s ++ c :: List.replicate j 20 ∧ isSum s ∧ 10 ≤ c ∧ c ≤ 15
def actx (R : List Nat) : Prop := ∃ ops R1, R = ops ++ 41 :: R1 ∧ ∀ x, x ∈ ops → x = 20 ∨ x = 21 ∨ x = 22
def OKA (len : Nat) (b : Nat → Nat) (q : Nat) (ie : Bool) (S T S' : xS) (o : Nat) (R0 : List Nat) (L0 W0 L W pl st D : Nat) (isP : List Nat → Nat → Prop) (stop : Nat → Prop) : Prop := ∃ T' K pend j c g L' W' κ' st' v' bh', EN len b q ie S' T' (o + j) (pend ++ R0) L' W' κ' st' v' bh' 1 ∧ o + j ≤ 8 ∧ isP pend j ∧ stop κ' ∧ (∀ n, aut (n + K) T = aut n T') ∧ K + st ≤ st' ∧ FX q L S S' ∧ FE q W T T' ∧ ASK (mOf ie) q S' T' L0 L' W0 W' pend D c g ∧ L' + st ≤ L + st' ∧ W' + pend.length + st ≤ W + pl + st'
def sStop (κ : Nat) : Prop := κ ≠ 42 ∧ κ ≠ 47 ∧ κ ≠ 43 ∧ κ ≠ 45
def AskC (len : Nat) (b : Nat → Nat) (q : Nat) (ie : Bool) (F : xS → Nat → Int32 → Option xS) (o : Nat) : Prop := ∀ S T R0 L W κ st v bh, EN len b q ie S T o R0 L W κ st v bh 0 → actx R0 → R0.length ≤ 6 * o + 3 → ∃ S', F S 25 (nI o) = some S' ∧ (FO len q S T S' L W st ∨ OKA len b q ie S T S' o R0 L W L W 0 st (D1 o + 3) isAsk sStop)
theorem actx_head {R : List Nat} (h : actx R) : ∃ x r, R = x :: r ∧ rk x ≤ 3 ∧ (x = 41 ∨ x = 20 ∨ x = 21 ∨ x = 22) := by
  obtain ⟨ops, R1, rfl, h2⟩ := h
  cases ops with
  | nil => exact ⟨41, R1, rfl, by decide, Or.inl rfl⟩
  | cons y r =>
    have := h2 y (by simp)
    refine ⟨y, r ++ 41 :: R1, rfl, ?_, Or.inr this⟩
    rcases this with rfl | rfl | rfl <;> decide
theorem actx_cons {R : List Nat} {x : Nat} (h : actx R) (hx : x = 20 ∨ x = 21 ∨ x = 22) : actx (x :: R) := by
  obtain ⟨ops, R1, rfl, h2⟩ := h
  refine ⟨x :: ops, R1, rfl, fun y hy => ?_⟩
  rcases List.mem_cons.mp hy with rfl | hy
  · exact hx
  · exact h2 y hy
theorem rep20_cnt (j : Nat) : cnt2 (List.replicate j 20) = j := by
  induction j with
  | zero => rfl
  | succ j ih =>
    show (if 20 = 2 ∨ 20 = 20 then 1 else 0) + cnt2 (List.replicate j 20) = j + 1
    rw [ih, if_pos (Or.inr rfl)]
    omega
theorem cnt2_app : ∀ a b : List Nat, cnt2 (a ++ b) = cnt2 a + cnt2 b := by
  intro a
  induction a with
  | nil => intro b; show cnt2 b = 0 + cnt2 b; omega
  | cons x r ih =>
    intro b
    show (if x = 2 ∨ x = 20 then 1 else 0) + cnt2 (r ++ b) = (if x = 2 ∨ x = 20 then 1 else 0) + cnt2 r + cnt2 b
    rw [ih]
    omega
theorem isAsk_cnt {p : List Nat} {j : Nat} (h : isAsk p j) : cnt2 p = j := by
  obtain ⟨s, c, rfl, h2, h3, h4⟩ := h
  rw [cnt2_app, cnt2_0 s (fun x hx => by have := isSum_mem h2 x hx; omega)]
  show 0 + ((if c = 2 ∨ c = 20 then 1 else 0) + cnt2 (List.replicate j 20)) = j
  rw [rep20_cnt, if_neg (by omega)]
  omega
theorem isAsk_mem {p : List Nat} {j : Nat} (h : isAsk p j) : ∀ x, x ∈ p → x < 40 ∧ 3 ≤ rk x := by
  obtain ⟨s, c, rfl, h2, h3, h4⟩ := h
  intro x hx
  rcases List.mem_append.mp hx with hx | hx
  · have := isSum_mem h2 x hx
    rcases this with rfl | rfl | rfl | rfl <;> decide
  · rcases List.mem_cons.mp hx with rfl | hx
    · refine ⟨by omega, ?_⟩
      unfold rk
      rw [if_neg (by omega), if_neg (by omega), if_neg (by omega), if_neg (by omega), if_pos h3]
      decide
    · rw [List.eq_of_mem_replicate hx]; decide
theorem rk_cmp {c : Nat} (h3 : 10 ≤ c) (h4 : c ≤ 15) : rk c = 4 := by
  unfold rk
  rw [if_neg (by omega), if_neg (by omega), if_neg (by omega), if_neg (by omega), if_pos h3]
theorem rk_sum {s : List Nat} (h : isSum s) : ∀ x, x ∈ s → 4 < rk x := by
  intro x hx
  have := isSum_mem h x hx
  rcases this with rfl | rfl | rfl | rfl <;> decide
/-- inside a question, behind a comparison: compared -/
theorem ask_comp {T : xS} (hM : RMr T) {p R : List Nat} {j : Nat} (hp : isAsk p j) {t : List Nat} (hP : PLr T (p ++ t ++ R)) : mX9_isCompared T 0 = some (1, T) := by
  obtain ⟨s, c, rfl, h2, h3, h4⟩ := hp
  have e : (s ++ c :: List.replicate j 20) ++ t ++ R = s ++ c :: (List.replicate j 20 ++ t ++ R) := by
    rw [List.append_assoc, List.append_assoc]
    show s ++ (c :: List.replicate j 20 ++ (t ++ R)) = _
    rw [List.cons_append, List.append_assoc]
  rw [e] at hP
  rw [comp_m hM hP (by rw [rk_cmp h3 h4]; decide) (rk_sum h2), if_pos (rk_cmp h3 h4)]
theorem comparison_c (S : xS) {κ : Nat} (hκ : κ < 300) : mX4_comparison S (nI κ) = some (cmpOf κ, S) := by
  have e : ∀ c : Nat, c < 300 → ((nI κ = nI c) ↔ κ = c) := fun c hc => nI_eq (by omega) (by omega)
  unfold mX4_comparison cmpOf
  by_cases h1 : κ = 3
  · subst h1; rfl
  by_cases h2 : κ = 4
  · subst h2; rfl
  by_cases h3 : κ = 35
  · subst h3; rfl
  by_cases h4 : κ = 60
  · subst h4; rfl
  by_cases h5 : κ = 61
  · subst h5; rfl
  by_cases h6 : κ = 62
  · subst h6; rfl
  rw [if_neg (show ¬ nI κ = (3 : Int32) from fun q => h1 ((e 3 (by decide)).mp q)), if_neg (show ¬ nI κ = (4 : Int32) from fun q => h2 ((e 4 (by decide)).mp q)), if_neg (show ¬ nI κ = (35 : Int32) from fun q => h3 ((e 35 (by decide)).mp q)), if_neg (show ¬ nI κ = (60 : Int32) from fun q => h4 ((e 60 (by decide)).mp q)), if_neg (show ¬ nI κ = (61 : Int32) from fun q => h5 ((e 61 (by decide)).mp q)), if_neg (show ¬ nI κ = (62 : Int32) from fun q => h6 ((e 62 (by decide)).mp q)), if_neg h4, if_neg h1, if_neg h6, if_neg h2, if_neg h5, if_neg h3]
theorem cmpOf_cases (κ : Nat) : cmpOf κ = -1 ∨ ∃ op, (op = 10 ∨ op = 11 ∨ op = 12 ∨ op = 13 ∨ op = 14 ∨ op = 15) ∧ cmpOf κ = nI op ∧ κ ≠ 0 := by
  unfold cmpOf
  by_cases h4 : κ = 60
  · exact Or.inr ⟨10, by omega, by rw [if_pos h4]; rfl, by omega⟩
  by_cases h1 : κ = 3
  · exact Or.inr ⟨11, by omega, by rw [if_neg h4, if_pos h1]; rfl, by omega⟩
  by_cases h6 : κ = 62
  · exact Or.inr ⟨12, by omega, by rw [if_neg h4, if_neg h1, if_pos h6]; rfl, by omega⟩
  by_cases h2 : κ = 4
  · exact Or.inr ⟨13, by omega, by rw [if_neg h4, if_neg h1, if_neg h6, if_pos h2]; rfl, by omega⟩
  by_cases h5 : κ = 61
  · exact Or.inr ⟨14, by omega, by rw [if_neg h4, if_neg h1, if_neg h6, if_neg h2, if_pos h5]; rfl, by omega⟩
  by_cases h3 : κ = 35
  · exact Or.inr ⟨15, by omega, by rw [if_neg h4, if_neg h1, if_neg h6, if_neg h2, if_neg h5, if_pos h3]; rfl, by omega⟩
  exact Or.inl (by rw [if_neg h4, if_neg h1, if_neg h6, if_neg h2, if_neg h5, if_neg h3])
theorem nI_m1 {op : Nat} (h : op < 100) : ¬ nI op = -1 := fun q => by
  have : (-1 : Int32) < 0 := by decide
  rw [← q] at this
  exact nI_pos (by omega) this
theorem askAhead_m {T : xS} (hM : RMr T) {R : List Nat} (hP : PLr T R) (ha : actx R) : mX9_isAskAhead T 0 0 = some (1, T) := by
  obtain ⟨x, r, e, hx, hx2⟩ := actx_head ha
  obtain ⟨ops, R1, e2, h2⟩ := ha
  have hP' := hP
  rw [e2] at hP'
  obtain ⟨k1, k2, k3, k4⟩ := kind_m hM hP' (by decide) (fun y hy => by have := h2 y hy; omega)
  rw [e] at hP
  obtain ⟨p1, p2, p3⟩ := hP
  have hl : (x :: r).length = r.length + 1 := rfl
  rw [hl] at p1 p2
  have a5 : aI Ym T 5 (nI r.length) = some (nI x) := by rw [aI_nI (Y := Ym) (c := 5) (by show _ < 160; omega) (by decide), p3.1]
  unfold mX9_isAskAhead
  rw [k1, Option.bind_some, if_pos (show nI 41 = (41 : Int32) by decide)]
  dsimp only
  rw [p1, if_neg (nI_ne0 (by omega) (by omega)), rm_16 hM, Option.bind_some, nI_pred, a5, Option.bind_some]
  by_cases h41 : x = 41
  · rw [h41, if_pos (by decide)]
  · rw [if_neg (show ¬ nI x = (41 : Int32) from fun q => h41 ((nI_eq (a := x) (b := 41) (by omega) (by decide)).mp q)), Option.bind_some, a5, Option.bind_some, rank_m x p3.2.1, Option.bind_some, isIn_eq, Option.bind_some]
    have hx3 : x = 20 ∨ x = 21 ∨ x = 22 := hx2.resolve_left h41
    rcases hx3 with rfl | rfl | rfl <;> rfl
theorem ask_ok {len : Nat} {b : Nat → Nat} {q : Nat} {ie : Bool} {rec : Nat → xS → Nat → Int32 → Option xS} {o : Nat} (ho : o ≤ 8) (hSum : SumC len b q ie (rec 0) o) (hAsk : o < 8 → AskC len b q ie (rec 6) (o + 1)) : AskC len b q ie (oX4_readAsk rec) o := by
  intro S T R0 L W κ st v bh hE hA hR0
  obtain ⟨hS, hTE, hTP, hTK, hq, hL, hW⟩ := id hE
  have hlen := hTP.1
  have hbl := hTK.2.2.1
  have hκ3 := κ_lt hTK.2.2.2
  obtain ⟨x0, r0, ex0, hx0, hx02⟩ := actx_head hA
  have hlow : ∀ k, 4 ≤ k → lowR R0 k := fun k hk x r e => by rw [ex0] at e; cases e; omega
  unfold oX4_readAsk
  rw [hS.2.2.1, if_pos rfl, rc_25_0 hS.1, Option.bind_some, hTK.1.1]
  by_cases h210 : κ = 210
  · -- not
    rw [if_pos (show nI κ = (210 : Int32) by rw [h210]; rfl)]
    have hb := beg_rest hTE.1 hTP hTK hTE.2.1 (by omega) (by omega)
    rw [if_neg (by omega), if_neg (by omega), if_neg (by omega), if_pos h210, askAhead_m hTE.1 hTE.2.2.2.2.1 hA, Option.bind_some, if_neg n10] at hb
    unfold mX4_opens
    by_cases ho8 : o < 8
    · rw [if_pos (show nI o < (8 : Int32) from nI_lt (b := 8) ho8 (by decide)), rc_25_0 hS.1, Option.bind_some]
      obtain ⟨S1, T1, κ1, st1, v1, bh1, a1, a2, a3, a4, a5, a6, a7, a8, a9⟩ := tr_open (x := 20) hE ho8 (by decide) (by omega) hb (by omega) hS.1 rfl rfl
      have hS1 := a3.se hS
      have hE1 : EN len b q ie S1 T1 (o + 1) (20 :: R0) L W κ1 st1 v1 bh1 0 := ⟨hS1, a8, a7, a6, hq, by omega, by show W + (R0.length + 1) ≤ st1; omega⟩
      obtain ⟨S2, b1, b2⟩ := hAsk ho8 S1 T1 (20 :: R0) L W κ1 st1 v1 bh1 hE1 (actx_cons hA (Or.inl rfl)) (by show R0.length + 1 ≤ 6 * (o + 1) + 3; omega)
      rw [a1, Option.bind_some, Option.bind_some, if_neg n10]
      dsimp only
      rw [nI_1, b1, Option.bind_some]
      rcases b2 with b2 | ⟨T3, K3, pend3, j3, c3, g3, L3, W3, κ3, st3, v3, bh3, d1, d1j, dp, ds, d2, d3, d4, d5, ⟨d10, d11, d6, d7, d8, d9⟩, d12, d13⟩
      · have b3 := b2.more (K := 1) a3.fx a4 (Nat.le_refl _) (Nat.le_refl _) a2 (show 1 + st ≤ st1 by omega)
        obtain ⟨_, _, _, _, hFS, _⟩ := id b3
        obtain ⟨S5, p1, p2, p3, p4⟩ := putf (op := 5) (arg := 0) hFS hq
        exact ⟨S5, by rw [dO_out hFS.2.1 hq, Option.bind_some, p1, Option.bind_some], Or.inl (b3.beh p3 p4 p2)⟩
      · obtain ⟨hS3, hTE3, hTP3, hTK3, -, hL3, hW3⟩ := id d1
        have hbl3 := hTK3.2.2.1
        obtain ⟨S5, p1, p2, p3, p4, p5, p6, p7, p8⟩ := putc (op := 5) (arg := 0) hS3 hq (show L3 < 300 by omega)
        have hpe : pend3 ++ 20 :: R0 = (pend3 ++ [20]) ++ R0 := by rw [List.append_assoc]; rfl
        rw [hpe] at hTE3 hW3
        have hj : o + 1 + j3 = o + (j3 + 1) := by omega
        rw [hj] at hTE3
        refine ⟨S5, by rw [dO_out hS3.2.1 hq, Option.bind_some, p1, Option.bind_some], Or.inr ⟨T3, K3 + 1, pend3 ++ [20], j3 + 1, c3, fun N => !(g3 N), L3 + 1, W3, κ3, st3, v3, bh3, ⟨p2, hTE3, hTP3.se p7 p8, hTK3.se p7, hq, by omega, hW3⟩, by omega, ?_, ds, fun n => by rw [show n + (K3 + 1) = n + K3 + 1 by omega, a2, d2], by omega, (a3.fx.trans d4 (Nat.le_refl _)).trans p3 (by omega), a4.trans d5 (Nat.le_refl _), ⟨by omega, ?_, d6, d7, ?_, ?_⟩, by omega, ?_⟩⟩
        · obtain ⟨s, cc, e1, e2, e3, e4⟩ := dp
          refine ⟨s, cc, ?_, e2, e3, e4⟩
          rw [e1, List.append_assoc, List.replicate_succ', List.cons_append]
        · exact cet_not ((d11.congr (fun i a b' => p6 i (by omega))).mono (by unfold D1; omega)) (by omega) p4 (by unfold D1; omega)
        · rw [opsC_app, ← List.append_assoc]
          exact okC_app d8 (okC_one (by simp [okP]))
        · rw [opsC_app, ← List.append_assoc]
          exact mt_not d9
        · have : (pend3 ++ [20] : List Nat).length = pend3.length + 1 := by rw [List.length_append]; rfl
          omega
    · have ho8' : o = 8 := by omega
      rw [if_neg (show ¬ nI o < (8 : Int32) from nI_nlt (b := 8) (by omega) (by omega))]
      obtain ⟨S4, f1, f2, f3, f4, f5⟩ := failc (f := 3) hS (show L ≤ 300 by omega) hTK.1.2.1 (by decide)
      refine ⟨S4, by rw [show mX4_fail S 25 3 = some S4 from f1, Option.bind_some, Option.bind_some, if_pos rfl], Or.inl (FO.here (K := 1) hE f2 f3 f4 f5 (by decide) (fun n => ?_) (by decide))⟩
      unfold aut
      rw [lX9_parsed_12.eq_2, if_neg n10, hTE.2.2.2.2.2.2, if_pos rfl, hb]
      unfold mX9_opensBy
      rw [hTE.2.2.2.2.2.1, ho8', if_pos (by decide), Option.bind_some, Option.bind_some, if_neg (show ¬ (3 : Int32) = 0 by decide)]
      rfl
  · -- a comparison
    rw [if_neg (show ¬ nI κ = (210 : Int32) from fun q => h210 ((nI_eq (a := κ) (b := 210) (by omega) (by decide)).mp q))]
    obtain ⟨S1, b1, b2⟩ := hSum S T R0 L W κ st v bh hE (fun h => absurd h h210) (hlow 5 (by decide)) (by omega)
    rw [b1, Option.bind_some]
    rcases b2 with b2 | ⟨T1, K1, s1, c1, f1, L1, W1, κ1, st1, v1, bh1, e1, e1p, e1s, e2, e3, e4, e5, e6, e7, e8⟩
    · obtain ⟨_, _, _, _, hFS, _⟩ := id b2
      refine ⟨S1, ?_, Or.inl b2⟩
      have hc : ∃ r, mX4_comparison S1 (gI S1 23 2) = some (r, S1) := by
        unfold mX4_comparison
        repeat' split
        all_goals exact ⟨_, rfl⟩
      obtain ⟨r, hr⟩ := hc
      rw [rc_25_0 hFS.1, Option.bind_some, hr, Option.bind_some]
      dsimp only
      rw [failf hFS.2.2.1, Option.bind_some, if_neg hFS.2.2.1]
      split <;> rfl
    · obtain ⟨hS1, hTE1, hTP1, hTK1, -, hL1, hW1⟩ := id e1
      have hbl1 := hTK1.2.2.1
      have hκ13 := κ_lt hTK1.2.2.2
      rw [rc_25_0 hS1.1, Option.bind_some, hTK1.1.1, comparison_c S1 hκ13, Option.bind_some]
      dsimp only
      -- what the reference sees
      obtain ⟨ops, R1, eR, hops⟩ := id hA
      have hPm : PLr T1 ((s1 ++ ops) ++ 41 :: R1) := by rw [List.append_assoc, ← eR]; exact hTE1.2.2.2.2.1
      have hopl : ∀ x, x ∈ s1 ++ ops → x < 40 := fun x hx => by
        rcases List.mem_append.mp hx with hx | hx
        · have := isSum_mem e1p x hx; omega
        · have := hops x hx; omega
      obtain ⟨k1, k2, k3, k4⟩ := kind_m hTE1.1 hPm (by decide) hopl
      have hcomp : mX9_isCompared T1 0 = some (0, T1) := by
        have hP2 := hTE1.2.2.2.2.1
        rw [ex0] at hP2
        rw [comp_m hTE1.1 hP2 (by omega) (rk_sum e1p), if_neg (by omega)]
      have hbt := btw_rest hTK1.2.2.2 (fun h => by have e1s' : κ1 ≠ 42 ∧ κ1 ≠ 47 ∧ κ1 ≠ 43 ∧ κ1 ≠ 45 := e1s; omega) k1
      rw [if_pos (by decide), hcomp, Option.bind_some, if_pos rfl] at hbt
      rcases cmpOf_cases κ1 with hcm | ⟨op, hop, hcm, hκ10⟩
      · -- none
        rw [hcm, if_pos rfl]
        obtain ⟨S4, g1, g2, g3, g4, g5⟩ := failc (f := 1) hS1 (show L1 ≤ 300 by omega) hTK1.1.2.1 (by decide)
        refine ⟨S4, by rw [show mX4_fail S1 25 1 = some S4 from g1, Option.bind_some], Or.inl ?_⟩
        have hfo : FO len q S1 T1 S4 L1 W1 st1 := by
          rw [hcm] at hbt
          refine FO.here (K := 2) e1 g2 g3 g4 g5 (by decide) (fun n => ?_) (by decide)
          have hTE1' : TE q ie T1 o ((s1 ++ ops) ++ 41 :: R1) W1 1 := by rw [List.append_assoc, ← eR]; exact hTE1
          refine stop_m hTE1' (by decide) hopl hbt ?_ n
          rw [j25_eq hTK1.2.2.2 k4, if_neg (fun q => by have := q.2; omega), if_neg (fun q => by have := q.2; omega), hcomp, Option.bind_some, if_pos rfl]
          unfold jX9_behindOne_160
          dsimp only
          have s58 := tk_sign hTK1.2.2.2 (c := 58) (by decide)
          by_cases c63 : κ1 = 63 ∧ 41 = 41
          · rw [if_pos c63, if_neg (show ¬ gI T1 0 9 = 58 from fun q => by have := s58.mp q; omega)]
          · rw [if_neg c63, if_neg (fun q => by have := q.2; omega)]
        exact hfo.more e4 e5 (by have := e6.1; omega) (by have := e6.2.2.2.1; omega) e2 (by omega)
      · -- one
        rw [hcm, if_neg (nI_m1 (by omega)), hS1.2.2.1, if_pos rfl, rc_25_0 hS1.1, Option.bind_some]
        rw [hcm] at hbt
        have hrk : rk op = 4 := rk_cmp (by omega) (by omega)
        obtain ⟨S2, T2, κ2, st2, v2, bh2, a1, a2, a3, a4, a5, a6, a7, a8, a9⟩ := tr_bin e1 (show op < 40 by omega) hbt (fun x hx => by rw [hrk]; have := rk_sum e1p x hx; omega) (fun x r e => by rw [hrk]; exact hlow 4 (by decide) x r e) (by rw [cnt2_0 s1 (fun x hx => by have := isSum_mem e1p x hx; omega)]; omega) (by omega) (by omega) hκ10 hS1.1 rfl rfl
        rw [cnt2_0 s1 (fun x hx => by have := isSum_mem e1p x hx; omega)] at a8
        rw [List.length_append] at hW1
        have hE2 : EN len b q ie S2 T2 o (op :: R0) L1 (W1 + s1.length) κ2 st2 v2 bh2 0 := ⟨a3.se hS1, a8, a7, a6, hq, by omega, by show W1 + s1.length + (R0.length + 1) ≤ st2; omega⟩
        obtain ⟨S3, b1, b2⟩ := hSum S2 T2 (op :: R0) L1 (W1 + s1.length) κ2 st2 v2 bh2 hE2 (nA_op (by rw [hrk]; decide)) (fun x r e => by cases e; omega) (by show R0.length + 1 ≤ 6 * o + 4; omega)
        rw [a1, Option.bind_some, b1, Option.bind_some]
        obtain ⟨y1, y2, y3, y4, y5, y6⟩ := id e6
        have haut : ∀ n, aut (n + (1 + K1)) T = aut n T2 := fun n => by rw [show n + (1 + K1) = n + 1 + K1 by omega, e2, a2]
        have hfx : FX q L S S2 := e4.trans a3.fx (by omega)
        have hfe : FE q W T T2 := e5.trans a4 (by omega)
        rcases b2 with b2 | ⟨T3, K3, s2, c3, f3, L3, W3, κ3, st3, v3, bh3, d1, dp, ds, d2, d3, d4, d5, ⟨d10, d11, d6, d7, d8, d9⟩, d12, d13⟩
        · have b3 := b2.more (st := st) (K := 1 + K1) hfx hfe (show L ≤ L1 by omega) (show W ≤ W1 + s1.length by omega) haut (by omega)
          obtain ⟨_, _, _, _, hFS, _⟩ := id b3
          obtain ⟨S5, p1, p2, p3, p4⟩ := putf (op := nI op) (arg := 0) hFS hq
          exact ⟨S5, by rw [dO_out hFS.2.1 hq, Option.bind_some, p1, Option.bind_some], Or.inl (b3.beh p3 p4 p2)⟩
        · obtain ⟨hS3, hTE3, hTP3, hTK3, -, hL3, hW3⟩ := id d1
          have hbl3 := hTK3.2.2.1
          obtain ⟨S5, p1, p2, p3, p4, p5, p6, p7, p8⟩ := putc (op := nI op) (arg := 0) hS3 hq (show L3 < 300 by omega)
          have hpe : s2 ++ op :: R0 = (s2 ++ [op]) ++ R0 := by rw [List.append_assoc]; rfl
          rw [hpe] at hTE3 hW3
          refine ⟨S5, by rw [dO_out hS3.2.1 hq, Option.bind_some, p1, Option.bind_some], Or.inr ⟨T3, K3 + (1 + K1), s2 ++ [op], 0, c1 ++ opsC s1 ++ c3, fun N => cmpB op (f1 N) (f3 N), L3 + 1, W3, κ3, st3, v3, bh3, ⟨p2, hTE3, hTP3.se p7 p8, hTK3.se p7, hq, by omega, hW3⟩, by omega, ⟨s2, op, rfl, dp, by omega, by omega⟩, ds, fun n => by rw [show n + (K3 + (1 + K1)) = n + K3 + (1 + K1) by omega, haut, d2], by omega, (hfx.trans d4 (by omega)).trans p3 (by omega), hfe.trans d5 (by omega), ⟨by omega, ?_, ?_, ?_, ?_, ?_⟩, by omega, ?_⟩⟩
          · refine cet_cmp (op := op) (D := D1 o + 2) (D2 := D1 o + 2) hop (y2.congr (fun i a b' => ?_)) (d11.congr (fun i a b' => p6 i (by omega))) (by omega) (by omega) p4 (by omega) (Nat.le_refl _) (by omega)
            have hh := a3.fx (q := q) (L := L1)
            exact ⟨((p6 i (by omega)).1).trans ((d4.2.2.2.2.2 i (by omega)).1.trans (hh.2.2.2.2.2 i b').1), ((p6 i (by omega)).2).trans ((d4.2.2.2.2.2 i (by omega)).2.trans (hh.2.2.2.2.2 i b').2)⟩
          · rw [codL_app, codL_app]
            refine ⟨⟨codL_congr c1 W (fun i a b' => ?_) y3, ?_⟩, ?_⟩
            · rw [d5.2.2.2.2 i (Or.inl (by omega)), a4.2.2.2.2 i (Or.inl (by omega))]
            · rw [← y4]
              refine codL_congr _ _ (fun i a b' => ?_) a9
              rw [opsC_len] at b'
              exact d5.2.2.2.2 i (Or.inl (by omega))
            · rw [List.length_append, opsC_len, ← Nat.add_assoc, ← y4]
              exact d6
          · rw [List.length_append, List.length_append, opsC_len]
            omega
          · rw [opsC_app, List.append_assoc (c1 ++ opsC s1), ← List.append_assoc c3]
            exact okC_app y5 (okC_app d8 (okC_one (by rcases hop with rfl | rfl | rfl | rfl | rfl | rfl <;> simp [okP])))
          · have := mt_cmp (o := op) hop y6 d9
            rw [opsC_app, List.append_assoc (c1 ++ opsC s1), ← List.append_assoc c3, ← List.append_assoc (c1 ++ opsC s1)]
            exact this
          · have : (s2 ++ [op] : List Nat).length = s2.length + 1 := by rw [List.length_append]; rfl
            omega

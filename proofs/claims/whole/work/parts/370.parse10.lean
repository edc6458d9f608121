/-! THE PARSERS: all together; a law -/
theorem fm_one (rec : Nat → xS → Nat → Int32 → Option xS) (S : xS) (v : Int32) (h : ¬ gI S 25 4 = 0) : oX4_readOne rec S 25 v = some S := by
  unfold oX4_readOne
  rw [if_neg h]
theorem fm_ask (rec : Nat → xS → Nat → Int32 → Option xS) (S : xS) (v : Int32) (h : ¬ gI S 25 4 = 0) : oX4_readAsk rec S 25 v = some S := by
  unfold oX4_readAsk
  rw [if_neg h]
theorem r_two (n : Nat) (S : xS) (v : Int32) : rX4 (n + 1) 2 S 25 v = oX4_readOne (rX4 n) S 25 v := by rw [rX4.eq_2]; rfl
theorem r_six (n : Nat) (S : xS) (v : Int32) : rX4 (n + 1) 6 S 25 v = oX4_readAsk (rX4 n) S 25 v := by rw [rX4.eq_2]; rfl
theorem r_one (n : Nat) (S : xS) (v : Int32) : rX4 (n + 1) 1 S 25 v = oX4_readProduct (rX4 n) S 25 v := by rw [rX4.eq_2]; rfl
theorem r_zero (n : Nat) (S : xS) (v : Int32) : rX4 (n + 1) 0 S 25 v = oX4_readSum (rX4 n) S 25 v := by rw [rX4.eq_2]; rfl
theorem r_three (n : Nat) (S : xS) (v : Int32) : rX4 (n + 1) 3 S 25 v = oX4_readIf (rX4 n) S 25 v := by rw [rX4.eq_2]; rfl
theorem r_four (n : Nat) (S : xS) (v : Int32) : rX4 (n + 1) 4 S 25 v = oX4_readEither (rX4 n) S 25 v := by rw [rX4.eq_2]; rfl
theorem r_five (n : Nat) (S : xS) (v : Int32) : rX4 (n + 1) 5 S 25 v = oX4_readBoth (rX4 n) S 25 v := by rw [rX4.eq_2]; rfl
theorem fmr {n : Nat} (hn : 3 ≤ n) : FMr (rX4 n) := by
  obtain ⟨n, rfl⟩ : ∃ z, n = z + 1 + 1 + 1 := ⟨n - 3, by omega⟩
  intro S v tag h ht
  have a2 : ∀ n, rX4 (n + 1) 2 S 25 v = some S := fun n => by rw [r_two]; exact fm_one _ S v h
  have a6 : ∀ n, rX4 (n + 1) 6 S 25 v = some S := fun n => by rw [r_six]; exact fm_ask _ S v h
  have a1 : ∀ n, rX4 (n + 1 + 1) 1 S 25 v = some S := fun n => by
    rw [r_one]
    unfold oX4_readProduct
    rw [a2, Option.bind_some, lX4_readProduct_7.eq_2, if_neg (by decide), if_neg h]
  have a5 : ∀ n, rX4 (n + 1 + 1) 5 S 25 v = some S := fun n => by
    rw [r_five]
    unfold oX4_readBoth
    rw [a6, Option.bind_some, lX4_readBoth_7.eq_2, if_neg (by decide), if_neg h]
  rcases ht with rfl | rfl | rfl | rfl | rfl | rfl
  · rw [r_zero]
    unfold oX4_readSum
    rw [a1, Option.bind_some, lX4_readSum_7.eq_2, if_neg (by decide), if_neg h]
  · exact a1 _
  · exact a2 _
  · rw [r_four]
    unfold oX4_readEither
    rw [a5, Option.bind_some, lX4_readEither_7.eq_2, if_neg (by decide), if_neg h]
  · exact a5 _
  · exact a6 _
theorem sim_all (len : Nat) (b : Nat → Nat) (q : Nat) (ie : Bool) : ∀ n o, o ≤ 8 → (7 * (8 - o) + 3 ≤ n → OneC len b q ie (rX4 n 2) o) ∧ (7 * (8 - o) + 4 ≤ n → ProdC len b q ie (rX4 n 1) o) ∧ (7 * (8 - o) + 5 ≤ n → SumC len b q ie (rX4 n 0) o) ∧ (7 * (8 - o) + 6 ≤ n → AskC len b q ie (rX4 n 6) o) ∧ (7 * (8 - o) + 7 ≤ n → BothC len b q ie (rX4 n 5) o) ∧ (7 * (8 - o) + 8 ≤ n → EitherC len b q ie (rX4 n 4) o) ∧ (7 * (8 - o) + 9 ≤ n → IfC len b q ie (rX4 n 3) o) := by
  intro n
  induction n with
  | zero => intro o _; exact ⟨fun h => absurd h (by omega), fun h => absurd h (by omega), fun h => absurd h (by omega), fun h => absurd h (by omega), fun h => absurd h (by omega), fun h => absurd h (by omega), fun h => absurd h (by omega)⟩
  | succ n ih =>
    intro o ho
    refine ⟨fun h => ?_, fun h => ?_, fun h => ?_, fun h => ?_, fun h => ?_, fun h => ?_, fun h => ?_⟩
    · have := one_ok (rec := rX4 n) ho (fun h8 => (ih (o + 1) (by omega)).2.2.1 (by omega)) (fun h8 => (ih (o + 1) (by omega)).1 (by omega)) (fun h8 => (ih (o + 1) (by omega)).2.2.2.2.2.2 (by omega)) (len := len) (b := b) (q := q) (ie := ie)
      intro S T k R0 L W κ st v bh a1 a2 a3 a4 a5
      rw [r_two]
      exact this S T k R0 L W κ st v bh a1 a2 a3 a4 a5
    · have := prod_ok (rec := rX4 n) ho ((ih o ho).1 (by omega)) (len := len) (b := b) (q := q) (ie := ie)
      intro S T R0 L W κ st v bh a1 a2 a3 a4
      rw [r_one]
      exact this S T R0 L W κ st v bh a1 a2 a3 a4
    · have := sum_ok (rec := rX4 n) ho ((ih o ho).2.1 (by omega)) (len := len) (b := b) (q := q) (ie := ie)
      intro S T R0 L W κ st v bh a1 a2 a3 a4
      rw [r_zero]
      exact this S T R0 L W κ st v bh a1 a2 a3 a4
    · have := ask_ok (rec := rX4 n) ho ((ih o ho).2.2.1 (by omega)) (fun h8 => (ih (o + 1) (by omega)).2.2.2.1 (by omega)) (len := len) (b := b) (q := q) (ie := ie)
      intro S T R0 L W κ st v bh a1 a2 a3
      rw [r_six]
      exact this S T R0 L W κ st v bh a1 a2 a3
    · have := both_ok (rec := rX4 n) ho ((ih o ho).2.2.2.1 (by omega)) (len := len) (b := b) (q := q) (ie := ie)
      intro S T R0 L W κ st v bh a1 a2 a3 a4
      rw [r_five]
      exact this S T R0 L W κ st v bh a1 a2 a3 a4
    · have := either_ok (rec := rX4 n) ho ((ih o ho).2.2.2.2.1 (by omega)) (len := len) (b := b) (q := q) (ie := ie)
      intro S T R0 L W κ st v bh a1 a2 a3 a4
      rw [r_four]
      exact this S T R0 L W κ st v bh a1 a2 a3 a4
    · have := if_ok (rec := rX4 n) ho (fmr (by omega)) ((ih o ho).2.2.2.2.2.1 (by omega)) ((ih o ho).2.2.1 (by omega)) (len := len) (b := b) (q := q) (ie := ie)
      intro S T k R0 L W κ st v bh a1 a2 a3 a4
      rw [r_three]
      exact this S T k R0 L W κ st v bh a1 a2 a3 a4
/-- at the end of a law nothing is open -/
theorem j25_top {T : xS} {b : Nat → Nat} {κ st v bh : Nat} (h : TMk T b κ st v bh) : jX9_behindOne_25 T 0 (-1) (-1) (-1) = some (0, T) := by
  have e160 : jX9_behindOne_160 T 0 (-1) (-1) = some (0, T) := by
    unfold jX9_behindOne_160
    split
    · rw [if_neg (by decide)]
    · rfl
  have e137 : jX9_behindOne_137 T 0 (-1) (-1) = some (0, T) := by
    unfold jX9_behindOne_137
    split
    · rw [if_neg (by decide)]; exact e160
    · exact e160
  have e68 : jX9_behindOne_68 T 0 (-1) (-1) = some (0, T) := by
    unfold jX9_behindOne_68
    rw [w_end T, Option.bind_some]
    dsimp only
    rw [isWord_m h (j := 11) (by decide) (by decide), Option.bind_some]
    dsimp only
    rw [if_neg (show ¬ (-1 : Int32) = 43 by decide), e137]
    split <;> rfl
  unfold jX9_behindOne_25
  rw [if_pos (by decide), if_neg (show ¬ (-1 : Int32) = 40 by decide), e68]
  split <;> rfl
/-- a law read by both -/
theorem law_ok {len : Nat} {b : Nat → Nat} {q : Nat} {ie : Bool} {S T : xS} {L W κ st v bh : Nat} (h : EN len b q ie S T 0 [] L W κ st v bh 0) : ∃ S', rX4 100 0 S 25 0 = some S' ∧ ((∃ f st' T', FS q S' L ∧ (gI S' 25 4 = nI f ∧ gI S' 25 5 = nI st' ∧ f ≠ 0 ∧ f < 7) ∧ FX q L S S' ∧ aut 5000 T = some (nI f, T') ∧ gI T' 0 8 = nI st' ∧ FE q W T T') ∨ ∃ T' c f L' κ' st' v' bh', EN len b q ie S' T' 0 [] L' (W + c.length) κ' st' v' bh' 1 ∧ aut 5000 T = some (0, T') ∧ st < st' ∧ FX q L S S' ∧ FE q W T T' ∧ codL (gI T' 3) (680 * q + 75) c W ∧ okC (mOf ie) c ∧ MV (mOf ie) c f ∧ L < L' ∧ CEV (gI S' (26 + 6 * q + 1)) (gI S' (26 + 6 * q + 2)) (mOf ie) L L' 43 f ∧ L' + st ≤ L + st' ∧ c.length + st ≤ st') := by
  obtain ⟨S', b1, b2⟩ := (sim_all len b q ie 100 0 (by decide)).2.2.1 (by decide) S T [] L W κ st v bh h (fun _ x r e => by cases e) (fun x r e => by cases e) (by show 0 ≤ _; omega)
  have hq := h.2.2.2.2.1
  have hlen := h.2.2.1.1
  refine ⟨S', b1, ?_⟩
  rcases b2 with ⟨f, st', K, T', h1, h2, h3, h4, h5, h6, h7⟩ | ⟨T1, K, pend, c, f, L', W', κ', st', v', bh', z1, z2, z3, z4, z5, z6, z7, ⟨y1, y2, y3, y4, y5, y6⟩, z9, z10⟩
  · refine Or.inl ⟨f, st', T', h1, h2, h3, ?_, h5, h6⟩
    have := h4 (5000 - K)
    rw [show 5000 - K + K = 5000 by omega] at this
    exact this
  · rw [List.append_nil] at z1
    obtain ⟨hS1, hTE1, hTP1, hTK1, -, hL1, hW1⟩ := id z1
    have hbl := hTK1.2.2.1
    obtain ⟨g1, g2, g3, g4, g5, g6, g7⟩ := id hTE1
    have hsl : ∀ x, x ∈ pend → x < 40 := fun x hx => by have := isSum_mem z2 x hx; omega
    have hko : mX9_kindOpen T1 0 0 = some (40, T1) := by
      unfold mX9_kindOpen
      rw [marker_0 g1 g5 hsl, Option.bind_some, if_pos (show (-1 : Int32) < 0 by decide), if_pos rfl]
    have z3' : κ' ≠ 42 ∧ κ' ≠ 47 ∧ κ' ≠ 43 ∧ κ' ≠ 45 := z3
    have hbt := btw_rest hTK1.2.2.2 (by omega) hko
    rw [if_neg (by decide)] at hbt
    have hTE1' : TE q ie T1 0 (pend ++ []) W' 1 := by rw [List.append_nil]; exact hTE1
    obtain ⟨T2, s1, s2, s3, s4⟩ := hTE1'.settle hq (least := 1) (by decide) (fun x hx => by
      have := isSum_mem z2 x hx
      rcases this with rfl | rfl | rfl | rfl <;> decide) (fun x r e => by cases e) (by omega) (by rw [cnt2_0 pend (fun x hx => by have := isSum_mem z2 x hx; omega)]; omega) (by omega)
    rw [cnt2_0 pend (fun x hx => by have := isSum_mem z2 x hx; omega)] at s2
    have ha : ∀ n, aut (n + 2) T1 = some (0, T2) := fun n => by
      unfold aut
      rw [lX9_parsed_12.eq_2, if_neg n10, g7, if_neg n10]
      unfold mX9_behindOne
      rw [hbt, Option.bind_some]
      dsimp only
      rw [marker_0 g1 g5 hsl, Option.bind_some, if_neg (show ¬ (0 : Int32) ≤ -1 by decide)]
      dsimp only
      rw [j25_top hTK1.2.2.2, Option.bind_some]
      show lX9_parsed_12 (n + 1) T1 0 0 0 = _
      rw [lX9_parsed_12.eq_2, if_pos rfl, marker_0 g1 g5 hsl, Option.bind_some, if_neg (show ¬ (0 : Int32) ≤ -1 by decide), if_pos rfl]
      unfold jX9_parsed_67
      dsimp only
      rw [show (1 : Int32) = nI 1 from rfl, s1, Option.bind_some]
    have hlc : (c ++ opsC pend).length = c.length + pend.length := by rw [List.length_append, opsC_len]
    have kT : ∀ j, j = 4 ∨ j = 7 ∨ j = 8 ∨ j = 9 ∨ j = 10 → gI T2 0 j = gI T1 0 j := fun j hj => s4.2.2.1 j (by omega) (by omega) (by omega)
    have hTK2 : TK S' T2 len b κ' st' v' bh' := by
      refine ⟨hTK1.1, ⟨(kT 8 (by omega)).trans hTK1.2.1.1, (kT 7 (by omega)).trans hTK1.2.1.2⟩, hTK1.2.2.1, ?_⟩
      have := hTK1.2.2.2
      unfold TMk gJ at this ⊢
      rw [kT 9 (by omega), kT 10 (by omega), s4.1]
      exact this
    refine Or.inr ⟨T2, c ++ opsC pend, f, L', κ', st', v', bh', ⟨hS1, by rw [hlc, ← Nat.add_assoc, ← y4]; exact s2, ⟨hTP1.1, hTP1.2.1, (kT 4 (by omega)).trans hTP1.2.2.1, fun i hi => by rw [s4.2.1 4 (by decide) (by decide)]; exact hTP1.2.2.2 i hi⟩, hTK2, hq, hL1, by rw [hlc]; show W + (c.length + pend.length) + 0 ≤ st'; omega⟩, ?_, by omega, z6, z7.trans s4.fe (by omega), ?_, y5, y6, y1, y2.mono (by decide), by omega, by rw [hlc]; omega⟩
    · have h1 := z4 (5000 - K)
      rw [show 5000 - K + K = 5000 by omega] at h1
      rw [h1]
      have h2 := ha (5000 - K - 2)
      rw [show 5000 - K - 2 + 2 = 5000 - K by omega] at h2
      exact h2
    · rw [codL_app]
      refine ⟨codL_congr c W (fun i _ b' => s4.2.2.2 i (Or.inl (by omega))) y3, by rw [← y4]; exact s3⟩

/-! THE PARSERS: what closes, what stands between the parts of an if, what stops -/
theorem kind_m {T : xS} (hM : RMr T) {mk : Nat} {ops R1 : List Nat} (hP : PLr T (ops ++ mk :: R1)) (hmk : 40 ≤ mk) (ho : ∀ x, x ∈ ops → x < 40) : mX9_kindOpen T 0 0 = some (nI mk, T) ∧ aI Ym T 5 (nI R1.length) = some (nI mk) ∧ R1.length < 150 ∧ mk < 64 := by
  have hs := stk_at ops hP.2.2
  have hl : (ops ++ mk :: R1).length ≤ 150 := hP.2.1
  rw [List.length_append] at hl
  have hl2 : (mk :: R1).length = R1.length + 1 := rfl
  have a5 : aI Ym T 5 (nI R1.length) = some (nI mk) := by rw [aI_nI (Y := Ym) (c := 5) (by show _ < 160; omega) (by decide), hs.1]
  refine ⟨?_, a5, by omega, hs.2⟩
  unfold mX9_kindOpen
  rw [marker_m hM hP hmk ho, Option.bind_some, if_neg (nI_pos (by omega)), rm_16 hM, Option.bind_some, a5, Option.bind_some]
/-- behindOne with no operator, inside of something -/
theorem behind_no {T : xS} (hM : RMr T) {mk : Nat} {ops R1 : List Nat} (hP : PLr T (ops ++ mk :: R1)) (hmk : 40 ≤ mk) (ho : ∀ x, x ∈ ops → x < 40) (hb : mX9_betweenOf T 0 0 = some (-1, T)) : mX9_behindOne T 0 0 = jX9_behindOne_25 T 0 (-1) (nI R1.length) (nI mk) := by
  obtain ⟨k1, k2, k3, k4⟩ := kind_m hM hP hmk ho
  unfold mX9_behindOne
  rw [hb, Option.bind_some]
  dsimp only
  rw [marker_m hM hP hmk ho, Option.bind_some, if_pos (nI_pos' (by omega)), rm_16 hM, Option.bind_some, k2, Option.bind_some]
theorem j25_eq {T : xS} {b : Nat → Nat} {κ st v bh : Nat} (h : TMk T b κ st v bh) {mk i : Nat} (hmk : mk < 64) : jX9_behindOne_25 T 0 (-1) (nI i) (nI mk) = if κ = 41 ∧ mk = 40 then jX9_behindOne_91 T 0 (nI mk) else if κ = 211 ∧ mk = 43 then jX9_behindOne_91 T 0 (nI mk) else if κ = 63 ∧ mk = 41 then ((mX9_isCompared T 0).bind fun q3 => if (q3.1 = 0 : Prop) then (jX9_behindOne_160 q3.2 0 (nI i) (nI mk)) else (jX9_behindOne_176 q3.2 0 (nI i) (nI mk))) else if κ = 58 ∧ mk = 42 then jX9_behindOne_176 T 0 (nI i) (nI mk) else some (0, T) := by
  have s41 := tk_sign h (c := 41) (by decide)
  have s63 := tk_sign h (c := 63) (by decide)
  have s58 := tk_sign h (c := 58) (by decide)
  have m40 : (nI mk = (40 : Int32)) ↔ mk = 40 := nI_eq (a := mk) (b := 40) (by omega) (by decide)
  have m41 : (nI mk = (41 : Int32)) ↔ mk = 41 := nI_eq (a := mk) (b := 41) (by omega) (by decide)
  have m42 : (nI mk = (42 : Int32)) ↔ mk = 42 := nI_eq (a := mk) (b := 42) (by omega) (by decide)
  have m43 : (nI mk = (43 : Int32)) ↔ mk = 43 := nI_eq (a := mk) (b := 43) (by omega) (by decide)
  have e160 : jX9_behindOne_160 T 0 (nI i) (nI mk) = if κ = 58 ∧ mk = 42 then jX9_behindOne_176 T 0 (nI i) (nI mk) else some (0, T) := by
    unfold jX9_behindOne_160
    by_cases c : κ = 58
    · rw [if_pos (show gI T 0 9 = 58 from s58.mpr c)]
      by_cases d : mk = 42
      · rw [if_pos (m42.mpr d), if_pos ⟨c, d⟩]
      · rw [if_neg (fun q => d (m42.mp q)), if_neg (fun q => d q.2)]
    · rw [if_neg (show ¬ gI T 0 9 = 58 from fun q => c (s58.mp q)), if_neg (fun q => c q.1)]
  have e137 : jX9_behindOne_137 T 0 (nI i) (nI mk) = if κ = 63 ∧ mk = 41 then ((mX9_isCompared T 0).bind fun q3 => if (q3.1 = 0 : Prop) then (jX9_behindOne_160 q3.2 0 (nI i) (nI mk)) else (jX9_behindOne_176 q3.2 0 (nI i) (nI mk))) else if κ = 58 ∧ mk = 42 then jX9_behindOne_176 T 0 (nI i) (nI mk) else some (0, T) := by
    unfold jX9_behindOne_137
    rw [← e160]
    by_cases c : κ = 63
    · rw [if_pos (show gI T 0 9 = 63 from s63.mpr c)]
      by_cases d : mk = 41
      · rw [if_pos (m41.mpr d), if_pos ⟨c, d⟩]
      · rw [if_neg (fun q => d (m41.mp q)), if_neg (fun q => d q.2)]
    · rw [if_neg (show ¬ gI T 0 9 = 63 from fun q => c (s63.mp q)), if_neg (fun q => c q.1)]
  have e68 : jX9_behindOne_68 T 0 (nI i) (nI mk) = if κ = 211 ∧ mk = 43 then jX9_behindOne_91 T 0 (nI mk) else jX9_behindOne_137 T 0 (nI i) (nI mk) := by
    unfold jX9_behindOne_68
    rw [w_end T, Option.bind_some]
    dsimp only
    rw [isWord_m h (j := 11) (by decide) (by decide), Option.bind_some]
    dsimp only
    by_cases c : κ = 211
    · rw [if_pos (show κ = 200 + 11 from c), if_neg n10]
      by_cases d : mk = 43
      · rw [if_pos (m43.mpr d), if_pos ⟨c, d⟩]
      · rw [if_neg (fun q => d (m43.mp q)), if_neg (fun q => d q.2)]
    · rw [if_neg (show ¬ κ = 200 + 11 from c), if_pos rfl, if_neg (fun q => c q.1)]
  unfold jX9_behindOne_25
  rw [if_pos (by decide), ← e137, ← e68]
  by_cases c : κ = 41
  · rw [if_pos (show gI T 0 9 = 41 from s41.mpr c)]
    by_cases d : mk = 40
    · rw [if_pos (m40.mpr d), if_pos ⟨c, d⟩]
    · rw [if_neg (fun q => d (m40.mp q)), if_neg (fun q => d q.2)]
  · rw [if_neg (show ¬ gI T 0 9 = 41 from fun q => c (s41.mp q)), if_neg (fun q => c q.1)]
/-- it stops inside of something: misplaced -/
theorem stop_m {q : Nat} {ie : Bool} {T : xS} {o : Nat} {mk : Nat} {ops R1 : List Nat} {W : Nat} (hTE : TE q ie T o (ops ++ mk :: R1) W 1) (hmk : 40 ≤ mk) (ho : ∀ x, x ∈ ops → x < 40) (hb : mX9_betweenOf T 0 0 = some (-1, T)) (hj : jX9_behindOne_25 T 0 (-1) (nI R1.length) (nI mk) = some (0, T)) (n : Nat) : aut (n + 2) T = some (1, T) := by
  obtain ⟨g1, g2, g3, g4, g5, g6, g7⟩ := hTE
  obtain ⟨k1, k2, k3, k4⟩ := kind_m g1 g5 hmk ho
  unfold aut
  rw [lX9_parsed_12.eq_2, if_neg n10, g7, if_neg n10, behind_no g1 g5 hmk ho hb, hj, Option.bind_some]
  show lX9_parsed_12 (n + 1) T 0 0 0 = _
  rw [lX9_parsed_12.eq_2, if_pos rfl, marker_m g1 g5 hmk ho, Option.bind_some, if_pos (nI_pos' (by omega))]
/-- between the parts of an if -/
theorem tr_mid {len : Nat} {b : Nat → Nat} {q : Nat} {ie : Bool} {S T : xS} {o : Nat} {pend R1 : List Nat} {L W κ st v bh mk : Nat} (h : EN len b q ie S T o (pend ++ mk :: R1) L W κ st v bh 1) (hmk : 40 ≤ mk) (hmk2 : mk < 43) (ho : ∀ x, x ∈ pend → x < 40) (hb : mX9_betweenOf T 0 0 = some (-1, T)) (hj : jX9_behindOne_25 T 0 (-1) (nI R1.length) (nI mk) = jX9_behindOne_176 T 0 (nI R1.length) (nI mk)) (hc : cnt2 pend ≤ o) (ho8 : o ≤ 100) (hκ : κ ≠ 0) {Sx : xS} (hC : RCr Sx) (s23 : gI Sx 23 = gI S 23) (s24 : gI Sx 24 = gI S 24) : ∃ S' T' κ' st' v' bh', mX7_advance Sx 23 = some S' ∧ (∀ n, aut (n + 1) T = aut n T') ∧ FC Sx S' ∧ FE q W T T' ∧ st < st' ∧ TK S' T' len b κ' st' v' bh' ∧ TP S' T' len b ∧ TE q ie T' (o - cnt2 pend) ((mk + 1) :: R1) (W + pend.length) 0 ∧ codL (gI T' 3) (680 * q + 75) (pend.map (fun x => (x, 0))) W := by
  obtain ⟨hS, hTE, hTP, hTK, hq, hL, hW⟩ := h
  have g1 := hTE.1
  have g5 := hTE.2.2.2.2.1
  have g7 := hTE.2.2.2.2.2.2
  obtain ⟨k1, k2, k3, k4⟩ := kind_m g1 g5 hmk ho
  have hlen := hTP.1
  have hbl := hTK.2.2.1
  rw [List.length_append] at hW
  obtain ⟨T1, s1, s2, s3, s4⟩ := hTE.settle hq (least := 1) (by decide) (fun x hx => by
    have := ho x hx
    unfold rk
    repeat' split
    all_goals omega) (fun x r e => by
    cases e
    show rk mk < 1
    unfold rk
    rw [if_pos hmk]
    decide) (by omega) hc (by omega)
  obtain ⟨e1, e2, e3, e4, e5, e6, e7⟩ := s2
  obtain ⟨T2, t2⟩ : ∃ z, z = pI (pI T1 5 R1.length (nI (mk + 1))) 0 19 0 := ⟨_, rfl⟩
  have k2' : ∀ j, j ≠ 19 → gI T2 0 j = gI T1 0 j := fun j hj => by rw [t2, gI_nk _ _ _ _ hj, gI_ne _ _ _ _ (by decide)]
  have c2 : ∀ c, c ≠ 0 → c ≠ 5 → gI T2 c = gI T1 c := fun c h1 h2 => by rw [t2, gIf_ne _ _ _ _ h1, gIf_ne _ _ _ _ h2]
  have hTE2 : TE q ie T2 (o - cnt2 pend) ((mk + 1) :: R1) (W + pend.length) 0 := by
    refine ⟨e1.ofR (by rw [t2]; rfl), (k2' 20 (by decide)).trans e2, (k2' 12 (by decide)).trans e3, (k2' 14 (by decide)).trans e4, ⟨(k2' 17 (by decide)).trans e5.1, e5.2.1, ?_, by omega, ?_⟩, (k2' 18 (by decide)).trans e6, by rw [t2, gI_eq]⟩
    · rw [t2, gI_ne _ _ _ _ (by decide), gI_eq]
    · refine stk_congr R1 (fun i hi => ?_) e5.2.2.2.2
      rw [t2, gI_ne _ _ _ _ (by decide), gI_nk _ _ _ _ (Nat.ne_of_lt hi)]
  have kk : ∀ j, j ≠ 14 → j ≠ 17 → j ≠ 18 → j ≠ 19 → gI T2 0 j = gI T 0 j := fun j h1 h2 h3 h4 => (k2' j h4).trans (s4.2.2.1 j h1 h2 h3)
  obtain ⟨S', T3, κ', st', v', bh', n1, n2, n3, n4, n5, n6, n7⟩ := nxj hTP hTK hC hTE2.1 s23 s24 (kk 4 (by decide) (by decide) (by decide) (by decide)) (kk 7 (by decide) (by decide) (by decide) (by decide)) ((c2 4 (by decide) (by decide)).trans (s4.2.1 4 (by decide) (by decide)))
  have hst := hbl.2.2.1 hκ
  have e3' : gI T2 3 = gI T1 3 := c2 3 (by decide) (by decide)
  have fe2 : FE q W T T2 := ⟨by rw [t2]; show T1.2.2 = T.2.2; rw [s4.1], fun c a b d => (c2 c a d).trans (s4.2.1 c a b), fun j hj => kk j (by omega) (by omega) (by omega) (by omega), fun c _ => by rw [t2]; show T1.2.1 c = T.2.1 c; rw [s4.1], fun i hi => by rw [e3']; exact s4.2.2.2 i hi⟩
  refine ⟨S', T3, κ', st', v', bh', n1, fun n => ?_, n3, fe2.trans n4.fe (Nat.le_refl _), by omega, n6, n7, n4.te hTE2, by rw [n4.2.1 3 (by decide), e3']; exact s3⟩
  unfold aut
  rw [lX9_parsed_12.eq_2, if_neg n10, g7, if_neg n10, behind_no g1 g5 hmk ho hb, hj]
  unfold jX9_behindOne_176
  rw [show (1 : Int32) = nI 1 from rfl, s1, Option.bind_some, rm_16 e1, Option.bind_some, nI_add, sI_nI (Y := Ym) (c := 5) (by show _ < 160; omega) (by decide), Option.bind_some, xlet_eq, ← t2]
  unfold jX9_behindOne_201
  rw [n2, Option.bind_some, Option.bind_some]
  rfl
/-- what was opened is closed: a parenthesis (mk = 40), an if (mk = 43) -/
theorem tr_close {len : Nat} {b : Nat → Nat} {q : Nat} {ie : Bool} {S T : xS} {o k : Nat} {pend R0 : List Nat} {L W κ st v bh mk : Nat} (h : EN len b q ie S T o (pend ++ mk :: (rep2 k ++ R0)) L W κ st v bh 1) (hmk : mk = 40 ∨ mk = 43) (hp : ∀ x, x ∈ pend → x = 3 ∨ x = 4 ∨ x = 5 ∨ x = 6) (hb : mX9_betweenOf T 0 0 = some (-1, T)) (hj : jX9_behindOne_25 T 0 (-1) (nI (rep2 k ++ R0).length) (nI mk) = jX9_behindOne_91 T 0 (nI mk)) (hko : k + 1 ≤ o) (ho8 : o ≤ 100) (hR : noM R0) (hκ : κ ≠ 0) {Sx : xS} (hC : RCr Sx) (s23 : gI Sx 23 = gI S 23) (s24 : gI Sx 24 = gI S 24) : ∃ S' T' κ' st' v' bh', mX7_advance Sx 23 = some S' ∧ (∀ n, aut (n + 1) T = aut n T') ∧ FC Sx S' ∧ FE q W T T' ∧ st < st' ∧ TK S' T' len b κ' st' v' bh' ∧ TP S' T' len b ∧ TE q ie T' (o - 1 - k) R0 (W + pend.length + (if mk = 43 then 1 else 0) + k) 1 ∧ codL (gI T' 3) (680 * q + 75) (pend.map (fun x => (x, 0)) ++ (if mk = 43 then [(23, 0)] else []) ++ (rep2 k).map (fun x => (x, 0))) W := by
  obtain ⟨hS, hTE, hTP, hTK, hq, hL, hW⟩ := h
  have g1 := hTE.1
  have g5 := hTE.2.2.2.2.1
  have g7 := hTE.2.2.2.2.2.2
  have ho : ∀ x, x ∈ pend → x < 40 := fun x hx => by have := hp x hx; omega
  obtain ⟨k1, k2, k3, k4⟩ := kind_m g1 g5 (show 40 ≤ mk by omega) ho
  have hlen := hTP.1
  have hbl := hTK.2.2.1
  have hcn : cnt2 pend = 0 := by
    clear hTE g5 k1 k2 k3 hj hW hS
    induction pend with
    | nil => rfl
    | cons y r ih =>
      have := hp y (by simp)
      show (if y = 2 ∨ y = 20 then 1 else 0) + cnt2 r = 0
      rw [if_neg (by omega), ih (fun x hx => hp x (by simp [hx])) (fun x hx => ho x (by simp [hx]))]
  rw [List.length_append] at hW
  have hl2 : (mk :: (rep2 k ++ R0)).length = (rep2 k ++ R0).length + 1 := rfl
  have hl3 : (rep2 k ++ R0).length = k + R0.length := by rw [List.length_append, rep2_len]
  rw [hl2, hl3] at hW
  obtain ⟨T1, s1, s2, s3, s4⟩ := hTE.settle hq (least := 1) (by decide) (fun x hx => by
    have := ho x hx
    unfold rk
    repeat' split
    all_goals omega) (fun x r e => by
    cases e
    show rk mk < 1
    unfold rk
    rw [if_pos (by omega)]
    decide) (by omega) (by omega) (by omega)
  rw [hcn] at s2
  obtain ⟨e1, e2, e3, e4, e5, e6, e7⟩ := s2
  obtain ⟨T3, t3⟩ : ∃ z, z = pI (pI T1 0 17 (nI (rep2 k ++ R0).length)) 0 18 (nI (o - 1)) := ⟨_, rfl⟩
  have k3' : ∀ j, j ≠ 17 → j ≠ 18 → gI T3 0 j = gI T1 0 j := fun j h1 h2 => by rw [t3, gI_nk _ _ _ _ h2, gI_nk _ _ _ _ h1]
  have c3 : ∀ c, c ≠ 0 → gI T3 c = gI T1 c := fun c h1 => by rw [t3, gIf_ne _ _ _ _ h1, gIf_ne _ _ _ _ h1]
  have hTE3 : TE q ie T3 (o - 1) (rep2 k ++ R0) (W + pend.length) 1 := by
    refine ⟨e1.ofR (by rw [t3]; rfl), (k3' 20 (by decide) (by decide)).trans e2, (k3' 12 (by decide) (by decide)).trans e3, (k3' 14 (by decide) (by decide)).trans e4, ⟨by rw [t3, gI_nk _ _ _ _ (by decide), gI_eq], by omega, by rw [c3 5 (by decide)]; exact e5.2.2.2.2⟩, by rw [t3, gI_eq], (k3' 19 (by decide) (by decide)).trans e7⟩
  -- SELECT, where it was an if
  obtain ⟨T4, u1, u2, u3, u4, u5⟩ : ∃ T4, (if (nI mk = 43 : Prop) then ((mX9_emit T3 0 23 0).bind fun S5 => jX9_behindOne_130 S5 0) else (jX9_behindOne_130 T3 0)) = jX9_behindOne_130 T4 0 ∧ TE q ie T4 (o - 1) (rep2 k ++ R0) (W + pend.length + (if mk = 43 then 1 else 0)) 1 ∧ codL (gI T4 3) (680 * q + 75) (pend.map (fun x => (x, 0)) ++ (if mk = 43 then [(23, 0)] else [])) W ∧ FE q W T1 T4 ∧ (T4.2 = T1.2 ∧ (∀ c, c ≠ 0 → c ≠ 3 → gI T4 c = gI T1 c) ∧ ∀ j, j ≠ 14 → j ≠ 17 → j ≠ 18 → gI T4 0 j = gI T1 0 j) := by
    have fe3 : FE q W T1 T3 := ⟨by rw [t3]; rfl, fun c a _ _ => c3 c a, fun j hj => k3' j (by omega) (by omega), fun c _ => by rw [t3]; rfl, fun i _ => by rw [c3 3 (by decide)]⟩
    by_cases hm : mk = 43
    · obtain ⟨f1, f2, f3, f4, f5, f6, f7⟩ := id hTE3
      obtain ⟨T4, m1, m2, m3, m4, m5, m6, m7, m8⟩ := emit_m f1 (o := 23) (v := 0) hq (show W + pend.length ≤ 301 by omega) f3 f4
      refine ⟨T4, by rw [if_pos (show nI mk = (43 : Int32) by rw [hm]; rfl), m1]; rfl, ?_, ?_, ?_, by rw [m2, t3]; rfl, fun c a b => (m3 c a b).trans (c3 c a), fun j a b d => (m4 j a).trans (k3' j b d)⟩
      · rw [if_pos hm]
        exact ⟨f1.ofR (by rw [m2]), (m4 20 (by decide)).trans f2, (m4 12 (by decide)).trans f3, m5, ⟨(m4 17 (by decide)).trans f5.1, f5.2.1, by rw [m3 5 (by decide) (by decide)]; exact f5.2.2⟩, (m4 18 (by decide)).trans f6, (m4 19 (by decide)).trans f7⟩
      · rw [if_pos hm, codL_app]
        refine ⟨codL_congr _ _ (fun i h1 h2 => ?_) s3, ?_, ?_, trivial⟩
        · rw [List.length_map] at h2
          rw [m8 i (by omega) (by omega), c3 3 (by decide)]
        · rw [List.length_map]; exact m6
        · rw [List.length_map]; exact m7
      · exact fe3.trans (W' := W) ⟨by rw [m2], fun c a b _ => m3 c a b, fun j hj => m4 j (by omega), fun c _ => by rw [m2], fun i hi => m8 i (by omega) (by omega)⟩ (Nat.le_refl _)
    · refine ⟨T3, by rw [if_neg (show ¬ nI mk = (43 : Int32) from fun e => hm ((nI_eq (a := mk) (b := 43) (by omega) (by decide)).mp e))], ?_, ?_, fe3, by rw [t3]; rfl, fun c a _ => c3 c a, fun j _ a b => k3' j a b⟩
      · rw [if_neg hm]; exact hTE3
      · rw [if_neg hm, List.append_nil, c3 3 (by decide)]; exact s3
  obtain ⟨T5, w1, w2, w3, w4⟩ := whole_m u2 hq hR (by
    have : (if mk = 43 then 1 else 0) ≤ 1 := by split <;> omega
    omega) (by omega) (by omega)
  have k5 : ∀ j, j ≠ 14 → j ≠ 17 → j ≠ 18 → j ≠ 19 → gI T5 0 j = gI T 0 j := fun j h1 h2 h3 h4 => (w4.2.2.1 j h1 h2 h3).trans ((gI_nk _ _ _ _ h4).trans ((u5.2.2 j h1 h2 h3).trans (s4.2.2.1 j h1 h2 h3)))
  have c5 : ∀ c, c ≠ 0 → c ≠ 3 → gI T5 c = gI T c := fun c h1 h2 => (w4.2.1 c h1 h2).trans ((gIf_ne _ _ _ _ h1).trans ((u5.2.1 c h1 h2).trans (s4.2.1 c h1 h2)))
  obtain ⟨S', T6, κ', st', v', bh', n1, n2, n3, n4, n5, n6, n7⟩ := nxj hTP hTK hC w2.1 s23 s24 (k5 4 (by decide) (by decide) (by decide) (by decide)) (k5 7 (by decide) (by decide) (by decide) (by decide)) (c5 4 (by decide) (by decide))
  have hst := hbl.2.2.1 hκ
  have fe5 : FE q W T T5 := by
    refine ⟨by rw [w4.1]; show T4.2.2 = T.2.2; rw [u5.1, s4.1], fun c a b _ => c5 c a b, fun j hj => k5 j (by omega) (by omega) (by omega) (by omega), fun c _ => by rw [w4.1]; show T4.2.1 c = T.2.1 c; rw [u5.1, s4.1], fun i hi => ?_⟩
    rw [w4.2.2.2 i (by omega), gI_ne _ _ _ _ (by decide), u4.2.2.2.2 i hi, s4.2.2.2 i hi]
  refine ⟨S', T6, κ', st', v', bh', n1, fun n => ?_, n3, fe5.trans n4.fe (Nat.le_refl _), by omega, n6, n7, n4.te w2, ?_⟩
  · unfold aut
    rw [lX9_parsed_12.eq_2, if_neg n10, g7, if_neg n10, behind_no g1 g5 (by omega) ho hb, hj]
    unfold jX9_behindOne_91
    rw [show (1 : Int32) = nI 1 from rfl, s1, Option.bind_some, xlet_eq, e5.1, hl2, show nI ((rep2 k ++ R0).length + 1) - nI 1 = nI (rep2 k ++ R0).length from nI_pred _, xlet_eq, gI_nk _ _ _ _ (by decide), e6, Nat.sub_zero, pk_sub (show 1 ≤ o by omega), ← t3, u1]
    unfold jX9_behindOne_130 jX9_behindOne_201
    rw [w1, Option.bind_some, n2, Option.bind_some, Option.bind_some]
    rfl
  · rw [n4.2.1 3 (by decide), codL_app]
    have hlc : (pend.map (fun x => (x, 0)) ++ (if mk = 43 then [(23, 0)] else []) : List (Nat × Nat)).length = pend.length + (if mk = 43 then 1 else 0) := by
      rw [List.length_append, List.length_map]
      split <;> rfl
    refine ⟨codL_congr _ _ (fun i h1 h2 => ?_) u3, ?_⟩
    · rw [hlc] at h2
      rw [w4.2.2.2 i (Or.inl (by omega)), gI_ne _ _ _ _ (by decide)]
    · rw [hlc, ← Nat.add_assoc]; exact w3

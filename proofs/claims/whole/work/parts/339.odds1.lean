/-! odds: chances spread, side by side -/
theorem addC {S : xS} {c X : Nat} {p1 p2 : Int32} {g : Int64} (hx : xn Yc c = 976) (e : p1 * 61 + p2 = nI X) (hX : X < 976) : mX2_addChance S c p1 p2 g = some (pJ S c X (gJ S c X + g)) := by
  unfold mX2_addChance
  rw [e, hx, if_neg (nI_pos (by omega)), if_neg (show ¬ Int32.ofNat 976 ≤ nI X from nI_ge (a := X) (b := 976) hX (by decide)), aJ_nI (by rw [hx]; exact hX) (by rw [hx]; decide), Option.bind_some, sJ_nI (by rw [hx]; exact hX) (by rw [hx]; decide)]
  rfl
theorem add3 (a u v : Int64) : a + u + v = a + v + u := by rw [Int64.add_assoc, Int64.add_comm u v, ← Int64.add_assoc]
/-- two chances added, in this order or the other -/
theorem two_add {S T : xS} {ca X Y : Nat} {u v : Int64} (h : ∀ j, j < 976 → gJ S ca j = gJ T 10 j) (hX : X < 976) (hY : Y < 976) : ∀ j, j < 976 → gJ (pJ (pJ S ca X (gJ S ca X + u)) ca Y (gJ (pJ S ca X (gJ S ca X + u)) ca Y + v)) ca j = gJ (pJ (pJ T 10 Y (gJ T 10 Y + v)) 10 X (gJ (pJ T 10 Y (gJ T 10 Y + v)) 10 X + u)) 10 j := by
  intro j hj
  by_cases e : X = Y
  · subst e
    by_cases e1 : j = X
    · subst e1
      rw [gJ_eq, gJ_eq, gJ_eq, gJ_eq, h j hj, add3]
    · rw [gJ_nk _ _ _ _ e1, gJ_nk _ _ _ _ e1, gJ_nk _ _ _ _ e1, gJ_nk _ _ _ _ e1, h j hj]
  · rw [gJ_nk (k' := Y) _ _ _ _ (fun q => e q.symm), gJ_nk (k' := X) _ _ _ _ e]
    by_cases e1 : j = X
    · subst e1
      rw [gJ_nk _ _ _ _ e, gJ_eq, gJ_eq, h j hj]
    · by_cases e2 : j = Y
      · subst e2
        rw [gJ_eq, gJ_nk _ _ _ _ e1, gJ_eq, h j hj]
      · rw [gJ_nk _ _ _ _ e2, gJ_nk _ _ _ _ e1, gJ_nk _ _ _ _ e1, gJ_nk _ _ _ _ e2, h j hj]
theorem two_nz {T : xS} {X Y : Nat} {u v : Int64} {P : Nat → Prop} (h : ∀ j, j < 976 → ¬ gJ T 10 j = 0 → P j) (hX : P X) (hY : P Y) : ∀ j, j < 976 → ¬ gJ (pJ (pJ T 10 Y (gJ T 10 Y + v)) 10 X (gJ (pJ T 10 Y (gJ T 10 Y + v)) 10 X + u)) 10 j = 0 → P j := by
  intro j hj hn
  by_cases e1 : j = X
  · rw [e1]; exact hX
  · by_cases e2 : j = Y
    · rw [e2]; exact hY
    · rw [gJ_nk _ _ _ _ e1, gJ_nk _ _ _ _ e2] at hn
      exact h j hj hn
def OI (Sc Sm S T : xS) (cc ca t k set first i : Nat) : Prop := CE Sc S ∧ ME Sm T ∧ (gR S 17 5 = some cc ∧ gR S 17 6 = some ca) ∧ (∃ dd ll, MK T t dd ll k set) ∧ (∀ j, j < 976 → gJ S cc j = gJ T 9 j) ∧ ∀ j, j < 976 → ¬ gJ T 9 j = 0 → j / 61 ≤ i ∧ first + j / 61 < 1000
theorem dO_long {c : Nat} (h : c = 21 ∨ c = 22) : dO Yc (some c) 11 = some c ∧ xn Yc c = 976 := by
  rcases h with rfl | rfl <;> exact ⟨rfl, rfl⟩
theorem bakeD_ge {d l k : Nat} : d ≤ bakeD d l k := by unfold bakeD; split <;> omega
theorem spr_go {Sc Sm : xS} {nS sc w mi : Nat} {sl : Nat → Nat → Nat → Nat} {ea : Nat → Nat → Nat → Nat → Nat → Nat} (hR : RO Sc Sm nS sc w mi sl ea) {t k set d0 l0 i cc ca : Nat} (ht : t < 2) (hset : set < 2 ^ nS) (hk : k ≤ 60) (hi : i ≤ 14) (hd0 : d0 < 1000) (hc3 : gI Sc 2 (3 * t) = nI d0 ∧ gI Sc 2 (3 * t + 1) = nI l0 ∧ gI Sc 2 (3 * t + 2) = nI k) (hcc : cc = 21 ∨ cc = 22) (hca : ca = 21 ∨ ca = 22) (hne : cc ≠ ca) : ∀ e at' n m S T, e + at' = 976 → e < n → e < m → OI Sc Sm S T cc ca t k set d0 i → (∀ j, j < 976 → gJ S ca j = gJ T 10 j) → (∀ j, j < 976 → ¬ gJ T 10 j = 0 → j / 61 ≤ i + 1 ∧ d0 + j / 61 < 1000) → ∃ S' T', lX2_spreadChances_30 n S 17 (nI t) (nI d0) (nI i) (nI set) (nI mi) (nI at') = some S' ∧ lX9_spread_24 m T 0 (nI d0) (nI (w + i + 1)) (nI at') = some T' ∧ OI Sc Sm S' T' ca cc t k set d0 (i + 1) := by
  have hn6 := hR.1.2.2.2.2.2.2.1
  have hw := hR.2.2.2.1
  have hmi := hR.2.2.2.2.2.2.1
  obtain ⟨dcc, xcc⟩ := dO_long hcc
  obtain ⟨dca, xca⟩ := dO_long hca
  intro e
  induction e with
  | zero =>
    intro at' n m S T hat hn hm hO hA hZ
    obtain ⟨n, rfl⟩ : ∃ z, n = z + 1 := ⟨n - 1, by omega⟩
    obtain ⟨m, rfl⟩ : ∃ z, m = z + 1 := ⟨m - 1, by omega⟩
    have hat : at' = 976 := by omega
    subst hat
    obtain ⟨o1, o2, o3, ⟨dd, ll, o4⟩, o5, o6⟩ := hO
    obtain ⟨T', q1, q2, q3, q4⟩ := back_go 976 0 5000 T rfl (by decide) o2.1 (fun j hj => absurd hj (Nat.not_lt_zero _))
    refine ⟨pR (pR S 17 5 (gR S 17 6)) 17 6 (gR S 17 5), T', ?_, ?_, ?_⟩
    · rw [lX2_spreadChances_30.eq_2, if_pos (by decide)]
      rfl
    · rw [lX9_spread_24.eq_2, if_pos (by decide)]
      exact q1
    · have g5 : gR (pR (pR S 17 5 (gR S 17 6)) 17 6 (gR S 17 5)) 17 5 = some ca := by rw [gR_pR, if_neg (by decide), gR_pR, if_pos ⟨rfl, rfl⟩]; exact o3.2
      have g6 : gR (pR (pR S 17 5 (gR S 17 6)) 17 6 (gR S 17 5)) 17 6 = some cc := by rw [gR_pR, if_pos ⟨rfl, rfl⟩]; exact o3.1
      have gR' : ∀ c k, ¬ (c = 17 ∧ (k = 5 ∨ k = 6)) → gR (pR (pR S 17 5 (gR S 17 6)) 17 6 (gR S 17 5)) c k = gR S c k := fun c k h => by rw [gR_pR, if_neg (fun q => h ⟨q.1, Or.inr q.2⟩), gR_pR, if_neg (fun q => h ⟨q.1, Or.inl q.2⟩)]
      refine ⟨⟨?_, ?_, ?_, o1.2.2.2⟩, ⟨o2.1.ofR q3, fun c a b => by unfold gI; rw [q2]; exact o2.2.1 c a b, fun k hk => by unfold gI; rw [q2]; exact o2.2.2 k hk⟩, ⟨g5, g6⟩, ⟨dd, ll, by unfold MK gI; rw [q2]; exact o4⟩, fun j hj => ?_, fun j hj hn => ?_⟩
      · have := o1.1
        unfold RCr at this ⊢
        simp (disch := decide) only [gR']
        exact this
      · rw [gR' _ _ (by decide)]; exact o1.2.1
      · unfold K5
        rw [g5, g6]
        rcases hcc with rfl | rfl <;> rcases hca with rfl | rfl
        · exact absurd rfl hne
        · exact Or.inr ⟨rfl, rfl⟩
        · exact Or.inl ⟨rfl, rfl⟩
        · exact absurd rfl hne
      · rw [q4 j hj]; exact hA j hj
      · rw [q4 j hj] at hn; exact hZ j hj hn
  | succ e ih =>
    intro at' n m S T hat hn hm hO hA hZ
    obtain ⟨n, rfl⟩ : ∃ z, n = z + 1 := ⟨n - 1, by omega⟩
    obtain ⟨m, rfl⟩ : ∃ z, m = z + 1 := ⟨m - 1, by omega⟩
    obtain ⟨o1, o2, o3, ⟨dd, ll, o4⟩, o5, o6⟩ := id hO
    rw [lX2_spreadChances_30.eq_2, if_neg (show ¬ (976 : Int32) ≤ nI at' from nI_ge (a := at') (b := 976) (by omega) (by decide)), o3.1, dcc, Option.bind_some, aJ_nI (by rw [xcc]; omega) (by rw [xcc]; decide), Option.bind_some, o5 at' (by omega), lX9_spread_24.eq_2, if_neg (show ¬ (976 : Int32) ≤ nI at' from nI_ge (a := at') (b := 976) (by omega) (by decide)), rm_30 o2.1, Option.bind_some, aJ_nI (Y := Ym) (c := 9) (by show _ < 976; omega) (by decide), Option.bind_some, nI_1]
    by_cases hz : gJ T 9 at' = 0
    · rw [if_pos ((lg_cmp_eq _ _).mpr hz), if_pos ((lg_cmp_eq _ _).mpr hz)]
      exact ih (at' + 1) n m S T (by omega) (by omega) (by omega) hO hA hZ
    · obtain ⟨z1, z2⟩ := o6 at' (by omega) hz
      rw [if_neg (fun q => hz ((lg_cmp_eq _ _).mp q)), if_neg (fun q => hz ((lg_cmp_eq _ _).mp q))]
      obtain ⟨g, hg⟩ : ∃ z, z = gJ T 9 at' := ⟨_, rfl⟩
      rw [← hg]
      -- the class's cake
      obtain ⟨S9, l1, l2, l3⟩ := hR.load (q := 18) (Or.inr rfl) ht o1 hc3
      have hS9 := l3.ce (Or.inr rfl) o1
      obtain ⟨S11, e11⟩ : ∃ z, z = pI S9 18 1 (nI (d0 + at' / 61)) := ⟨_, rfl⟩
      have f11 : FrX 18 S9 S11 := by rw [e11]; exact FrX.pI
      have hS11 := f11.ce (Or.inr rfl) hS9
      obtain ⟨S13, e13⟩ : ∃ z, z = pI S11 18 2 (nI (at' % 61)) := ⟨_, rfl⟩
      have f13 : FrX 18 S11 S13 := by rw [e13]; exact FrX.pI
      have hS13 := f13.ce (Or.inr rfl) hS11
      have w13 : gI S13 18 4 = nI w := by rw [e13, gI_nk _ _ _ _ (by decide), e11, gI_nk _ _ _ _ (by decide)]; exact l2.2.2.2.2
      obtain ⟨S15, e15⟩ : ∃ z, z = pI S13 18 4 (nI (w + i)) := ⟨_, rfl⟩
      have f15 : FrX 18 S13 S15 := by rw [e15]; exact FrX.pI
      have hS15 := f15.ce (Or.inr rfl) hS13
      have ck15 : CK 18 S15 t (d0 + at' / 61) (at' % 61) k (w + i) := by
        refine ⟨?_, ?_, ?_, ?_, ?_⟩
        · rw [e15, gI_nk _ _ _ _ (by decide), e13, gI_nk _ _ _ _ (by decide), e11, gI_nk _ _ _ _ (by decide)]; exact l2.1
        · rw [e15, gI_nk _ _ _ _ (by decide), e13, gI_nk _ _ _ _ (by decide), e11, gI_eq]
        · rw [e15, gI_nk _ _ _ _ (by decide), e13, gI_eq]
        · rw [e15, gI_nk _ _ _ _ (by decide), e13, gI_nk _ _ _ _ (by decide), e11, gI_nk _ _ _ _ (by decide)]; exact l2.2.2.2.1
        · rw [e15, gI_eq]
      have hl61 : at' % 61 ≤ 60 := by omega
      obtain ⟨S18, c1, c2, c3⟩ := hR.1.dawn_c hS15.cb (Or.inr rfl) ht z2 hl61 hk (by omega) hset ck15
      have hS18 := c3.ce (Or.inr rfl) hS15
      have fr18 := (((l3.trans f11).trans f13).trans f15).trans c3
      obtain ⟨d', hd'⟩ : ∃ z, z = bakeD (d0 + at' / 61) (at' % 61) k := ⟨_, rfl⟩
      obtain ⟨l', hl'⟩ : ∃ z, z = dawnL sl ea nS set t (d0 + at' / 61) (at' % 61) k (w + i + 1) := ⟨_, rfl⟩
      have hl60 : l' ≤ 60 := by rw [hl']; exact dawnL_le hR.1.1 hl61
      have hd1 : d' ≤ d0 + at' / 61 + 1 := by rw [hd']; exact bakeD_le
      have hd2 : d0 + at' / 61 ≤ d' := by rw [hd']; exact bakeD_ge
      have hd3 : d' < 1000 := by rw [hd']; exact bakeD_lt z2
      rw [← hd', ← hl'] at c2
      have hX : (d' - d0) * 61 + l' < 976 := by omega
      have hY : (d' - d0) * 61 + (l' - 1) < 976 := by omega
      have ix : ∀ z, (nI d' - nI d0) * 61 + nI z = nI ((d' - d0) * 61 + z) := fun z => by rw [pk_sub (by omega), show (61 : Int32) = nI 61 from rfl, pk_mul, nI_add]
      have r18 : gR S18 17 6 = some ca := by
        have : S18.2 = S.2 := fr18.1
        unfold gR
        rw [this]
        exact o3.2
      obtain ⟨S22, e22⟩ : ∃ z, z = pJ S18 ca ((d' - d0) * 61 + l') (gJ S18 ca ((d' - d0) * 61 + l') + g * ((10 - nI mi : Int32).toInt64)) := ⟨_, rfl⟩
      have hS22 : CE Sc S22 := hS18.go (by rw [e22]; rfl) (fun c _ => by rw [e22]; rfl)
      have ck22 : CK 18 S22 t d' l' k (w + i + 1) := by rw [e22]; exact c2
      obtain ⟨S24, s1, s2, s3⟩ := lose_c hl60 ck22
      have hS24 := s3.ce (Or.inr rfl) hS22
      obtain ⟨S28, e28⟩ : ∃ z, z = pJ S24 ca ((d' - d0) * 61 + (l' - 1)) (gJ S24 ca ((d' - d0) * 61 + (l' - 1)) + g * ((nI mi : Int32).toInt64)) := ⟨_, rfl⟩
      have hS28 : CE Sc S28 := hS24.go (by rw [e28]; rfl) (fun c _ => by rw [e28]; rfl)
      have J24 : ∀ c j, gJ S24 c j = gJ S22 c j := fun c j => by unfold gJ; rw [s3.1]
      have J18 : ∀ c j, gJ S18 c j = gJ S c j := fun c j => by unfold gJ; rw [fr18.1]
      have R28 : ∀ c j, gR S28 c j = gR S c j := fun c j => by
        rw [e28]
        show gR S24 c j = gR S c j
        unfold gR
        rw [s3.1, e22]
        show S18.2.2 c j = S.2.2 c j
        rw [fr18.1]
      -- the reference's
      obtain ⟨T6, e6⟩ : ∃ z, z = pI (pI T 0 26 (nI (d0 + at' / 61))) 0 27 (nI (at' % 61)) := ⟨_, rfl⟩
      have y6 : FrY T T6 := by rw [e6]; exact (FrY.pI (by decide)).trans (FrY.pI (by decide))
      have hT6 := y6.me o2
      have mk6 : MK T6 t (d0 + at' / 61) (at' % 61) k set := ⟨by rw [e6, gI_nk _ _ _ _ (by decide), gI_nk _ _ _ _ (by decide)]; exact o4.1, by rw [e6, gI_nk _ _ _ _ (by decide), gI_eq], by rw [e6, gI_eq], by rw [e6, gI_nk _ _ _ _ (by decide), gI_nk _ _ _ _ (by decide)]; exact o4.2.2.2.1, by rw [e6, gI_nk _ _ _ _ (by decide), gI_nk _ _ _ _ (by decide)]; exact o4.2.2.2.2⟩
      obtain ⟨T7, g1, g2, g3⟩ := hR.1.goOn_m (w := w + i + 1) hT6.mb 0 (by decide) ht z2 hl61 hk (by omega) (set64 hset hn6) mk6
      have hT7 := g3.me hT6
      have y7 := y6.trans g3
      have g2 : MK T7 t d' l' k set := by rw [hd', hl']; exact g2
      have J7 : ∀ c j, c ≠ 7 → gJ T7 c j = gJ T c j := fun c j hc => by unfold gJ; rw [y7.2.1 c hc]
      obtain ⟨T13, e13'⟩ : ∃ z, z = pJ (pJ T7 10 ((d' - d0) * 61 + (l' - 1)) (gJ T7 10 ((d' - d0) * 61 + (l' - 1)) + g * ((nI mi : Int32).toInt64))) 10 ((d' - d0) * 61 + l') (gJ (pJ T7 10 ((d' - d0) * 61 + (l' - 1)) (gJ T7 10 ((d' - d0) * 61 + (l' - 1)) + g * ((nI mi : Int32).toInt64))) 10 ((d' - d0) * 61 + l') + g * ((10 - nI mi : Int32).toInt64)) := ⟨_, rfl⟩
      have hT13 : ME Sm T13 := hT7.go (by rw [e13']; rfl) (fun c _ _ => by rw [e13']; rfl) (fun k _ => by rw [e13']; rfl)
      have j105 : jX9_spread_105 (lX9_spread_24 m) T7 0 (nI d0) (nI (w + i + 1)) (nI at') (nI ((d' - d0) * 61 + l')) (nI ((d' - d0) * 61 + (l' - 1))) 10 = lX9_spread_24 m T13 0 (nI d0) (nI (w + i + 1)) (nI (at' + 1)) := by
        unfold jX9_spread_105
        have m2 : ∀ Z : xS, ME Sm Z → aI Ym Z 1 2 = some (nI mi) := fun Z hZ' => by rw [aI_lit (Y := Ym) (c := 1) (i := 2) 2 rfl (by decide) (by decide), hZ'.2.1 1 (by omega) (by omega), hmi.2.2]
        rw [aJ_nI (Y := Ym) (c := 10) (by show _ < 976; omega) (by decide), Option.bind_some, rm_30 hT7.1, Option.bind_some, aJ_nI (Y := Ym) (c := 9) (by show _ < 976; omega) (by decide), Option.bind_some, rm_0 hT7.1, Option.bind_some, m2 T7 hT7, Option.bind_some, J7 9 at' (by decide), ← hg, sJ_nI (Y := Ym) (c := 10) (by show _ < 976; omega) (by decide), Option.bind_some]
        obtain ⟨T9, e9⟩ : ∃ z, z = pJ T7 10 ((d' - d0) * 61 + (l' - 1)) (gJ T7 10 ((d' - d0) * 61 + (l' - 1)) + g * ((nI mi : Int32).toInt64)) := ⟨_, rfl⟩
        have hT9 : ME Sm T9 := hT7.go (by rw [e9]; rfl) (fun c _ _ => by rw [e9]; rfl) (fun k _ => by rw [e9]; rfl)
        rw [e13', ← e9, rm_31 hT9.1, Option.bind_some, aJ_nI (Y := Ym) (c := 10) (by show _ < 976; omega) (by decide), Option.bind_some, rm_30 hT9.1, Option.bind_some, aJ_nI (Y := Ym) (c := 9) (by show _ < 976; omega) (by decide), Option.bind_some, rm_0 hT9.1, Option.bind_some, m2 T9 hT9, Option.bind_some, show gJ T9 9 at' = g by rw [e9, gJ_ne _ _ _ _ (by decide), J7 9 at' (by decide), hg], sJ_nI (Y := Ym) (c := 10) (by show _ < 976; omega) (by decide), Option.bind_some, nI_1]
      obtain ⟨S', T', r1, r2, r3⟩ := ih (at' + 1) n m S28 T13 (by omega) (by omega) (by omega) ⟨hS28, hT13, ⟨(R28 17 5).trans o3.1, (R28 17 6).trans o3.2⟩, ⟨d', l', by rw [e13']; exact g2⟩, fun j hj => by
          rw [e28, gJ_ne _ _ _ _ hne, J24, e22, gJ_ne _ _ _ _ hne, J18, e13', gJ_ne _ _ _ _ (by decide), gJ_ne _ _ _ _ (by decide), J7 9 j (by decide)]
          exact o5 j hj, fun j hj hn => by
          rw [e13', gJ_ne _ _ _ _ (by decide), gJ_ne _ _ _ _ (by decide), J7 9 j (by decide)] at hn
          exact o6 j hj hn⟩ (fun j hj => by
          have h2 := two_add (S := S18) (T := T7) (ca := ca) (u := g * ((10 - nI mi : Int32).toInt64)) (v := g * ((nI mi : Int32).toInt64)) (fun j hj => by rw [J18, J7 10 j (by decide)]; exact hA j hj) hX hY j hj
          rw [e13', ← h2, e28]
          by_cases hjj : j = (d' - d0) * 61 + (l' - 1)
          · rw [hjj, gJ_eq, gJ_eq, J24, e22]
          · rw [gJ_nk _ _ _ _ hjj, gJ_nk _ _ _ _ hjj, J24, e22]) (fun j hj hn => by
          rw [e13'] at hn
          refine two_nz (T := T7) (P := fun j => j / 61 ≤ i + 1 ∧ d0 + j / 61 < 1000) (fun j hj hn => ?_) ?_ ?_ j hj hn
          · rw [J7 10 j (by decide)] at hn; exact hZ j hj hn
          · show ((d' - d0) * 61 + l') / 61 ≤ i + 1 ∧ d0 + ((d' - d0) * 61 + l') / 61 < 1000
            omega
          · show ((d' - d0) * 61 + (l' - 1)) / 61 ≤ i + 1 ∧ d0 + ((d' - d0) * 61 + (l' - 1)) / 61 < 1000
            omega)
      refine ⟨S', T', ?_, ?_, r3⟩
      · rw [rc_17_2 o1.1, Option.bind_some, rc_17_0 o1.1, Option.bind_some, l1, Option.bind_some, rc_17_2 hS9.1, Option.bind_some, xlet_eq, show nI d0 + nI at' / 61 = nI (d0 + at' / 61) by rw [show (61 : Int32) = nI 61 from rfl, pk_div (by omega) (by decide) (by decide), nI_add], ← e11, rc_17_2 hS11.1, Option.bind_some, xlet_eq, show nI at' - nI at' / 61 * 61 = nI (at' % 61) by rw [show (61 : Int32) = nI 61 from rfl, pk_rem (by omega) (by decide) (by decide)], ← e13, rc_17_2 hS13.1, Option.bind_some, xlet_eq, w13, nI_add, ← e15, rc_17_1 hS15.1, Option.bind_some, rc_17_2 hS15.1, Option.bind_some, c1, Option.bind_some]
        dsimp only
        rw [r18, dca, Option.bind_some, rc_17_2 hS18.1, Option.bind_some, Option.bind_some, c2.2.1, c2.2.2.1, addC xca (ix l') hX, Option.bind_some, ← e22, rc_17_2 hS22.1, Option.bind_some, s1, Option.bind_some]
        dsimp only
        rw [show gR S24 17 6 = some ca from (by have := R28 17 6; rw [e28] at this; exact this.trans o3.2), dca, Option.bind_some, rc_17_2 hS24.1, Option.bind_some, Option.bind_some, s2.2.1, s2.2.2.1, addC xca (ix (l' - 1)) hY, Option.bind_some, ← e28]
        exact r1
      · rw [xlet_eq, show nI d0 + nI at' / 61 = nI (d0 + at' / 61) by rw [show (61 : Int32) = nI 61 from rfl, pk_div (by omega) (by decide) (by decide), nI_add], xlet_eq, show nI at' - nI at' / 61 * 61 = nI (at' % 61) by rw [show (61 : Int32) = nI 61 from rfl, pk_rem (by omega) (by decide) (by decide)], ← e6, show (0 : Int32) = nI 0 from rfl, g1, Option.bind_some, xlet_eq, g2.2.1, g2.2.2.1, Int32.mul_comm, ix l', rm_31 hT7.1, Option.bind_some]
        by_cases hl0 : l' = 0
        · rw [if_pos (show nI l' ≤ nI 0 by rw [hl0]; decide)]
          have : l' - 1 = l' := by omega
          rw [this] at j105
          rw [j105]
          exact r2
        · rw [if_neg (show ¬ nI l' ≤ nI 0 from nI_ge (by omega) (by omega)), show nI ((d' - d0) * 61 + l') - 1 = nI ((d' - d0) * 61 + (l' - 1)) by rw [show (1 : Int32) = nI 1 from rfl, pk_sub (by omega)]; congr 1; omega, j105]
          exact r2

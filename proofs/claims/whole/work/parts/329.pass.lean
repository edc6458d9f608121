/-! pass: one table's dawn, done -/
def paL (mi x l1 : Nat) : Nat := if mi ≤ x % 10 then l1 else l1 - 1
def paE (mi x b l1 : Nat) : Nat := (b - l1) + (if mi ≤ x % 10 then 0 else if l1 = 0 then 0 else 1)
def nxt (x : Nat) : Nat := (x * 173 + 79) % 30089
theorem nxt_lt (x : Nat) : nxt x < 30089 := Nat.mod_lt _ (by decide)
theorem nxt_eq {x : Nat} (hx : x < 30089) : ((nI x * 173) + 79) - ((nI x * 173) + 79) / 30089 * 30089 = nI (nxt x) := by
  rw [show (173 : Int32) = nI 173 from rfl, show (79 : Int32) = nI 79 from rfl, show (30089 : Int32) = nI 30089 from rfl, pk_mul, nI_add, pk_rem (by omega) (by decide) (by decide)]
  rfl
theorem r10_eq {x : Nat} (hx : x < 30089) : nI x - nI x / 10 * 10 = nI (x % 10) := by
  rw [show (10 : Int32) = nI 10 from rfl, pk_rem (by omega) (by decide) (by decide)]
theorem drawn_c {S : xS} (hC : RCr S) {x mi : Nat} (hx : x < 30089) (hm : mi < 11) (h1 : gI S 2 13 = nI x) (h2 : gI S 1 6 = nI mi) : mX3_drawnForMice S 12 = some (if mi ≤ x % 10 then 0 else 1, pI S 2 13 (nI (nxt x))) := by
  unfold mX3_drawnForMice
  rw [rc_12_0 hC, Option.bind_some, get_eq (i := 13) 13 rfl (by decide) (rc_1_0 hC) rfl, Option.bind_some]
  dsimp only
  rw [rc_12_0 hC, Option.bind_some, put_eq (i := 13) 13 rfl (by decide) (rc_1_0 hC) rfl, Option.bind_some, gR_pI, rc_12_0 hC, Option.bind_some, gI_ne _ _ _ _ (by decide), h2, h1, nxt_eq hx, r10_eq hx]
  by_cases h : mi ≤ x % 10
  · rw [if_pos (nI_le h (by omega)), if_pos h]
  · rw [if_neg (nI_ge (by omega) (by omega)), if_neg h]
theorem j77_eq {S : xS} (hC : RCr S) {k21 : xS → Nat → Int32 → Int32 → Int32 → Option (Int32 × xS)} {v1 v2 : Int32} {t d l k w : Nat} (ht : t < 2) (hk : CK 13 S t d l k w) : jX3_dawnForAll_77 k21 S 12 v1 v2 (nI t) = k21 (pI (pI S 2 (3 * t) (nI d)) 2 (3 * t + 1) (nI l)) 12 v1 v2 (nI (t + 1)) := by
  unfold jX3_dawnForAll_77
  rw [rc_12_0 hC, Option.bind_some, dayAt_eq ht, Option.bind_some]
  dsimp only
  rw [rc_12_1 hC, Option.bind_some, put_eq (3 * t) rfl (by omega) (rc_1_0 hC) rfl, Option.bind_some, gR_pI, rc_12_0 hC, Option.bind_some, leftAt_eq ht, Option.bind_some]
  dsimp only
  rw [gR_pI, rc_12_1 hC, Option.bind_some, put_eq (S := pI S (1 + 1) (3 * t) (gI S 13 1)) (3 * t + 1) rfl (by omega) (by rw [gR_pI]; exact rc_1_0 hC) rfl, Option.bind_some, gI_ne _ _ _ _ (show 13 ≠ 1 + 1 by decide), hk.2.1, hk.2.2.1, nI_1]
theorem lose_o {S S' : xS} {q : Nat} {r : Int32} (h : mX0_loseSlice S q = some (r, S')) : ∀ c, c ≠ q → gI S' c = gI S c := by
  intro c hc
  unfold mX0_loseSlice at h
  split at h
  · cases h
    exact gIf_ne _ _ _ _ hc
  · cases h
    rfl
theorem pass_c {Sc Sm : xS} {nS : Nat} {sl : Nat → Nat → Nat → Nat} {ea : Nat → Nat → Nat → Nat → Nat → Nat} (hL : LW Sc Sm nS sl ea) {S : xS} (hS : CB Sc S) {mi x w t d l k set a n : Nat} {v2 : Int32} (h5 : gI S 1 5 = nI nS) (h6 : gI S 1 6 = nI mi) (hm : mi < 11) (h13 : gI S 2 13 = nI x) (hx : x < 30089) (h12 : gI S 2 12 = nI w) (hw : w < 1000) (ht : t < 2) (hd : d < 1000) (hl : l ≤ 60) (hk : k ≤ 60) (g0 : gI S 2 (3 * t) = nI d) (g1 : gI S 2 (3 * t + 1) = nI l) (g2 : gI S 2 (3 * t + 2) = nI k) (hset : sitP (fun s => gI S 2 (6 + s)) (nI t) nS = set) : ∃ S', lX3_dawnForAll_21 (n + 1) S 12 (nI a) v2 (nI t) = lX3_dawnForAll_21 n S' 12 (nI (a + paE mi x (bakeL sl t d l k (w + 1)) (dawnL sl ea nS set t d l k (w + 1)))) v2 (nI (t + 1)) ∧ S'.2 = S.2 ∧ (∀ c, c ≠ 2 → c ≠ 13 → c ≠ 15 → c ≠ 16 → gI S' c = gI S c) ∧ gI S' 2 (3 * t) = nI (bakeD d l k) ∧ gI S' 2 (3 * t + 1) = nI (paL mi x (dawnL sl ea nS set t d l k (w + 1))) ∧ gI S' 2 13 = nI (nxt x) ∧ ∀ j, j ≠ 3 * t → j ≠ 3 * t + 1 → j ≠ 13 → gI S' 2 j = gI S 2 j := by
  have hn6 := hL.2.2.2.2.2.2.1
  obtain ⟨S6, e1, e2, e3⟩ := load_c hS.1 (Or.inl rfl) ht g0 g1 g2 h12
  have hS6 := e3.cb (Or.inl rfl) hS
  have hsit : mX1_sitters S6 1 (nI t) = some (nI set, S6) := by
    rw [sitters_c hS6.1 hn6 (by rw [e3.2 1 (by decide) (by decide) (by decide)]; exact h5), e3.2 2 (by decide) (by decide) (by decide), hset]
  have hset2 : set < 2 ^ nS := by rw [← hset]; exact sitP_lt _ _ _
  obtain ⟨S10, c1, c2, c3⟩ := hL.dawn_c hS6 (Or.inl rfl) ht hd hl hk (by omega) hset2 e2
  have hS10 := c3.cb (Or.inl rfl) hS6
  have fr := e3.trans c3
  obtain ⟨L1, hL1⟩ : ∃ z, z = dawnL sl ea nS set t d l k (w + 1) := ⟨_, rfl⟩
  have hL60 : L1 ≤ 60 := by rw [hL1]; exact dawnL_le hL.1 hl
  obtain ⟨B1, hB1⟩ : ∃ z, z = bakeL sl t d l k (w + 1) := ⟨_, rfl⟩
  rw [← hL1] at c2
  rw [← hL1, ← hB1] at c1
  rw [← hL1, ← hB1]
  have hdr := drawn_c hS10.1 hx hm (by rw [fr.2 2 (by decide) (by decide) (by decide)]; exact h13) (by rw [fr.2 1 (by decide) (by decide) (by decide)]; exact h6)
  obtain ⟨S11, e11⟩ : ∃ z, z = pI S10 2 13 (nI (nxt x)) := ⟨_, rfl⟩
  have hC11 : RCr S11 := hS10.1.ofR (by rw [e11]; rfl)
  have hk11 : CK 13 S11 t (bakeD d l k) L1 k (w + 1) := by
    rw [e11]
    unfold CK
    simp (disch := decide) only [gI_ne]
    exact c2
  have c11 : ∀ c, c ≠ 2 → gI S11 c = gI S10 c := fun c hc => by rw [e11]; exact gIf_ne _ _ _ _ hc
  have r11 : S11.2 = S.2 := by rw [e11]; exact fr.1
  have p11 : ∀ j, j ≠ 13 → gI S11 2 j = gI S 2 j := fun j hj => by rw [e11, gI_nk _ _ _ _ hj, fr.2 2 (by decide) (by decide) (by decide)]
  have q11 : gI S11 2 13 = nI (nxt x) := by rw [e11, gI_eq]
  have fin : ∀ S12, S12.2 = S.2 → (∀ c, c ≠ 13 → gI S12 c = gI S11 c) → ∀ L2, ∃ S', S' = pI (pI S12 2 (3 * t) (nI (bakeD d l k))) 2 (3 * t + 1) (nI L2) ∧ S'.2 = S.2 ∧ (∀ c, c ≠ 2 → c ≠ 13 → c ≠ 15 → c ≠ 16 → gI S' c = gI S c) ∧ gI S' 2 (3 * t) = nI (bakeD d l k) ∧ gI S' 2 (3 * t + 1) = nI L2 ∧ gI S' 2 13 = nI (nxt x) ∧ ∀ j, j ≠ 3 * t → j ≠ 3 * t + 1 → j ≠ 13 → gI S' 2 j = gI S 2 j := by
    intro S12 hr hc L2
    refine ⟨_, rfl, hr, fun c a1 a2 a3 a4 => ?_, ?_, gI_eq _ _ _ _, ?_, fun j j1 j2 j3 => ?_⟩
    · rw [gIf_ne _ _ _ _ a1, gIf_ne _ _ _ _ a1, hc c a2, c11 c a1]
      exact fr.2 c a3 a4 a2
    · rw [gI_nk _ _ _ _ (by omega), gI_eq]
    · rw [gI_nk _ _ _ _ (by omega), gI_nk _ _ _ _ (by omega), hc 2 (by decide)]
      exact q11
    · rw [gI_nk _ _ _ _ j2, gI_nk _ _ _ _ j1, hc 2 (by decide)]
      exact p11 j j3
  rw [lX3_dawnForAll_21.eq_2, if_neg (show ¬ (2 : Int32) ≤ nI t from nI_ge (a := t) (b := 2) ht (by decide)), rc_12_1 hS.1, Option.bind_some, rc_12_0 hS.1, Option.bind_some, e1, Option.bind_some, rc_12_1 hS6.1, Option.bind_some, rc_12_0 hS6.1, Option.bind_some, hsit, Option.bind_some]
  dsimp only
  rw [c1, Option.bind_some]
  dsimp only
  rw [hdr, Option.bind_some, ← e11, nI_add]
  dsimp only
  unfold paL paE
  by_cases hmx : mi ≤ x % 10
  · rw [if_pos hmx, if_pos rfl, if_pos hmx, if_pos hmx, j77_eq hC11 ht hk11]
    obtain ⟨S', f0, f1⟩ := fin S11 r11 (fun _ _ => rfl) L1
    exact ⟨S', by rw [f0]; rfl, f1⟩
  · rw [if_neg hmx, if_neg n10, if_neg hmx, if_neg hmx, rc_12_1 hC11, Option.bind_some]
    obtain ⟨S12, l1, l2, l3⟩ := lose_c hL60 hk11
    rw [l1, Option.bind_some]
    dsimp only
    obtain ⟨S', f0, f1⟩ := fin S12 (l3.1.trans r11) (lose_o l1) (L1 - 1)
    have hC12 : RCr S12 := hC11.ofR (by rw [l3.1])
    by_cases hz : L1 = 0
    · rw [if_pos hz, if_pos rfl, if_pos hz, j77_eq hC12 ht l2]
      exact ⟨S', by rw [f0]; rfl, f1⟩
    · rw [if_neg hz, if_neg n10, if_neg hz, j77_eq hC12 ht l2, nI_1, show a + (B1 - L1) + 1 = a + (B1 - L1 + 1) by omega]
      exact ⟨S', by rw [f0], f1⟩
theorem pass_m {Sc Sm : xS} {nS : Nat} {sl : Nat → Nat → Nat → Nat} {ea : Nat → Nat → Nat → Nat → Nat → Nat} (hL : LW Sc Sm nS sl ea) {T : xS} (hT : MB Sm T) {mi x w t d l k set a n : Nat} (h2 : gI T 1 2 = nI mi) (hm : mi < 11) (h3 : gI T 1 3 = nI x) (hx : x < 30089) (h1 : gI T 1 1 = nI w) (hw : w < 2000) (ht : t < 2) (hd : d < 1000) (hl : l ≤ 60) (hk : k ≤ 60) (g0 : gI T 1 (10 + 3 * t) = nI d) (g1 : gI T 1 (10 + 3 * t + 1) = nI l) (g2 : gI T 1 (10 + 3 * t + 2) = nI k) (hset : sitP (fun s => gI T 1 (16 + 2 * s + 1)) (nI t) nS = set) : ∃ T', lX9_passOne_18 (n + 1) T 0 (nI a) (nI t) = lX9_passOne_18 n T' 0 (nI (a + paE mi x (bakeL sl t d l k w) (dawnL sl ea nS set t d l k w))) (nI (t + 1)) ∧ T'.2.2 = T.2.2 ∧ (∀ c, c ≠ 0 → c ≠ 1 → c ≠ 6 → c ≠ 8 → gI T' c = gI T c) ∧ (∀ j, j < 25 → gI T' 0 j = gI T 0 j) ∧ gI T' 1 (10 + 3 * t) = nI (bakeD d l k) ∧ gI T' 1 (10 + 3 * t + 1) = nI (paL mi x (dawnL sl ea nS set t d l k w)) ∧ gI T' 1 3 = nI (nxt x) ∧ ∀ j, j ≠ 10 + 3 * t → j ≠ 10 + 3 * t + 1 → j ≠ 3 → gI T' 1 j = gI T 1 j := by
  have hn6 := hL.2.2.2.2.2.2.1
  obtain ⟨T2, e1, e2, e3⟩ := set_m hT.1 hn6 (hT.2.2.2.1.trans hL.2.2.2.2.2.2.2) ht g0 g1 g2
  rw [hset] at e2
  have hT2 := e3.mb hT
  have hset64 : set < 64 := by rw [← hset]; exact sitP_lt64 hn6
  obtain ⟨T5, b1, b2, b3⟩ := hL.bake_m hT2 ht hd hl hk hw e2
  have hT5 := b3.mb hT2
  obtain ⟨T8, c1, c2, c3⟩ := hL.eat_m hT5 ht (bakeD_lt hd) (bakeL_le hL.1 hl) hw hset64 b2
  have hT8 := c3.mb hT5
  have fr := (e3.trans b3).trans c3
  obtain ⟨L1, hL1⟩ : ∃ z, z = dawnL sl ea nS set t d l k w := ⟨_, rfl⟩
  have hL60 : L1 ≤ 60 := by rw [hL1]; exact dawnL_le hL.1 hl
  obtain ⟨B1, hB1⟩ : ∃ z, z = bakeL sl t d l k w := ⟨_, rfl⟩
  have hle : eatN ea set t (bakeD d l k) w nS (bakeL sl t d l k w) = L1 := hL1.symm
  rw [hle] at c1 c2
  rw [← hB1] at c1
  rw [← hL1, ← hB1]
  have a8 : gI T8 1 = gI T 1 := fr.2.2.1 1 (by decide) (by decide) (by decide)
  have a5 : gI T5 1 = gI T 1 := (e3.trans b3).2.2.1 1 (by decide) (by decide) (by decide)
  have a2 : gI T2 1 = gI T 1 := e3.2.2.1 1 (by decide) (by decide) (by decide)
  -- what is done at the end, with a mouse (mo = 1) or without
  have fin : ∀ (mo L2 : Nat), mo ≤ L1 → L2 = L1 - mo → mo ≤ 1 → ∀ (k18 : xS → Nat → Int32 → Int32 → Option (Int32 × xS)) (v : Nat), ∃ T', jX9_passOne_81 k18 T8 0 (nI v) (nI t) (nI mo) = k18 T' 0 (nI (v + mo)) (nI (t + 1)) ∧ T'.2.2 = T.2.2 ∧ (∀ c, c ≠ 0 → c ≠ 1 → c ≠ 6 → c ≠ 8 → gI T' c = gI T c) ∧ (∀ j, j < 25 → gI T' 0 j = gI T 0 j) ∧ gI T' 1 (10 + 3 * t) = nI (bakeD d l k) ∧ gI T' 1 (10 + 3 * t + 1) = nI L2 ∧ gI T' 1 3 = nI (nxt x) ∧ ∀ j, j ≠ 10 + 3 * t → j ≠ 10 + 3 * t + 1 → j ≠ 3 → gI T' 1 j = gI T 1 j := by
    intro mo L2 hmo hL2 hmo1 k18 v
    obtain ⟨T9, e9⟩ : ∃ z, z = pI T8 1 3 (nI (nxt x)) := ⟨_, rfl⟩
    obtain ⟨T10, e10⟩ : ∃ z, z = pI T9 0 27 (nI L2) := ⟨_, rfl⟩
    have r9 : RMr T9 := hT8.1.ofR (by rw [e9]; rfl)
    have r10 : RMr T10 := r9.ofR (by rw [e10]; rfl)
    have m27 : gI T9 0 27 = nI L1 := by rw [e9, gI_ne _ _ _ _ (by decide)]; exact c2.2.2.1
    have m26 : gI T10 0 26 = nI (bakeD d l k) := by rw [e10, gI_nk _ _ _ _ (by decide), e9, gI_ne _ _ _ _ (by decide)]; exact c2.2.1
    have j131 : jX9_passOne_131 k18 T9 0 (nI (v + mo)) (nI t) (nI mo) (gI T9 0 27) 0 = k18 (pI (pI T10 1 (10 + 3 * t) (nI (bakeD d l k))) 1 (10 + 3 * t + 1) (nI L2)) 0 (nI (v + mo)) (nI (t + 1)) := by
      unfold jX9_passOne_131
      rw [m27, pk_sub hmo, ← hL2, xlet_eq, ← e10, rm_0 r10, Option.bind_some, ix0, sI_nI (Y := Ym) (c := 1) (by show _ < 486; omega) (by decide), Option.bind_some, gR_pI, rm_0 r10, Option.bind_some, m26, nI_1, gI_ne _ _ _ _ (show 0 ≠ 1 by decide), show gI T10 0 27 = nI L2 by rw [e10, gI_eq], sI_nI (Y := Ym) (c := 1) (by show _ < 486; omega) (by decide), Option.bind_some, nI_1]
    refine ⟨pI (pI T10 1 (10 + 3 * t) (nI (bakeD d l k))) 1 (10 + 3 * t + 1) (nI L2), ?_, ?_, fun c q0 q1 q2 q3 => ?_, fun j hj => ?_, ?_, gI_eq _ _ _ _, ?_, fun j j1 j2 j3 => ?_⟩
    · unfold jX9_passOne_81
      rw [rm_0 hT8.1, Option.bind_some, Option.bind_some, aI_lit (Y := Ym) (c := 1) (i := 3) 3 rfl (by decide) (by decide), Option.bind_some, a8, h3, nxt_eq hx, sI_lit (Y := Ym) (c := 1) (i := 3) 3 rfl (by decide) (by decide), Option.bind_some, ← e9]
      unfold jX9_passOne_115
      rcases (show mo = 0 ∨ mo = 1 by omega) with rfl | rfl
      · rw [if_pos (by decide), if_pos (by decide), show nI v + 0 = nI (v + 0) from nI_add v 0]
        exact j131
      · rw [if_neg (by decide), if_neg (by decide), nI_1]
        exact j131
    · show T10.2.2 = T.2.2
      rw [e10, e9]
      exact fr.1
    · rw [gIf_ne _ _ _ _ q1, gIf_ne _ _ _ _ q1, e10, gIf_ne _ _ _ _ q0, e9, gIf_ne _ _ _ _ q1]
      exact fr.2.2.1 c q0 q2 q3
    · rw [gI_ne _ _ _ _ (by decide), gI_ne _ _ _ _ (by decide), e10, gI_nk _ _ _ _ (by omega), e9, gI_ne _ _ _ _ (by decide)]
      exact fr.2.2.2 j (by omega)
    · rw [gI_nk _ _ _ _ (by omega), gI_eq]
    · rw [gI_nk _ _ _ _ (by omega), gI_nk _ _ _ _ (by omega), e10, gI_ne _ _ _ _ (by decide), e9, gI_eq]
    · rw [gI_nk _ _ _ _ j2, gI_nk _ _ _ _ j1, e10, gI_ne _ _ _ _ (by decide), e9, gI_nk _ _ _ _ j3, a8]
  rw [lX9_passOne_18.eq_2, if_neg (show ¬ (2 : Int32) ≤ nI t from nI_ge (a := t) (b := 2) ht (by decide)), e1, Option.bind_some, rm_0 hT2.1, Option.bind_some, aI_lit (Y := Ym) (c := 1) (i := 1) 1 rfl (by decide) (by decide), Option.bind_some, a2, h1, b1, Option.bind_some, rm_0 hT5.1, Option.bind_some, aI_lit (Y := Ym) (c := 1) (i := 1) 1 rfl (by decide) (by decide), Option.bind_some, a5, h1, c1, Option.bind_some]
  dsimp only
  rw [rm_0 hT8.1, Option.bind_some, aI_lit (Y := Ym) (c := 1) (i := 3) 3 rfl (by decide) (by decide), Option.bind_some, Option.bind_some, aI_lit (Y := Ym) (c := 1) (i := 2) 2 rfl (by decide) (by decide), Option.bind_some, a8, h2, h3, r10_eq hx, nI_add, c2.2.2.1]
  unfold paL paE jX9_passOne_80
  by_cases hmx : mi ≤ x % 10
  · rw [if_pos (nI_le hmx (by omega)), if_pos hmx, if_pos hmx]
    obtain ⟨T', f0, f1⟩ := fin 0 L1 (by omega) (by omega) (by omega) (lX9_passOne_18 n) (a + (B1 - L1))
    exact ⟨T', f0, f1⟩
  · rw [if_neg (nI_ge (by omega) (by omega)), if_neg hmx, if_neg hmx]
    by_cases hz : L1 = 0
    · rw [if_pos (by rw [hz]; decide), if_pos hz]
      obtain ⟨T', f0, f1⟩ := fin 0 (L1 - 1) (by omega) (by omega) (by omega) (lX9_passOne_18 n) (a + (B1 - L1))
      exact ⟨T', f0, f1⟩
    · rw [if_neg (nI_nle (by omega) (by omega)), if_neg hz]
      obtain ⟨T', f0, f1⟩ := fin 1 (L1 - 1) (by omega) (by omega) (by omega) (lX9_passOne_18 n) (a + (B1 - L1))
      exact ⟨T', f0, f1⟩

/-! THE SMALL CALLS -/
theorem gIf_ne (S : xS) (c k : Nat) (v : Int32) {c' : Nat} (h : c' ≠ c) : gI (pI S c k v) c' = gI S c' := by
  funext j
  exact gI_ne S c k v h
/-- all but the texts' meaning, which is a statement RT of the texts' cells alone -/
def RelW (RT : xS → xS → Nat → Prop) (Sc Sm : xS) : Prop :=
  RCr Sc ∧ RMr Sm ∧ RKd Sc ∧ (∃ nS nT ns sc nx nS' nT' ns' sc' nx' : Nat, RV Sc Sm 1 1 nS nT ns sc nx ∧ RV Sc Sm 6 2 nS' nT' ns' sc' nx' ∧ nT' ≤ nT ∧ RT Sc Sm nT) ∧ RTp Sc Sm ∧ RFt Sc Sm
def RTloc (RT : xS → xS → Nat → Prop) : Prop := ∀ (Sc Sm Sc' Sm' : xS) (k : Nat), (∀ c, 26 ≤ c → Sc'.1 c = Sc.1 c) → Sm'.1 3 = Sm.1 3 → RT Sc Sm k → RT Sc' Sm' k
theorem not_or2 {a b : Prop} (h : ¬ a) (g : ¬ b) : ¬ (a ∨ b) := fun q => q.elim h g
theorem le_nlt {a b : Int32} (h : a ≤ b) : ¬ b < a := Int32.not_lt.mpr h
theorem nle_lt {a b : Int32} (h : ¬ a ≤ b) : b < a := Int32.not_le.mp h
theorem bd_of {x : Int32} {B : Nat} (h1 : ¬ x < 0) (h2 : x ≤ nI B) (hB : B < 2 ^ 31) : bd x (B + 1) := by
  obtain ⟨j, h3, h4⟩ := nI_of2 (nI_toInt hB) h1 h2
  exact ⟨j, by omega, h4⟩
/-- what must be looked at behind a change that leaves the image, the texts, the tape and the FAULT alone -/
theorem RelW.upd {RT : xS → xS → Nat → Prop} {Sc Sm Sc' Sm' : xS} (hRT : RTloc RT) (h : RelW RT Sc Sm) (hC : RCr Sc') (hM : RMr Sm') (hK : RKd Sc') (hc : ∀ c, (6 ≤ c ∧ c ≤ 10) ∨ c = 24 ∨ 26 ≤ c → Sc'.1 c = Sc.1 c) (hm : ∀ c, c = 2 ∨ c = 3 ∨ c = 4 → Sm'.1 c = Sm.1 c) (h1 : gI Sc' 23 1 = gI Sc 23 1) (h2 : ∀ k, k = 3 ∨ k = 4 ∨ k = 5 → gI Sc' 25 k = gI Sc 25 k) (h3 : ∀ k, k = 4 ∨ k = 5 ∨ k = 6 → gI Sm' 0 k = gI Sm 0 k) (hV : ∀ nS nT ns sc nx, RV Sc Sm 1 1 nS nT ns sc nx → ∃ mS ms mc mx, RV Sc' Sm' 1 1 mS nT ms mc mx) : RelW RT Sc' Sm' := by
  obtain ⟨-, -, -, ⟨nS, nT, ns, sc, nx, nS', nT', ns', sc', nx', g1, g2, g3, g4⟩, hTp, hF⟩ := h
  obtain ⟨mS, ms, mc, mx, g5⟩ := hV nS nT ns sc nx g1
  refine ⟨hC, hM, hK, ⟨mS, nT, ms, mc, mx, nS', nT', ns', sc', nx', g5, g2.congr (fun i hi => hc _ (Or.inl (by omega))) (hm 2 (Or.inl rfl)), g3, ?_⟩, hTp.congr h1 (h3 4 (Or.inl rfl)) (hc 24 (Or.inr (Or.inl rfl))) (hm 4 (Or.inr (Or.inr rfl))), ?_⟩
  · exact hRT _ _ _ _ _ (fun c hc' => hc c (Or.inr (Or.inr hc'))) (hm 3 (Or.inr (Or.inl rfl))) g4
  · unfold RFt at hF ⊢
    rw [h2 3 (by omega), h2 4 (by omega), h2 5 (by omega), h3 5 (by omega), h3 6 (by omega)]
    exact hF
theorem RelW.now {RT : xS → xS → Nat → Prop} {Sc Sm Sc' Sm' : xS} (hRT : RTloc RT) (h : RelW RT Sc Sm) (hRc : Sc'.2.2 = Sc.2.2) (hRm : Sm'.2.2 = Sm.2.2) (hc : ∀ c, 6 ≤ c → Sc'.1 c = Sc.1 c) (hm : ∀ c, c ≠ 1 → Sm'.1 c = Sm.1 c) (h8 : gI Sc' 1 8 = gI Sc 1 8) (hV : ∀ nS nT ns sc nx, RV Sc Sm 1 1 nS nT ns sc nx → ∃ mS ms mc mx, RV Sc' Sm' 1 1 mS nT ms mc mx) : RelW RT Sc' Sm' := by
  refine RelW.upd hRT h (h.1.ofR hRc) (h.2.1.ofR hRm) ?_ (fun c h => hc c (by omega)) (fun c h => hm c (by omega)) (congrFun (hc 23 (by omega)) 1) (fun k _ => congrFun (hc 25 (by omega)) k) (fun k _ => congrFun (hm 0 (by omega)) k) hV
  have hK := h.2.2.1
  unfold RKd at hK ⊢
  rw [h8]
  unfold gR at hK ⊢
  rw [hRc]
  exact hK
theorem sI_lit {Y : xY} {S : xS} {c : Nat} {i v : Int32} (j : Nat) (e : i = nI j) (h : j < xn Y c) (h2 : xn Y c < 2 ^ 31) : sI Y S c i v = some (pI S c j v) := by rw [e]; exact sI_nI h h2
theorem aI_lit {Y : xY} {S : xS} {c : Nat} {i : Int32} (j : Nat) (e : i = nI j) (h : j < xn Y c) (h2 : xn Y c < 2 ^ 31) : aI Y S c i = some (gI S c j) := by rw [e]; exact aI_nI h h2
theorem n10 : ¬ (1 : Int32) = 0 := by decide
theorem sim_mice_ok {RT : xS → xS → Nat → Prop} (hRT : RTloc RT) : sim_mice (RelW RT) := by
  intro Sc Sm p h
  have hC := h.1
  have hM := h.2.1
  unfold mX8_mice mX9_mice
  rw [isIn_eq, Option.bind_some]
  by_cases h1 : p < 0
  · exact ⟨0, Sc, Sm, by rw [if_pos h1], by rw [if_pos (Or.inl h1), if_pos rfl], h⟩
  by_cases h2 : p ≤ 10
  · have hb : bd p 11 := bd_of h1 h2 (by decide)
    refine ⟨1, pI Sc 1 6 p, pI Sm 1 2 p, ?_, ?_, ?_⟩
    · rw [if_neg h1, if_pos h2, rc_0_0 hC]; rfl
    · rw [if_neg (not_or2 h1 (le_nlt h2)), if_neg n10, rm_0 hM, Option.bind_some, sI_lit (Y := Ym) (c := 1) (i := 2) 2 rfl (by decide) (by decide)]; rfl
    · refine RelW.now hRT h rfl rfl (fun c hc => gIf_ne _ _ _ _ (by omega)) (fun c hc => gIf_ne _ _ _ _ hc) (gI_nk _ _ _ _ (by decide)) (fun nS nT ns sc nx hV => ⟨nS, ns, sc, nx, ?_⟩)
      obtain ⟨a1, a2, a3, a4, a5, a6, a7, a8, a9, a10, a11, a12, a13⟩ := hV
      unfold RV
      simp (disch := omega) only [gI_ne, gI_nk, gI_eq, gIf_ne]
      exact ⟨a1, a2, a3, a4, a5, a6, ⟨trivial, hb⟩, a8, a9, a10, a11, a12, a13⟩
  · exact ⟨0, Sc, Sm, by rw [if_neg h1, if_neg h2], by rw [if_pos (Or.inr (nle_lt h2)), if_pos rfl], h⟩
/-- Convent.put, get of a place that is there -/
theorem put_eq {S : xS} {o : Nat} {i v : Int32} (j : Nat) (e : i = nI j) (hj : j < 14) (hR : dO Yc (gR S o 0) 10 = some (o + 1)) (hx : xn Yc (o + 1) = 14) : mX1_put S o i v = some (pI S (o + 1) j v) := by
  unfold mX1_put
  rw [if_neg (by rw [e]; exact nI_pos (by omega)), if_neg (by rw [e]; exact nI_ge hj (by decide)), hR, Option.bind_some, sI_lit j e (by rw [hx]; exact hj) (by rw [hx]; decide)]
  rfl
theorem get_eq {S : xS} {o : Nat} {i : Int32} (j : Nat) (e : i = nI j) (hj : j < 14) (hR : dO Yc (gR S o 0) 10 = some (o + 1)) (hx : xn Yc (o + 1) = 14) : mX1_get S o i = some (gI S (o + 1) j, S) := by
  unfold mX1_get
  rw [if_neg (by rw [e]; exact nI_pos (by omega)), if_neg (by rw [e]; exact nI_ge hj (by decide)), hR, Option.bind_some, aI_lit j e (by rw [hx]; exact hj) (by rw [hx]; decide)]
  rfl
theorem okRow_put13 {f : Nat → Int32} {nS : Nat} {v : Int32} (h : okRow f nS) (hv : bd v 30089) {g : Nat → Int32} (e : ∀ k, k ≠ 13 → g k = f k) (e13 : g 13 = v) : okRow g nS := by
  obtain ⟨⟨d, l, q, h1, h2, h3, h4, h5⟩, ⟨d', l', q', g1, g2, g3, g4, g5⟩, hs, h12, h13⟩ := h
  refine ⟨⟨d, l, q, h1, h2, by rw [e 0 (by omega)]; exact h3, by rw [e 1 (by omega)]; exact h4, by rw [e 2 (by omega)]; exact h5⟩, ⟨d', l', q', g1, g2, by rw [e 3 (by omega)]; exact g3, by rw [e 4 (by omega)]; exact g4, by rw [e 5 (by omega)]; exact g5⟩, fun s hs6 => ?_, by rw [e 12 (by omega)]; exact h12, by rw [e13]; exact hv⟩
  rw [e (6 + s) (by omega)]
  exact hs s hs6
theorem sim_seed_ok {RT : xS → xS → Nat → Prop} (hRT : RTloc RT) : sim_seed (RelW RT) := by
  intro Sc Sm p h
  have hC := h.1
  have hM := h.2.1
  unfold mX8_seed mX9_seed
  rw [isIn_eq, Option.bind_some]
  by_cases h1 : p < 0
  · exact ⟨0, Sc, Sm, by rw [if_pos h1], by rw [if_pos (Or.inl h1), if_pos rfl], h⟩
  by_cases h2 : p ≤ 9999
  · obtain ⟨v, hv, e⟩ := bd_of (B := 9999) h1 h2 (by decide)
    have hb : bd (p * 3 + 11) 30089 := ⟨v * 3 + 11, by omega, by rw [e, show (3 : Int32) = nI 3 from rfl, show (11 : Int32) = nI 11 from rfl, pk_mul, nI_add]⟩
    refine ⟨1, pI Sc 2 13 (p * 3 + 11), pI Sm 1 3 (p * 3 + 11), ?_, ?_, ?_⟩
    · rw [if_neg h1, if_pos h2, rc_0_0 hC, Option.bind_some, put_eq (i := 13) 13 rfl (by decide) (rc_1_0 hC) rfl]; rfl
    · rw [if_neg (not_or2 h1 (le_nlt h2)), if_neg n10, rm_0 hM, Option.bind_some, sI_lit (Y := Ym) (c := 1) (i := 3) 3 rfl (by decide) (by decide)]; rfl
    · refine RelW.now hRT h rfl rfl (fun c hc => gIf_ne _ _ _ _ (by omega)) (fun c hc => gIf_ne _ _ _ _ hc) (gI_ne _ _ _ _ (by decide)) (fun nS nT ns sc nx hV => ⟨nS, ns, sc, nx, ?_⟩)
      obtain ⟨a1, a2, a3, a4, a5, a6, a7, a8, a9, a10, a11, a12, a13⟩ := hV
      have a9' : okRow (gI (pI Sc 2 13 (p * 3 + 11)) (1 + 1)) nS := okRow_put13 a9 hb (fun k hk => gI_nk _ _ _ _ hk) (gI_eq _ _ _ _)
      unfold RV
      refine ⟨a1, ?_⟩
      simp (disch := omega) only [gI_ne, gI_nk, gI_eq, gIf_ne, Nat.reduceAdd]
      simp only [Nat.reduceAdd] at a9' a10 a11 a12 a13
      have hn := a1.1
      exact ⟨a2, a3, a4, a5, a6, a7, a8, a9', ⟨a10.1, trivial, fun k hk => by rw [gI_nk _ _ _ _ (by omega)]; exact a10.2.2 k hk⟩, fun s hs => by rw [gI_nk _ _ _ _ (by omega)]; exact a11 s hs, a12, a13⟩
  · exact ⟨0, Sc, Sm, by rw [if_neg h1, if_neg h2], by rw [if_pos (Or.inr (nle_lt h2)), if_pos rfl], h⟩
theorem sim_end_ok {RT : xS → xS → Nat → Prop} (hRT : RTloc RT) : sim_end (RelW RT) := by
  intro Sc Sm p h
  obtain ⟨hC, hM, hK, hVs, hTp, hF⟩ := id h
  obtain ⟨len, g1, g2, g3, g4⟩ := hTp
  unfold mX8_end mX9_end
  rw [isIn_eq, Option.bind_some, g3]
  by_cases h1 : p < 0
  · exact ⟨-1, Sc, Sm, by rw [if_pos h1], by rw [if_pos (Or.inl h1), if_pos rfl], h⟩
  rw [if_neg h1, rc_0_5 hC, Option.bind_some, g2]
  by_cases h2 : p ≤ nI len
  · obtain ⟨v, hv, e⟩ := bd_of (B := len) h1 h2 (by omega)
    refine ⟨p, pI Sc 23 1 p, pI Sm 0 4 p, ?_, ?_, ?_⟩
    · rw [if_pos h2]; rfl
    · rw [if_neg (not_or2 h1 (le_nlt h2)), if_neg n10]; rfl
    · obtain ⟨nS, nT, ns, sc, nx, nS', nT', ns', sc', nx', hV, hV', hT, hRt⟩ := hVs
      refine ⟨hC.ofR rfl, hM.ofR rfl, ?_, ⟨nS, nT, ns, sc, nx, nS', nT', ns', sc', nx', hV.congr (fun i hi => gIf_ne _ _ _ _ (by omega)) (gIf_ne _ _ _ _ (by decide)), hV'.congr (fun i hi => gIf_ne _ _ _ _ (by omega)) (gIf_ne _ _ _ _ (by decide)), hT, hRT _ _ _ _ _ (fun c hc => gIf_ne _ _ _ _ (by omega)) (gIf_ne _ _ _ _ (by decide)) hRt⟩, ⟨v, by omega, by rw [gI_eq, e], by rw [gI_eq, e], fun k hk => ?_⟩, ?_⟩
      · unfold RKd at hK ⊢
        simp (disch := omega) only [gI_ne, gR_pI]
        exact hK
      · rw [gI_ne _ _ _ _ (by decide), gI_ne _ _ _ _ (by decide)]
        exact g4 k (by omega)
      · unfold RFt at hF ⊢
        simp (disch := omega) only [gI_ne, gI_nk]
        exact hF
  · exact ⟨-1, Sc, Sm, by rw [if_neg h2], by rw [if_pos (Or.inr (nle_lt h2)), if_pos rfl], h⟩
theorem sim_fault_ok {RT : xS → xS → Nat → Prop} : sim_fault (RelW RT) := by
  intro Sc Sm p h
  obtain ⟨hC, hM, hK, hVs, hTp, hF⟩ := id h
  unfold mX8_fault mX9_fault
  rw [rc_0_6 hC]
  simp only [Option.bind_some]
  rcases hF with ⟨f1, f2, f3⟩ | ⟨f1, f2, f3⟩
  · rw [f1, f2, f3]
    by_cases h0 : p = 0
    · exact ⟨-1, Sc, Sm, by simp, by simp [h0], h⟩
    · by_cases h1 : p = 1
      · exact ⟨-1, Sc, Sm, by simp, by simp [h1], h⟩
      · exact ⟨-1, Sc, Sm, by simp, by simp [h0, h1], h⟩
  · rw [f1, f2, f3]
    by_cases h0 : p = 0
    · exact ⟨gI Sm 0 5, Sc, Sm, by simp [h0], by simp [h0], h⟩
    · by_cases h1 : p = 1
      · exact ⟨gI Sm 0 6, Sc, Sm, by simp [h1], by simp [h1], h⟩
      · exact ⟨-1, Sc, Sm, by simp [h0, h1], by simp [h0, h1], h⟩

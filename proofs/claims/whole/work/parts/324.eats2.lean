/-! THE LAWS: eatsOf, and both together -/
def tell6 (S : xS) (d t w s a l : Int32) : xS := pI (pI (pI (pI (pI (pI S 6 0 d) 6 1 t) 6 2 w) 6 3 s) 6 4 a) 6 5 l
theorem tell6_fr (S : xS) (d t w s a l : Int32) : FrM S (tell6 S d t w s a l) := ⟨rfl, fun _ _ => rfl, fun c h _ => by unfold tell6; rw [gIf_ne _ _ _ _ h, gIf_ne _ _ _ _ h, gIf_ne _ _ _ _ h, gIf_ne _ _ _ _ h, gIf_ne _ _ _ _ h, gIf_ne _ _ _ _ h]⟩
theorem tell6_n {S : xS} {d t w s a l j : Nat} (hj : j < 6) : gI (tell6 S (nI d) (nI t) (nI w) (nI s) (nI a) (nI l)) 6 j = nI (nm d t w s a l j) := by
  unfold tell6
  rcases (show j = 0 ∨ j = 1 ∨ j = 2 ∨ j = 3 ∨ j = 4 ∨ j = 5 by omega) with rfl | rfl | rfl | rfl | rfl | rfl <;> rfl
theorem eatsOf_tell {S : xS} (hM : RMr S) {s : Nat} (hs : s < 6) (t d w l : Int32) : mX9_eatsOf S 0 (nI s) t d w l = (mX9_sumOf (tell6 S d t w (nI s) (gI S 1 (16 + 2 * s)) l) 0 1 0 9 (gI S 1 (16 + 2 * s))).bind fun q17 => if (q17.1 ≤ l : Prop) then (some (q17.1, q17.2)) else (some (l, q17.2)) := by
  unfold mX9_eatsOf tell6
  rw [rm_22 hM, Option.bind_some, sI_lit (Y := Ym) (c := 6) (i := 0) 0 rfl (by decide) (by decide), Option.bind_some, gR_pI, rm_22 hM, Option.bind_some, sI_lit (Y := Ym) (c := 6) (i := 1) 1 rfl (by decide) (by decide), Option.bind_some, gR_pI, gR_pI, rm_22 hM, Option.bind_some, sI_lit (Y := Ym) (c := 6) (i := 2) 2 rfl (by decide) (by decide), Option.bind_some, gR_pI, gR_pI, gR_pI, rm_22 hM, Option.bind_some, sI_lit (Y := Ym) (c := 6) (i := 3) 3 rfl (by decide) (by decide), Option.bind_some, gR_pI, gR_pI, gR_pI, gR_pI, rm_22 hM, Option.bind_some, gR_pI, gR_pI, gR_pI, gR_pI, rm_0 hM, Option.bind_some, ixa, aI_nI (Y := Ym) (c := 1) (by show _ < 486; omega) (by decide), Option.bind_some, sI_lit (Y := Ym) (c := 6) (i := 4) 4 rfl (by decide) (by decide), Option.bind_some, gR_pI, gR_pI, gR_pI, gR_pI, gR_pI, rm_22 hM, Option.bind_some, sI_lit (Y := Ym) (c := 6) (i := 5) 5 rfl (by decide) (by decide), Option.bind_some, gR_pI, gR_pI, gR_pI, gR_pI, gR_pI, gR_pI, rm_22 hM, Option.bind_some, aI_lit (Y := Ym) (c := 6) (i := 4) 4 rfl (by decide) (by decide), Option.bind_some, gI_ne _ 6 3 _ (show 1 ≠ 6 by decide), gI_ne _ 6 2 _ (show 1 ≠ 6 by decide), gI_ne _ 6 1 _ (show 1 ≠ 6 by decide), gI_ne _ 6 0 _ (show 1 ≠ 6 by decide), gI_nk _ 6 5 _ (show 4 ≠ 5 by decide), gI_eq]
theorem minM {S : xS} {v l : Nat} (hv : v < 2 ^ 31) (hl : l < 2 ^ 31) : (if (nI v ≤ nI l : Prop) then (some (nI v, S)) else (some (nI l, S))) = some (nI (if l < v then l else v), S) := by
  by_cases h : l < v
  · rw [if_neg (nI_ge h hv), if_pos h]
  · rw [if_pos (nI_le (by omega) hl), if_neg h]
theorem min_le' (l a : Nat) : (if l < a then l else a) ≤ l := by split <;> omega
theorem eats_law {Sc Sm : xS} (h : RelW RTx Sc Sm) {nS : Nat} (hn : nS ≤ 6) (a11 : ∀ s, s < nS → gI Sm 1 (16 + 2 * s) = gI Sc 4 s ∧ bd (gI Sc 4 s) 10) : ∃ ea : Nat → Nat → Nat → Nat → Nat → Nat, (∀ s t d w l, ea s t d w l ≤ l) ∧ EAc Sc nS ea ∧ EAm Sm nS ea := by
  have hap : ∀ s, s < nS → gI Sc 4 s = nI ((gI Sc 4 s).toNatClampNeg) ∧ (gI Sc 4 s).toNatClampNeg < 10 := fun s hs => by
    obtain ⟨v, h1, h2⟩ := (a11 s hs).2
    rw [h2, nI_clamp (by omega)]
    exact ⟨rfl, h1⟩
  obtain ⟨ap, eap⟩ : ∃ z : Nat → Nat, z = fun s => (gI Sc 4 s).toNatClampNeg := ⟨_, rfl⟩
  have hap : ∀ s, s < nS → gI Sc 4 s = nI (ap s) ∧ ap s < 10 := fun s hs => by rw [eap]; exact hap s hs
  have ham : ∀ S, MB Sm S → ∀ s, s < nS → gI S 1 (16 + 2 * s) = nI (ap s) := fun S hS s hs => ((hS.2.2.2.2 s (by omega)).trans (a11 s hs).1).trans (hap s hs).1
  have mb6 : ∀ (S : xS) (a b c d e g : Int32), MB Sm S → MB Sm (tell6 S a b c d e g) := fun S a b c d e g hS => hS.step rfl (fun c' hc' => (tell6_fr S a b c d e g).2.2 c' (by omega) (by omega))
  rcases law_cases h with ⟨k1, k2⟩ | ⟨t0, n, ht0, hn0, k1, k2, k3, -, k4⟩
  · refine ⟨fun s t d w l => if l < ap s then l else ap s, fun s t d w l => min_le' _ _, ?_, fun S hS s t d w l hs ht hd hw hl => ?_⟩
    · refine eaten_of hn 0 (fun S q p hS => ?_) (fun q t d w set v3 hq ht hd hw hset S i l n hS hN h2 hl hi hb => step_plain hn hap hq hset S i l n hS h2 hl hi hb)
      unfold mX3_eatenBy
      rw [if_pos (hS.2.1.trans k1)]
      rfl
    · have q := mb6 S (nI d) (nI t) (nI w) (nI s) (nI (ap s)) (nI l) hS
      refine ⟨_, ?_, tell6_fr S (nI d) (nI t) (nI w) (nI s) (nI (ap s)) (nI l)⟩
      rw [eatsOf_tell hS.1 (by omega), ham S hS s hs, sum_none q.1 (q.2.2.1.trans k2), Option.bind_some]
      exact minM (by have := (hap s hs).2; omega) (by omega)
  rcases k4 with ⟨no, le⟩ | ⟨k, fr, to, f, hk, hno, hyes, e5, e6, hft, hto, hcw, hmw⟩
  · refine ⟨fun s t d w l => if l < ap s then l else ap s, fun s t d w l => min_le' _ _, ?_, fun S hS s t d w l hs ht hd hw hl => ?_⟩
    · refine eaten_of hn 0 (fun S q p hS => ?_) (fun q t d w set v3 hq ht hd hw hset S i l n hS hN h2 hl hi hb => step_plain hn hap hq hset S i l n hS h2 hl hi hb)
      unfold mX3_eatenBy
      rw [hS.2.1, k1, if_neg (fun q => by cases q), dO_text ht0, Option.bind_some]
      unfold mX6_hasEats
      rw [hS.2.2.2 _ (by omega), if_pos le, Option.bind_some, if_pos rfl]
      rfl
    · have q := mb6 S (nI d) (nI t) (nI w) (nI s) (nI (ap s)) (nI l) hS
      refine ⟨_, ?_, tell6_fr S (nI d) (nI t) (nI w) (nI s) (nI (ap s)) (nI l)⟩
      rw [eatsOf_tell hS.1 (by omega), ham S hS s hs, sum_no q.1 ht0 hn0 (q.2.2.1.trans k2) (by rw [q.2.1]; exact k3) (fun j hj => by rw [q.2.1]; exact no j hj), Option.bind_some]
      exact minM (by have := (hap s hs).2; omega) (by omega)
  · refine ⟨fun s t d w l => if l < clN 0 9 (f (nm d t w s (ap s) l)) then l else clN 0 9 (f (nm d t w s (ap s) l)), fun s t d w l => min_le' _ _, ?_, fun S hS s t d w l hs ht hd hw hl => ?_⟩
    · refine eaten_of hn 1 (fun S q p hS => ?_) (fun q t d w set v3 hq ht hd hw hset S i l n hS hN h2 hl hi hb => step_ruled hn hap ht0 k1 e5 e6 hcw hq ht hd hw hset S i l n hS hN h2 hl hi hb)
      unfold mX3_eatenBy
      rw [hS.2.1, k1, if_neg (fun q => by cases q), dO_text ht0, Option.bind_some]
      unfold mX6_hasEats
      rw [hS.2.2.2 _ (by omega), show gI Sc (26 + 6 * t0) 6 = nI to from e6, show gI Sc (26 + 6 * t0) 5 = nI fr from e5, if_neg (nI_ge hft (by omega)), Option.bind_some, if_neg n10]
    · have q := mb6 S (nI d) (nI t) (nI w) (nI s) (nI (ap s)) (nI l) hS
      have has := (hap s hs).2
      obtain ⟨S', s1, s2, s3, s4⟩ := sum_yes (w := nI (ap s)) q.1 ht0 hn0 (q.2.2.1.trans k2) (by rw [q.2.1]; exact k3) (lo := 0) (hi := 9) (by decide) (by decide) hk (fun j hj => by rw [q.2.1]; exact hno j hj) (by rw [q.2.1]; exact hyes) hmw q.2.1 (N := nm d t w s (ap s) l) (fun j hj => ⟨nm_lt (by omega) (by omega) (by omega) (by omega) (by omega) (by omega), tell6_n hj⟩)
      refine ⟨S', ?_, s2, s3, fun c a b => (s4 c b).trans ((tell6_fr S _ _ _ _ _ _).2.2 c a b)⟩
      rw [eatsOf_tell hS.1 (by omega), ham S hS s hs]
      have hcl := (clN_le 0 9 (by decide) (f (nm d t w s (ap s) l))).2
      exact (congrArg (fun z => Option.bind z _) s1).trans (minM (by omega) (by omega))

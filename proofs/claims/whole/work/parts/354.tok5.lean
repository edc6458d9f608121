/-! TOKENS: what the reference asks of them -/
theorem sgB_list : ∀ c, c < 256 → sgB c = true → c ≠ 0 ∧ c ≠ 1 ∧ c ≠ 2 ∧ c ≠ 3 ∧ c ≠ 4 ∧ c ≠ 5 ∧ c ≠ 44 ∧ c < 64 := by decide +kernel
theorem sgB_lt {c : Nat} (h : sgB c = true) : c < 64 := by
  unfold sgB at h
  simp at h
  omega
theorem tk_sign {T : xS} {b : Nat → Nat} {κ st v bh : Nat} (h : TMk T b κ st v bh) {c : Nat} (hs : sgB c = true) : gI T 0 9 = nI c ↔ κ = c := by
  have hc := sgB_lt hs
  obtain ⟨a0, a1, a2, a3, a4, a5, a6, -⟩ := sgB_list c (by omega) hs
  have E : ∀ x y : Nat, x < 100 → x ≠ c → y ≠ c → κ = y → gI T 0 9 = nI x → (gI T 0 9 = nI c ↔ κ = c) := fun x y h1 h2 h3 h4 h5 => ⟨fun q => absurd ((nI_eq (by omega) (by omega)).mp (h5.symm.trans q)) h2, fun q => absurd (h4.symm.trans q) h3⟩
  rcases h with ⟨h1, h2⟩ | ⟨h1, h2 | h2⟩ | ⟨h1, h2, -⟩ | ⟨h1, h2⟩ | ⟨h1, h2⟩ | ⟨h1, h2⟩ | ⟨h2, h1 | ⟨k, h3, h1⟩, -⟩
  · exact E 0 0 (by omega) (by omega) (by omega) h1 h2
  · exact E 3 1 (by omega) (by omega) (by omega) h1 h2
  · exact E 44 1 (by omega) (by omega) (by omega) h1 h2
  · exact E 1 2 (by omega) (by omega) (by omega) h1 h2
  · exact E 4 3 (by omega) (by omega) (by omega) h1 h2
  · exact E 5 4 (by omega) (by omega) (by omega) h1 h2
  · have := sgB_lt h1
    rw [h2]
    exact nI_eq (by omega) (by omega)
  · exact E 2 1 (by omega) (by omega) (by omega) h1 h2
  · exact E 2 (200 + k) (by omega) (by omega) (by omega) h1 h2
/-- the kinds that aren't signs -/
theorem tk_spec {T : xS} {b : Nat → Nat} {κ st v bh : Nat} (h : TMk T b κ st v bh) : (gI T 0 9 = 0 ↔ κ = 0) ∧ (gI T 0 9 = 1 ↔ κ = 2) ∧ (gI T 0 9 = 4 ↔ κ = 3) ∧ (gI T 0 9 = 5 ↔ κ = 4) := by
  have E : ∀ x y : Nat, x < 100 → κ = y → gI T 0 9 = nI x → ((x = 0 ↔ y = 0) ∧ (x = 1 ↔ y = 2) ∧ (x = 4 ↔ y = 3) ∧ (x = 5 ↔ y = 4)) → (gI T 0 9 = 0 ↔ κ = 0) ∧ (gI T 0 9 = 1 ↔ κ = 2) ∧ (gI T 0 9 = 4 ↔ κ = 3) ∧ (gI T 0 9 = 5 ↔ κ = 4) := fun x y h1 h2 h3 h4 => by
    rw [h3, h2]
    refine ⟨(nI_eq (a := x) (b := 0) (by omega) (by decide)).trans h4.1, (nI_eq (a := x) (b := 1) (by omega) (by decide)).trans h4.2.1, (nI_eq (a := x) (b := 4) (by omega) (by decide)).trans h4.2.2.1, (nI_eq (a := x) (b := 5) (by omega) (by decide)).trans h4.2.2.2⟩
  rcases h with ⟨h1, h2⟩ | ⟨h1, h2 | h2⟩ | ⟨h1, h2, -⟩ | ⟨h1, h2⟩ | ⟨h1, h2⟩ | ⟨h1, h2⟩ | ⟨h2, h1 | ⟨k, h3, h1⟩, -⟩
  · exact E 0 0 (by omega) h1 h2 (by omega)
  · exact E 3 1 (by omega) h1 h2 (by omega)
  · exact E 44 1 (by omega) h1 h2 (by omega)
  · exact E 1 2 (by omega) h1 h2 (by omega)
  · exact E 4 3 (by omega) h1 h2 (by omega)
  · exact E 5 4 (by omega) h1 h2 (by omega)
  · have hk := sgB_lt h1
    obtain ⟨a0, a1, a2, a3, a4, a5, a6, -⟩ := sgB_list κ (by omega) h1
    exact E κ κ (by omega) rfl h2 (by omega)
  · exact E 2 1 (by omega) h1 h2 (by omega)
  · exact E 2 (200 + k) (by omega) h1 h2 (by omega)
/-- a word's test -/
theorem tk_word {T : xS} {b : Nat → Nat} {κ st v bh : Nat} (h : TMk T b κ st v bh) {j : Nat} (hj : j < 18) (h16 : j ≠ 16) {α : Type} (A B : α) : (if (gI T 0 9 = 2 : Prop) then (if ((lg_cmp (gJ T 0 11) (wk j)) = 0 : Prop) then A else B) else B) = if κ = 200 + j then A else B := by
  have E : ∀ x : Nat, x < 100 → x ≠ 2 → κ < 200 → gI T 0 9 = nI x → (if (gI T 0 9 = 2 : Prop) then (if ((lg_cmp (gJ T 0 11) (wk j)) = 0 : Prop) then A else B) else B) = if κ = 200 + j then A else B := fun x h1 h2 h3 h4 => by
    rw [if_neg (show ¬ gI T 0 9 = 2 from fun q => h2 ((nI_eq (a := x) (b := 2) (by omega) (by decide)).mp (h4.symm.trans q))), if_neg (by omega)]
  rcases h with ⟨h1, h2⟩ | ⟨h1, h2 | h2⟩ | ⟨h1, h2, -⟩ | ⟨h1, h2⟩ | ⟨h1, h2⟩ | ⟨h1, h2⟩ | ⟨h2, h1, h3, -⟩
  · exact E 0 (by omega) (by omega) (by omega) h2
  · exact E 3 (by omega) (by omega) (by omega) h2
  · exact E 44 (by omega) (by omega) (by omega) h2
  · exact E 1 (by omega) (by omega) (by omega) h2
  · exact E 4 (by omega) (by omega) (by omega) h2
  · exact E 5 (by omega) (by omega) (by omega) h2
  · have hk := sgB_lt h1
    obtain ⟨a0, a1, a2, a3, a4, a5, a6, -⟩ := sgB_list κ (by omega) h1
    exact E κ (by omega) (by omega) (by omega) h2
  · rw [if_pos h2]
    by_cases q : κ = 200 + j
    · rw [if_pos ((lg_cmp_eq _ _).mpr ((h3 j hj h16).mpr q)), if_pos q]
    · rw [if_neg (fun e => q ((h3 j hj h16).mp ((lg_cmp_eq _ _).mp e))), if_neg q]
theorem isWord_m {T : xS} {b : Nat → Nat} {κ st v bh : Nat} (h : TMk T b κ st v bh) {j : Nat} (hj : j < 18) (h16 : j ≠ 16) : mX9_isWord T 0 (wk j) = some (if κ = 200 + j then 1 else 0, T) := by
  unfold mX9_isWord
  rw [tk_word h hj h16]
  split <;> rfl
theorem app_m {S T : xS} {len : Nat} {b : Nat → Nat} {st bh : Nat} (hM : RMr T) (hT : TP S T len b) (h8 : gI T 0 8 = nI st) (h7 : gI T 0 7 = nI bh) (hsb : st ≤ bh) (hbl : bh ≤ len) : ∃ r, mX9_isAppetite T 0 = some (r, T) ∧ ((r = 1 ∧ mtW b st bh 16) ∨ (r = 0 ∧ ¬ mtW b st bh 16)) := by
  have hl := hT.1
  unfold mX9_isAppetite
  rw [h7, h8, pk_sub hsb]
  by_cases h0 : ¬ bh - st = 8
  · rw [if_neg (show ¬ nI (bh - st) = (8 : Int32) from fun q => h0 ((nI_eq (a := bh - st) (b := 8) (by omega) (by decide)).mp q))]
    exact ⟨0, rfl, Or.inr ⟨rfl, fun h => h0 (by have := h.1; have : lnW 16 = 8 := (by decide); omega)⟩⟩
  have h0 : bh - st = 8 := Decidable.of_not_not h0
  rw [if_pos (show nI (bh - st) = (8 : Int32) by rw [h0]; rfl)]
  have B : ∀ i, i < 8 → mX9_byteAt T 0 (nI (st + i)) = some (nI (b (st + i)), T) ∧ b (st + i) < 256 := fun i hi => by
    rw [byte_m hM hT (st + i) (by omega), if_pos (by omega)]
    exact ⟨rfl, (hT.2.2.2 (st + i) (by omega)).2.2⟩
  have ne : ∀ i c : Nat, i < 8 → c < 256 → chW (75 + i) = c → ¬ b (st + i) = c → (¬ nI (b (st + i)) = nI c) ∧ ¬ mtW b st bh 16 := fun i c hi hc h1 h2 => by
    have := (B i hi).2
    exact ⟨fun q => h2 ((nI_eq (by omega) (by omega)).mp q), fun q => h2 ((q.2 i hi).trans h1)⟩
  have a0 : nI st = nI (st + 0) := rfl
  have a1 : nI st + 1 = nI (st + 1) := nI_1 st
  have a2 : nI st + 2 = nI (st + 2) := nI_add st 2
  have a3 : nI st + 3 = nI (st + 3) := nI_add st 3
  have a4 : nI st + 4 = nI (st + 4) := nI_add st 4
  have a5 : nI st + 5 = nI (st + 5) := nI_add st 5
  have a6 : nI st + 6 = nI (st + 6) := nI_add st 6
  have a7 : nI st + 7 = nI (st + 7) := nI_add st 7
  rw [a0, (B 0 (by decide)).1, Option.bind_some]
  dsimp only
  by_cases c0 : ¬ b (st + 0) = 97
  · obtain ⟨n1, n2⟩ := ne 0 97 (by decide) (by decide) rfl c0
    exact ⟨0, by rw [if_neg (show ¬ nI (b (st + 0)) = (97 : Int32) from n1)], Or.inr ⟨rfl, n2⟩⟩
  have c0 : b (st + 0) = 97 := Decidable.of_not_not c0
  rw [if_pos (show nI (b (st + 0)) = (97 : Int32) by rw [c0]; rfl), h8, a1, (B 1 (by decide)).1, Option.bind_some]
  dsimp only
  by_cases c1 : ¬ b (st + 1) = 112
  · obtain ⟨n1, n2⟩ := ne 1 112 (by decide) (by decide) rfl c1
    exact ⟨0, by rw [if_neg (show ¬ nI (b (st + 1)) = (112 : Int32) from n1)], Or.inr ⟨rfl, n2⟩⟩
  have c1 : b (st + 1) = 112 := Decidable.of_not_not c1
  rw [if_pos (show nI (b (st + 1)) = (112 : Int32) by rw [c1]; rfl), h8, a2, (B 2 (by decide)).1, Option.bind_some]
  dsimp only
  by_cases c2 : ¬ b (st + 2) = 112
  · obtain ⟨n1, n2⟩ := ne 2 112 (by decide) (by decide) rfl c2
    exact ⟨0, by rw [if_neg (show ¬ nI (b (st + 2)) = (112 : Int32) from n1)], Or.inr ⟨rfl, n2⟩⟩
  have c2 : b (st + 2) = 112 := Decidable.of_not_not c2
  rw [if_pos (show nI (b (st + 2)) = (112 : Int32) by rw [c2]; rfl), h8, a3, (B 3 (by decide)).1, Option.bind_some]
  dsimp only
  by_cases c3 : ¬ b (st + 3) = 101
  · obtain ⟨n1, n2⟩ := ne 3 101 (by decide) (by decide) rfl c3
    exact ⟨0, by rw [if_neg (show ¬ nI (b (st + 3)) = (101 : Int32) from n1)], Or.inr ⟨rfl, n2⟩⟩
  have c3 : b (st + 3) = 101 := Decidable.of_not_not c3
  rw [if_pos (show nI (b (st + 3)) = (101 : Int32) by rw [c3]; rfl), h8, a4, (B 4 (by decide)).1, Option.bind_some]
  dsimp only
  by_cases c4 : ¬ b (st + 4) = 116
  · obtain ⟨n1, n2⟩ := ne 4 116 (by decide) (by decide) rfl c4
    exact ⟨0, by rw [if_neg (show ¬ nI (b (st + 4)) = (116 : Int32) from n1)], Or.inr ⟨rfl, n2⟩⟩
  have c4 : b (st + 4) = 116 := Decidable.of_not_not c4
  rw [if_pos (show nI (b (st + 4)) = (116 : Int32) by rw [c4]; rfl), h8, a5, (B 5 (by decide)).1, Option.bind_some]
  dsimp only
  by_cases c5 : ¬ b (st + 5) = 105
  · obtain ⟨n1, n2⟩ := ne 5 105 (by decide) (by decide) rfl c5
    exact ⟨0, by rw [if_neg (show ¬ nI (b (st + 5)) = (105 : Int32) from n1)], Or.inr ⟨rfl, n2⟩⟩
  have c5 : b (st + 5) = 105 := Decidable.of_not_not c5
  rw [if_pos (show nI (b (st + 5)) = (105 : Int32) by rw [c5]; rfl), h8, a6, (B 6 (by decide)).1, Option.bind_some]
  dsimp only
  by_cases c6 : ¬ b (st + 6) = 116
  · obtain ⟨n1, n2⟩ := ne 6 116 (by decide) (by decide) rfl c6
    exact ⟨0, by rw [if_neg (show ¬ nI (b (st + 6)) = (116 : Int32) from n1)], Or.inr ⟨rfl, n2⟩⟩
  have c6 : b (st + 6) = 116 := Decidable.of_not_not c6
  rw [if_pos (show nI (b (st + 6)) = (116 : Int32) by rw [c6]; rfl), h8, a7, (B 7 (by decide)).1, Option.bind_some]
  dsimp only
  by_cases c7 : ¬ b (st + 7) = 101
  · obtain ⟨n1, n2⟩ := ne 7 101 (by decide) (by decide) rfl c7
    exact ⟨0, by rw [if_neg (show ¬ nI (b (st + 7)) = (101 : Int32) from n1)], Or.inr ⟨rfl, n2⟩⟩
  have c7 : b (st + 7) = 101 := Decidable.of_not_not c7
  rw [if_pos (show nI (b (st + 7)) = (101 : Int32) by rw [c7]; rfl)]
  refine ⟨1, rfl, Or.inl ⟨rfl, by show bh = st + 8; omega, fun i hi => ?_⟩⟩
  have hi : i < 8 := hi
  rcases (show i = 0 ∨ i = 1 ∨ i = 2 ∨ i = 3 ∨ i = 4 ∨ i = 5 ∨ i = 6 ∨ i = 7 by omega) with rfl | rfl | rfl | rfl | rfl | rfl | rfl | rfl
  · exact c0
  · exact c1
  · exact c2
  · exact c3
  · exact c4
  · exact c5
  · exact c6
  · exact c7
theorem wk_vals : ((((((100 : Int32).toInt64) <<< ((8 : Int32).toInt64 &&& 63)) ||| ((97 : Int32).toInt64)) <<< ((8 : Int32).toInt64 &&& 63)) ||| ((121 : Int32).toInt64) = wk 12) ∧ wk 6 = 24948 ∧ wk 7 = 26982 ∧ wk 8 = 28530 := by decide +kernel
theorem w_day (T : xS) : mX9_w3 T 100 97 121 = some (wk 12, T) := by
  unfold mX9_w3
  rw [show ((((((100 : Int32).toInt64) <<< ((8 : Int32).toInt64 &&& 63)) ||| ((97 : Int32).toInt64)) <<< ((8 : Int32).toInt64 &&& 63)) ||| ((121 : Int32).toInt64)) = wk 12 from by decide +kernel]
theorem w_not (T : xS) : mX9_w3 T 110 111 116 = some (wk 10, T) := by
  unfold mX9_w3
  rw [show ((((((110 : Int32).toInt64) <<< ((8 : Int32).toInt64 &&& 63)) ||| ((111 : Int32).toInt64)) <<< ((8 : Int32).toInt64 &&& 63)) ||| ((116 : Int32).toInt64)) = wk 10 from by decide +kernel]
theorem w_and (T : xS) : mX9_w3 T 97 110 100 = some (wk 9, T) := by
  unfold mX9_w3
  rw [show ((((((97 : Int32).toInt64) <<< ((8 : Int32).toInt64 &&& 63)) ||| ((110 : Int32).toInt64)) <<< ((8 : Int32).toInt64 &&& 63)) ||| ((100 : Int32).toInt64)) = wk 9 from by decide +kernel]
theorem w_end (T : xS) : mX9_w3 T 101 110 100 = some (wk 11, T) := by
  unfold mX9_w3
  rw [show ((((((101 : Int32).toInt64) <<< ((8 : Int32).toInt64 &&& 63)) ||| ((110 : Int32).toInt64)) <<< ((8 : Int32).toInt64 &&& 63)) ||| ((100 : Int32).toInt64)) = wk 11 from by decide +kernel]
theorem w4_eq (T : xS) (a b c d : Int32) (w : Int64) (h : ((((((((a : Int32).toInt64) <<< ((8 : Int32).toInt64 &&& 63)) ||| ((b : Int32).toInt64)) <<< ((8 : Int32).toInt64 &&& 63)) ||| ((c : Int32).toInt64)) <<< ((8 : Int32).toInt64 &&& 63)) ||| ((d : Int32).toInt64)) = w) : mX9_w4 T a b c d = some (w, T) := by
  unfold mX9_w4 mX9_w3
  rw [Option.bind_some]
  dsimp only
  rw [h]
theorem w5_eq (T : xS) (a b c d e : Int32) (w : Int64) (h : ((((((((((a : Int32).toInt64) <<< ((8 : Int32).toInt64 &&& 63)) ||| ((b : Int32).toInt64)) <<< ((8 : Int32).toInt64 &&& 63)) ||| ((c : Int32).toInt64)) <<< ((8 : Int32).toInt64 &&& 63)) ||| ((d : Int32).toInt64)) <<< ((8 : Int32).toInt64 &&& 63)) ||| ((e : Int32).toInt64)) = w) : mX9_w5 T a b c d e = some (w, T) := by
  unfold mX9_w5 mX9_w3
  rw [Option.bind_some]
  dsimp only
  rw [h]
theorem w6_eq (T : xS) (a b c d e g : Int32) (w : Int64) (h : ((((((((((((a : Int32).toInt64) <<< ((8 : Int32).toInt64 &&& 63)) ||| ((b : Int32).toInt64)) <<< ((8 : Int32).toInt64 &&& 63)) ||| ((c : Int32).toInt64)) <<< ((8 : Int32).toInt64 &&& 63)) ||| ((d : Int32).toInt64)) <<< ((8 : Int32).toInt64 &&& 63)) ||| ((e : Int32).toInt64)) <<< ((8 : Int32).toInt64 &&& 63)) ||| ((g : Int32).toInt64)) = w) : mX9_w6 T a b c d e g = some (w, T) := by
  unfold mX9_w6
  rw [w5_eq T a b c d e _ rfl, Option.bind_some]
  dsimp only
  rw [h]
theorem nameOf_m {S T : xS} {len : Nat} {b : Nat → Nat} {κ st v bh : Nat} (hM : RMr T) (hT : TP S T len b) (h : TK S T len b κ st v bh) : mX9_nameOf T 0 = some (if 212 ≤ κ ∧ κ ≤ 217 then nI (κ - 212) else -1, T) := by
  obtain ⟨-, ⟨h8, h7⟩, ⟨hsb, hbl, -, -⟩, h⟩ := h
  unfold mX9_nameOf
  have E : ∀ x : Nat, x < 100 → x ≠ 2 → κ < 200 → gI T 0 9 = nI x → ∀ A : Option (Int32 × xS), (if (gI T 0 9 = 2 : Prop) then A else some ((-1), T)) = some (if 212 ≤ κ ∧ κ ≤ 217 then nI (κ - 212) else -1, T) := fun x h1 h2 h3 h4 A => by
    rw [if_neg (show ¬ gI T 0 9 = 2 from fun q => h2 ((nI_eq (a := x) (b := 2) (by omega) (by decide)).mp (h4.symm.trans q))), if_neg (by omega)]
  rcases h with ⟨h1, h2⟩ | ⟨h1, h2 | h2⟩ | ⟨h1, h2, -⟩ | ⟨h1, h2⟩ | ⟨h1, h2⟩ | ⟨h1, h2⟩ | ⟨h2, h1, h3, h4⟩
  · exact E 0 (by omega) (by omega) (by omega) h2 _
  · exact E 3 (by omega) (by omega) (by omega) h2 _
  · exact E 44 (by omega) (by omega) (by omega) h2 _
  · exact E 1 (by omega) (by omega) (by omega) h2 _
  · exact E 4 (by omega) (by omega) (by omega) h2 _
  · exact E 5 (by omega) (by omega) (by omega) h2 _
  · have hk := sgB_lt h1
    obtain ⟨a0, a1, a2, a3, a4, a5, a6, -⟩ := sgB_list κ (by omega) h1
    exact E κ (by omega) (by omega) (by omega) h2 _
  · rw [if_pos h2, w_day T, Option.bind_some]
    dsimp only
    have D : ∀ j, j < 18 → j ≠ 16 → ∀ A B : Option (Int32 × xS), (if ((lg_cmp (gJ T 0 11) (wk j)) = 0 : Prop) then A else B) = if κ = 200 + j then A else B := fun j hj h16 A B => by
      by_cases q : κ = 200 + j
      · rw [if_pos ((lg_cmp_eq _ _).mpr ((h3 j hj h16).mpr q)), if_pos q]
      · rw [if_neg (fun e => q ((h3 j hj h16).mp ((lg_cmp_eq _ _).mp e))), if_neg q]
    rw [D 12 (by decide) (by decide), w5_eq T 116 97 98 108 101 (wk 13) (by decide +kernel), Option.bind_some]
    dsimp only
    rw [D 13 (by decide) (by decide), w4_eq T 100 97 119 110 (wk 14) (by decide +kernel), Option.bind_some]
    dsimp only
    rw [D 14 (by decide) (by decide), w6_eq T 115 105 115 116 101 114 (wk 15) (by decide +kernel), Option.bind_some]
    dsimp only
    obtain ⟨r, r1, r2⟩ := app_m hM hT h8 h7 hsb hbl
    rw [D 15 (by decide) (by decide), r1, Option.bind_some]
    dsimp only
    rw [w4_eq T 108 101 102 116 (wk 17) (by decide +kernel), Option.bind_some]
    dsimp only
    rw [D 17 (by decide) (by decide)]
    by_cases c12 : κ = 200 + 12
    · rw [if_pos c12, if_pos (by omega), c12]; rfl
    rw [if_neg c12]
    by_cases c13 : κ = 200 + 13
    · rw [if_pos c13, if_pos (by omega), c13]; rfl
    rw [if_neg c13]
    by_cases c14 : κ = 200 + 14
    · rw [if_pos c14, if_pos (by omega), c14]; rfl
    rw [if_neg c14]
    by_cases c15 : κ = 200 + 15
    · rw [if_pos c15, if_pos (by omega), c15]; rfl
    rw [if_neg c15]
    rcases r2 with ⟨rfl, r2⟩ | ⟨rfl, r2⟩
    · have := h4.mp r2
      rw [if_neg n10, if_pos (by omega), this]; rfl
    · have : κ ≠ 216 := fun q => r2 (h4.mpr q)
      rw [if_pos rfl]
      by_cases c17 : κ = 200 + 17
      · rw [if_pos c17, if_pos (by omega), c17]; rfl
      rw [if_neg c17, if_neg (by omega)]
theorem sortOf_m {T : xS} {b : Nat → Nat} {κ st v bh : Nat} (h : TMk T b κ st v bh) : mX9_sortOf T 0 = some (if 200 ≤ κ ∧ κ ≤ 205 then nI (κ - 200) else -1, T) := by
  unfold mX9_sortOf
  rw [w6_eq T 115 108 105 99 101 115 (wk 0) (by decide +kernel), Option.bind_some]
  dsimp only
  rw [isWord_m h (j := 0) (by decide) (by decide), Option.bind_some]
  dsimp only
  by_cases c0 : κ = 200 + 0
  · rw [if_pos c0, if_neg n10, if_pos (by omega), c0]; rfl
  rw [if_neg c0, if_pos rfl, w4_eq T 101 97 116 115 (wk 1) (by decide +kernel), Option.bind_some]
  dsimp only
  rw [isWord_m h (j := 1) (by decide) (by decide), Option.bind_some]
  dsimp only
  by_cases c1 : κ = 200 + 1
  · rw [if_pos c1, if_neg n10, if_pos (by omega), c1]; rfl
  rw [if_neg c1, if_pos rfl, w4_eq T 115 101 97 116 (wk 2) (by decide +kernel), Option.bind_some]
  dsimp only
  rw [isWord_m h (j := 2) (by decide) (by decide), Option.bind_some]
  dsimp only
  by_cases c2 : κ = 200 + 2
  · rw [if_pos c2, if_neg n10, if_pos (by omega), c2]; rfl
  rw [if_neg c2, if_pos rfl, w4_eq T 104 105 100 101 (wk 3) (by decide +kernel), Option.bind_some]
  dsimp only
  rw [isWord_m h (j := 3) (by decide) (by decide), Option.bind_some]
  dsimp only
  by_cases c3 : κ = 200 + 3
  · rw [if_pos c3, if_neg n10, if_pos (by omega), c3]; rfl
  rw [if_neg c3, if_pos rfl, w4_eq T 103 105 118 101 (wk 4) (by decide +kernel), Option.bind_some]
  dsimp only
  rw [isWord_m h (j := 4) (by decide) (by decide), Option.bind_some]
  dsimp only
  by_cases c4 : κ = 200 + 4
  · rw [if_pos c4, if_neg n10, if_pos (by omega), c4]; rfl
  rw [if_neg c4, if_pos rfl, w4_eq T 112 97 115 115 (wk 5) (by decide +kernel), Option.bind_some]
  dsimp only
  rw [isWord_m h (j := 5) (by decide) (by decide), Option.bind_some]
  dsimp only
  by_cases c5 : κ = 200 + 5
  · rw [if_pos c5, if_neg n10, if_pos (by omega), c5]; rfl
  rw [if_neg c5, if_pos rfl, if_neg (by omega)]

def mX3_slicesAt (S : xS) (h0 : Nat) (p1 : Int32) (p2 : Int32) (p3 : Int32) : Option (Int32 × xS) := if gR S h0 3 = none then (some (12, S)) else ((dO Yc (gR S h0 3) 6).bind fun d2 => (mX6_hasSlices S d2).bind fun q3 => if (q3.1 = 0 : Prop) then (some (12, q3.2)) else ((dO Yc (gR q3.2 h0 2) 5).bind fun d5 => (mX5_tell q3.2 d5 p2 p1 p3).bind fun S6 => (dO Yc (gR S6 h0 2) 5).bind fun d7 => (dO Yc (gR S6 h0 3) 6).bind fun d8 => (dO Yc (gR S6 h0 3) 6).bind fun d9 => (mX5_worked S6 d7 (gR S6 h0 3) (gI S6 d8 3) (gI S6 d9 4)).bind fun q10 => some (if 1 < (if q10.1 < 60 then q10.1 else 60) then (if q10.1 < 60 then q10.1 else 60) else 1, q10.2)))
set_option maxHeartbeats 4000000 in
set_option maxRecDepth 100000 in
theorem kX3_slicesAt (l : Launch) (G : xG) (S : xS) (h0 : Nat) (p1 : Int32) (p2 : Int32) (p3 : Int32) (r : Int32) (S' : xS) (hk0 : xk Yc h0 = 3) (hM : mX3_slicesAt S h0 p1 p2 p3 = some (r, S')) : xM l yX3_slicesAt cX3_slicesAt 4 (some .int) 2 51 G Yc [.ref (xad G h0), .int p1, .int p2, .int p3] S (xQi G Yc r S') := by
  refine x_start (own := RX3) (by decide +kernel) rfl (Nat.le_of_ble_eq_true rfl) ?_
  intro p e s m below meth c ls X hl hP hS
  obtain ⟨hx, hb, hml, hown, hts, hr, hlk, hK, hE, hJ⟩ := id X
  have hl : lv_has ls 4 [(0, .ref (xad G h0)), (1, .int p1), (2, .int p2), (3, .int p3)] := hl
  unfold mX3_slicesAt at hM
  refine lv_aload_n hx hb dX3_slicesAt_0 rfl (lv_at hl 0 rfl) ?_
  refine frX3_3 X hP hk0 qw37 dX3_slicesAt_1 ?_
  refine x_ifnull (tgt := 17) hx hb dX3_slicesAt_4 (by decide) (fun c1 => ?_) (fun c1 => ?_)
  · replace hM := (if_pos c1).symm.trans hM
    refine lv_bipush (v := 12) hx hb dX3_slicesAt_17 (by decide) ?_
    exact x_iret X hP hS hM dX3_slicesAt_19
  · replace hM := (if_neg c1).symm.trans hM
    refine lv_aload_n hx hb dX3_slicesAt_7 rfl (lv_at hl 0 rfl) ?_
    obtain ⟨d2, ed2, hM⟩ := xb hM
    refine fdX3_3 X hP hk0 qw37 dX3_slicesAt_8 ed2 ?_
    obtain ⟨q3, eq3, hM⟩ := xb hM
    refine x_goi (x_runV (rest := []) X (kX6_hasSlices l G S d2 q3.1 q3.2 (dO_k ed2) eq3) qw38 okX6_hasSlices ⟨Nat.le_of_ble_eq_true rfl, Nat.le_of_ble_eq_true rfl⟩ (dO_k ed2) (by decide) rfl hP hS rfl hl.1 rfl (Nat.le_of_ble_eq_true rfl) dX3_slicesAt_11) hS (fun H locs hP hS => ?_)
    refine lv_if_ne (tgt := 20) hx hb dX3_slicesAt_14 (by decide) (fun c4 => ?_) (fun c4 => ?_)
    · replace hM := (if_neg c4).symm.trans hM
      refine lv_aload_n hx hb dX3_slicesAt_20 rfl (lv_at hl 0 rfl) ?_
      obtain ⟨d5, ed5, hM⟩ := xb hM
      refine fdX3_2 X hP hk0 qw39 dX3_slicesAt_21 ed5 ?_
      refine lv_iload_n hx hb dX3_slicesAt_24 rfl (lv_at hl 2 rfl) ?_
      refine lv_iload_n hx hb dX3_slicesAt_25 rfl (lv_at hl 1 rfl) ?_
      refine lv_iload_n hx hb dX3_slicesAt_26 rfl (lv_at hl 3 rfl) ?_
      obtain ⟨S6, eS6, hM⟩ := xb hM
      refine x_gov (x_runV (rest := []) X (kX5_tell l G q3.2 d5 p2 p1 p3 S6 (dO_k ed5) eS6) qw40 okX5_tell ⟨Nat.le_of_ble_eq_true rfl, Nat.le_of_ble_eq_true rfl⟩ (dO_k ed5) (by decide) rfl hP hS rfl hl.1 rfl (Nat.le_of_ble_eq_true rfl) dX3_slicesAt_27) hS (fun H locs hP hS => ?_)
      refine lv_iconst (v := 1) hx hb dX3_slicesAt_30 (by decide) ?_
      refine lv_bipush (v := 60) hx hb dX3_slicesAt_31 (by decide) ?_
      refine lv_aload_n hx hb dX3_slicesAt_33 rfl (lv_at hl 0 rfl) ?_
      obtain ⟨d7, ed7, hM⟩ := xb hM
      refine fdX3_2 X hP hk0 qw39 dX3_slicesAt_34 ed7 ?_
      refine lv_aload_n hx hb dX3_slicesAt_37 rfl (lv_at hl 0 rfl) ?_
      refine frX3_3 X hP hk0 qw37 dX3_slicesAt_38 ?_
      refine lv_aload_n hx hb dX3_slicesAt_41 rfl (lv_at hl 0 rfl) ?_
      obtain ⟨d8, ed8, hM⟩ := xb hM
      refine fdX3_3 X hP hk0 qw37 dX3_slicesAt_42 ed8 ?_
      refine fgX6_3 X hP (dO_k ed8) qw41 dX3_slicesAt_45 ?_
      refine lv_aload_n hx hb dX3_slicesAt_48 rfl (lv_at hl 0 rfl) ?_
      obtain ⟨d9, ed9, hM⟩ := xb hM
      refine fdX3_3 X hP hk0 qw37 dX3_slicesAt_49 ed9 ?_
      refine fgX6_4 X hP (dO_k ed9) qw42 dX3_slicesAt_52 ?_
      obtain ⟨q10, eq10, hM⟩ := xb hM
      refine x_goi (x_runV (rest := [.int 60, .int 1]) X (kX5_worked l G S6 d7 (gR S6 h0 3) (gI S6 d8 3) (gI S6 d9 4) q10.1 q10.2 (dO_k ed7) eq10) qw43 okX5_worked ⟨Nat.le_of_ble_eq_true rfl, Nat.le_of_ble_eq_true rfl⟩ (dO_k ed7) (by decide) rfl hP hS rfl hl.1 rfl (Nat.le_of_ble_eq_true rfl) dX3_slicesAt_55) hS (fun H locs hP hS => ?_)
      refine x_mmin X qw44 xokMmin hl.1 (Nat.le_of_ble_eq_true rfl) (Nat.le_of_ble_eq_true rfl) dX3_slicesAt_58 ?_
      refine x_mmax X qw45 xokMmax hl.1 (Nat.le_of_ble_eq_true rfl) (Nat.le_of_ble_eq_true rfl) dX3_slicesAt_61 ?_
      exact x_iret X hP hS hM dX3_slicesAt_64
    · replace hM := (if_pos c4).symm.trans hM
      refine lv_bipush (v := 12) hx hb dX3_slicesAt_17 (by decide) ?_
      exact x_iret X hP hS hM dX3_slicesAt_19

def mX6_hasEats (S : xS) (h0 : Nat) : Option (Int32 × xS) := if ((gI S h0 6) ≤ (gI S h0 5) : Prop) then (some (0, S)) else (some (1, S))
set_option maxHeartbeats 4000000 in
set_option maxRecDepth 100000 in
theorem kX6_hasEats (l : Launch) (G : xG) (S : xS) (h0 : Nat) (r : Int32) (S' : xS) (hk0 : xk Yc h0 = 6) (hM : mX6_hasEats S h0 = some (r, S')) : xM l yX6_hasEats cX6_hasEats 1 (some .boolean) 0 0 G Yc [.ref (xad G h0)] S (xQi G Yc r S') := by
  refine x_start (own := RX6) (by decide +kernel) rfl (Nat.le_of_ble_eq_true rfl) ?_
  intro p e s m below meth c ls X hl hP hS
  obtain ⟨hx, hb, hml, hown, hts, hr, hlk, hK, hE, hJ⟩ := id X
  have hl : lv_has ls 1 [(0, .ref (xad G h0))] := hl
  unfold mX6_hasEats at hM
  refine lv_aload_n hx hb dX6_hasEats_0 rfl (lv_at hl 0 rfl) ?_
  refine fgX6_5 X hP hk0 qw46 dX6_hasEats_1 ?_
  refine lv_aload_n hx hb dX6_hasEats_4 rfl (lv_at hl 0 rfl) ?_
  refine fgX6_6 X hP hk0 qw47 dX6_hasEats_5 ?_
  refine lv_icmp_ge (tgt := 15) hx hb dX6_hasEats_8 (by decide) (fun c1 => ?_) (fun c1 => ?_)
  · replace hM := (if_pos c1).symm.trans hM
    refine lv_iconst (v := 0) hx hb dX6_hasEats_15 (by decide) ?_
    exact x_zret X hP hS (Or.inl rfl) hM dX6_hasEats_16
  · replace hM := (if_neg c1).symm.trans hM
    refine lv_iconst (v := 1) hx hb dX6_hasEats_11 (by decide) ?_
    refine lv_goto (tgt := 16) hx hb dX6_hasEats_12 (by decide) ?_
    exact x_zret X hP hS (Or.inr rfl) hM dX6_hasEats_16

def mX5_tellEater (S : xS) (h0 : Nat) (p1 : Int32) (p2 : Int32) (p3 : Int32) : Option xS := (dO Yc (gR S h0 0) 10).bind fun d1 => (sI Yc S d1 3 p1).bind fun S2 => (dO Yc (gR S2 h0 0) 10).bind fun d3 => (sI Yc S2 d3 4 p2).bind fun S4 => (dO Yc (gR S4 h0 0) 10).bind fun d5 => (sI Yc S4 d5 5 p3).bind fun S6 => some S6
set_option maxHeartbeats 4000000 in
set_option maxRecDepth 100000 in
theorem kX5_tellEater (l : Launch) (G : xG) (S : xS) (h0 : Nat) (p1 : Int32) (p2 : Int32) (p3 : Int32) (S' : xS) (hk0 : xk Yc h0 = 5) (hM : mX5_tellEater S h0 p1 p2 p3 = some S') : xM l yX5_tellEater cX5_tellEater 4 none 0 0 G Yc [.ref (xad G h0), .int p1, .int p2, .int p3] S (xQv G Yc S') := by
  refine x_start (own := RX5) (by decide +kernel) rfl (Nat.le_of_ble_eq_true rfl) ?_
  intro p e s m below meth c ls X hl hP hS
  obtain ⟨hx, hb, hml, hown, hts, hr, hlk, hK, hE, hJ⟩ := id X
  have hl : lv_has ls 4 [(0, .ref (xad G h0)), (1, .int p1), (2, .int p2), (3, .int p3)] := hl
  unfold mX5_tellEater at hM
  refine lv_aload_n hx hb dX5_tellEater_0 rfl (lv_at hl 0 rfl) ?_
  obtain ⟨d1, ed1, hM⟩ := xb hM
  refine fdX5_0 X hP hk0 qw25 dX5_tellEater_1 ed1 ?_
  refine lv_iconst (v := 3) hx hb dX5_tellEater_4 (by decide) ?_
  refine lv_iload_n hx hb dX5_tellEater_5 rfl (lv_at hl 1 rfl) ?_
  obtain ⟨S2, eS2, hM⟩ := xb hM
  refine x_iast X hP hS (dO_k ed1) eS2 dX5_tellEater_6 (fun H locs hP hS => ?_)
  refine lv_aload_n hx hb dX5_tellEater_7 rfl (lv_at hl 0 rfl) ?_
  obtain ⟨d3, ed3, hM⟩ := xb hM
  refine fdX5_0 X hP hk0 qw25 dX5_tellEater_8 ed3 ?_
  refine lv_iconst (v := 4) hx hb dX5_tellEater_11 (by decide) ?_
  refine lv_iload_n hx hb dX5_tellEater_12 rfl (lv_at hl 2 rfl) ?_
  obtain ⟨S4, eS4, hM⟩ := xb hM
  refine x_iast X hP hS (dO_k ed3) eS4 dX5_tellEater_13 (fun H locs hP hS => ?_)
  refine lv_aload_n hx hb dX5_tellEater_14 rfl (lv_at hl 0 rfl) ?_
  obtain ⟨d5, ed5, hM⟩ := xb hM
  refine fdX5_0 X hP hk0 qw25 dX5_tellEater_15 ed5 ?_
  refine lv_iconst (v := 5) hx hb dX5_tellEater_18 (by decide) ?_
  refine lv_iload_n hx hb dX5_tellEater_19 rfl (lv_at hl 3 rfl) ?_
  obtain ⟨S6, eS6, hM⟩ := xb hM
  refine x_iast X hP hS (dO_k ed5) eS6 dX5_tellEater_20 (fun H locs hP hS => ?_)
  exact x_vret X hP hS hM dX5_tellEater_21

def jX3_eatenBy_137 (k51 : xS → Nat → Int32 → Nat → Int32 → Int32 → Int32 → Option (Int32 × xS)) (S : xS) (h0 : Nat) (v1 : Int32) (h2 : Nat) (v3 : Int32) (v4 : Int32) (v5 : Int32) (v6 : Int32) : Option (Int32 × xS) := xlet (pI S h2 2 ((gI S h2 2) - (if (gI S h2 2) < v6 then (gI S h2 2) else v6))) fun S1 => k51 S1 h0 v1 h2 v3 v4 (v5 + 1)
set_option maxHeartbeats 4000000 in
set_option maxRecDepth 100000 in
theorem wX3_eatenBy_137 {p : Program} {l : Launch} {e : Env} {s : State} {m : MethodId} {args : Array Value} {below : List Frame} {meth : Method} {c : Code} {G : xG} {r : Int32} {S' : xS} (X : xX p s m args meth c cX3_eatenBy 7 (some .int) RX3 G Yc) (k51 : xS → Nat → Int32 → Nat → Int32 → Int32 → Int32 → Option (Int32 × xS)) (hh51 : ∀ (S : xS) (h0 : Nat) (v1 : Int32) (h2 : Nat) (v3 : Int32) (v4 : Int32) (v5 : Int32) (H : Heap) (locs : List Loc) (ls : Array Slot), k51 S h0 v1 h2 v3 v4 v5 = some (r, S') → xk Yc h0 = 3 → xk Yc h2 = 0 → xP G Yc S H → va_S (xA G Yc) s.heap H locs → lv_has ls 7 [(0, .ref (xad G h0)), (1, .int v1), (2, .ref (xad G h2)), (3, .int v3), (4, .int v4), (5, .int v5)] → W p l e (xr 2 51) s m args below meth c H locs 0 0 (MQ below (xQi G Yc r S') args s 0 0 (xA G Yc)) (F0 m 51 ls [])) : ∀ (S : xS) (h0 : Nat) (v1 : Int32) (h2 : Nat) (v3 : Int32) (v4 : Int32) (v5 : Int32) (v6 : Int32) (H : Heap) (locs : List Loc) (ls : Array Slot), jX3_eatenBy_137 k51 S h0 v1 h2 v3 v4 v5 v6 = some (r, S') → xk Yc h0 = 3 → xk Yc h2 = 0 → xP G Yc S H → va_S (xA G Yc) s.heap H locs → lv_has ls 7 [(0, .ref (xad G h0)), (1, .int v1), (2, .ref (xad G h2)), (3, .int v3), (4, .int v4), (5, .int v5), (6, .int v6)] → W p l e (xr 2 51) s m args below meth c H locs 0 0 (MQ below (xQi G Yc r S') args s 0 0 (xA G Yc)) (F0 m 137 ls []) := by
  obtain ⟨hx, hb, hml, hown, hts, hr, hlk, hK, hE, hJ⟩ := id X
  intro S h0 v1 h2 v3 v4 v5 v6 H locs ls hM hk0 hk2 hP hS hl
  unfold jX3_eatenBy_137 at hM
  refine lv_aload_n hx hb dX3_eatenBy_137 rfl (lv_at hl 2 rfl) ?_
  refine lv_dup hx hb dX3_eatenBy_138 rfl ?_
  refine fgX0_2 X hP hk2 qw48 dX3_eatenBy_139 ?_
  refine lv_iload hx hb dX3_eatenBy_142 (lv_at hl 6 rfl) ?_
  refine lv_aload_n hx hb dX3_eatenBy_144 rfl (lv_at hl 2 rfl) ?_
  refine fgX0_2 X hP hk2 qw48 dX3_eatenBy_145 ?_
  refine x_mmin X qw44 xokMmin hl.1 (Nat.le_of_ble_eq_true rfl) (Nat.le_of_ble_eq_true rfl) dX3_eatenBy_148 ?_
  refine lv_isub hx hb dX3_eatenBy_151 ?_
  obtain ⟨S1, eS1, hM⟩ := xlet_ex hM
  refine fpX0_2 X hP hS hk2 qw48 dX3_eatenBy_152 eS1 (fun H locs hP hS => ?_)
  refine lv_iinc (v := v5 + 1) (lv' := [(5, .int (v5 + 1)), (0, .ref (xad G h0)), (1, .int v1), (2, .ref (xad G h2)), (3, .int v3), (4, .int v4), (6, .int v6)]) hx hb dX3_eatenBy_155 hl (k := 5) rfl (by first | rfl | exact congrArg (fun z => v5 + z) (by decide)) (by decide) rfl (fun ls hl => ?_)
  refine lv_goto (tgt := 51) hx hb dX3_eatenBy_158 (by decide) ?_
  exact hh51 S1 h0 v1 h2 v3 v4 (v5 + 1) _ _ _ hM hk0 hk2 hP hS (lv_sub hl [1, 2, 3, 4, 5, 0] rfl)
def lX3_eatenBy_51 : Nat → xS → Nat → Int32 → Nat → Int32 → Int32 → Int32 → Option (Int32 × xS)
  | 0, _, _, _, _, _, _, _ => none
  | n + 1, S, h0, v1, h2, v3, v4, v5 => if (6 ≤ v5 : Prop) then (some (v3 - (gI S h2 2), S)) else (if (((v1 >>> (v5 &&& 31)) &&& 1) = 0 : Prop) then (lX3_eatenBy_51 n S h0 v1 h2 v3 v4 (v5 + 1)) else ((dO Yc (gR S h0 0) 1).bind fun d3 => (mX1_appetiteOf S d3 v5).bind fun q4 => if (v4 = 0 : Prop) then (jX3_eatenBy_137 (lX3_eatenBy_51  n) q4.2 h0 v1 h2 v3 v4 v5 q4.1) else ((dO Yc (gR q4.2 h0 2) 5).bind fun d6 => (mX5_tellEater q4.2 d6 v5 q4.1 (gI q4.2 h2 2)).bind fun S7 => (dO Yc (gR S7 h0 2) 5).bind fun d8 => (dO Yc (gR S7 h0 3) 6).bind fun d9 => (dO Yc (gR S7 h0 3) 6).bind fun d10 => (mX5_worked S7 d8 (gR S7 h0 3) (gI S7 d9 5) (gI S7 d10 6)).bind fun q11 => xlet (if 0 < (if q11.1 < 9 then q11.1 else 9) then (if q11.1 < 9 then q11.1 else 9) else 0 : Int32) fun x12 => jX3_eatenBy_137 (lX3_eatenBy_51  n) q11.2 h0 v1 h2 v3 v4 v5 x12)))
set_option maxHeartbeats 4000000 in
set_option maxRecDepth 100000 in
theorem wX3_eatenBy_51 {p : Program} {l : Launch} {e : Env} {s : State} {m : MethodId} {args : Array Value} {below : List Frame} {meth : Method} {c : Code} {G : xG} {r : Int32} {S' : xS} (X : xX p s m args meth c cX3_eatenBy 7 (some .int) RX3 G Yc) : ∀ (n : Nat), ∀ (S : xS) (h0 : Nat) (v1 : Int32) (h2 : Nat) (v3 : Int32) (v4 : Int32) (v5 : Int32) (H : Heap) (locs : List Loc) (ls : Array Slot), lX3_eatenBy_51  n S h0 v1 h2 v3 v4 v5 = some (r, S') → xk Yc h0 = 3 → xk Yc h2 = 0 → xP G Yc S H → va_S (xA G Yc) s.heap H locs → lv_has ls 7 [(0, .ref (xad G h0)), (1, .int v1), (2, .ref (xad G h2)), (3, .int v3), (4, .int v4), (5, .int v5)] → W p l e (xr 2 51) s m args below meth c H locs 0 0 (MQ below (xQi G Yc r S') args s 0 0 (xA G Yc)) (F0 m 51 ls []) := by
  obtain ⟨hx, hb, hml, hown, hts, hr, hlk, hK, hE, hJ⟩ := id X
  intro n
  induction n with
  | zero =>
    intro S h0 v1 h2 v3 v4 v5 H locs ls hM
    rw [lX3_eatenBy_51.eq_1] at hM
    cases hM
  | succ n ih =>
    intro S h0 v1 h2 v3 v4 v5 H locs ls hM hk0 hk2 hP hS hl
    rw [lX3_eatenBy_51.eq_2] at hM
    refine lv_iload hx hb dX3_eatenBy_51 (lv_at hl 5 rfl) ?_
    refine lv_bipush (v := 6) hx hb dX3_eatenBy_53 (by decide) ?_
    refine lv_icmp_ge (tgt := 161) hx hb dX3_eatenBy_55 (by decide) (fun c1 => ?_) (fun c1 => ?_)
    · replace hM := (if_pos c1).symm.trans hM
      refine lv_iload_n hx hb dX3_eatenBy_161 rfl (lv_at hl 3 rfl) ?_
      refine lv_aload_n hx hb dX3_eatenBy_162 rfl (lv_at hl 2 rfl) ?_
      refine fgX0_2 X hP hk2 qw48 dX3_eatenBy_163 ?_
      refine lv_isub hx hb dX3_eatenBy_166 ?_
      exact x_iret X hP hS hM dX3_eatenBy_167
    · replace hM := (if_neg c1).symm.trans hM
      refine lv_iload_n hx hb dX3_eatenBy_58 rfl (lv_at hl 1 rfl) ?_
      refine lv_iload hx hb dX3_eatenBy_59 (lv_at hl 5 rfl) ?_
      refine lv_ishr hx hb dX3_eatenBy_61 ?_
      refine lv_iconst (v := 1) hx hb dX3_eatenBy_62 (by decide) ?_
      refine lv_iand hx hb dX3_eatenBy_63 ?_
      refine lv_if_ne (tgt := 70) hx hb dX3_eatenBy_64 (by decide) (fun c2 => ?_) (fun c2 => ?_)
      · replace hM := (if_neg c2).symm.trans hM
        refine lv_aload_n hx hb dX3_eatenBy_70 rfl (lv_at hl 0 rfl) ?_
        obtain ⟨d3, ed3, hM⟩ := xb hM
        refine fdX3_0 X hP hk0 qw53 dX3_eatenBy_71 ed3 ?_
        refine lv_iload hx hb dX3_eatenBy_74 (lv_at hl 5 rfl) ?_
        obtain ⟨q4, eq4, hM⟩ := xb hM
        refine x_goi (x_runV (rest := []) X (kX1_appetiteOf l G S d3 v5 q4.1 q4.2 (dO_k ed3) eq4) qw54 okX1_appetiteOf ⟨Nat.le_of_ble_eq_true rfl, Nat.le_of_ble_eq_true rfl⟩ (dO_k ed3) (by decide) rfl hP hS rfl hl.1 rfl (Nat.le_of_ble_eq_true rfl) dX3_eatenBy_76) hS (fun H locs hP hS => ?_)
        refine lv_istore (lv' := [(6, .int q4.1), (0, .ref (xad G h0)), (1, .int v1), (2, .ref (xad G h2)), (3, .int v3), (4, .int v4), (5, .int v5)]) hx hb dX3_eatenBy_79 hl (by decide) rfl (fun ls hl => ?_)
        refine lv_iload hx hb dX3_eatenBy_81 (lv_at hl 5 rfl) ?_
        refine lv_if_eq (tgt := 137) hx hb dX3_eatenBy_83 (by decide) (fun c5 => ?_) (fun c5 => ?_)
        · replace hM := (if_pos c5).symm.trans hM
          exact wX3_eatenBy_137 X (lX3_eatenBy_51  n) ih q4.2 h0 v1 h2 v3 v4 v5 q4.1 _ _ _ hM hk0 hk2 hP hS (lv_sub hl [1, 2, 3, 4, 5, 6, 0] rfl)
        · replace hM := (if_neg c5).symm.trans hM
          refine lv_aload_n hx hb dX3_eatenBy_86 rfl (lv_at hl 1 rfl) ?_
          obtain ⟨d6, ed6, hM⟩ := xb hM
          refine fdX3_2 X hP hk0 qw39 dX3_eatenBy_87 ed6 ?_
          refine lv_iload hx hb dX3_eatenBy_90 (lv_at hl 6 rfl) ?_
          refine lv_iload hx hb dX3_eatenBy_92 (lv_at hl 0 rfl) ?_
          refine lv_aload_n hx hb dX3_eatenBy_94 rfl (lv_at hl 3 rfl) ?_
          refine fgX0_2 X hP hk2 qw48 dX3_eatenBy_95 ?_
          obtain ⟨S7, eS7, hM⟩ := xb hM
          refine x_gov (x_runV (rest := []) X (kX5_tellEater l G q4.2 d6 v5 q4.1 (gI q4.2 h2 2) S7 (dO_k ed6) eS7) qw55 okX5_tellEater ⟨Nat.le_of_ble_eq_true rfl, Nat.le_of_ble_eq_true rfl⟩ (dO_k ed6) (by decide) rfl hP hS rfl hl.1 rfl (Nat.le_of_ble_eq_true rfl) dX3_eatenBy_98) hS (fun H locs hP hS => ?_)
          refine lv_iconst (v := 0) hx hb dX3_eatenBy_101 (by decide) ?_
          refine lv_bipush (v := 9) hx hb dX3_eatenBy_102 (by decide) ?_
          refine lv_aload_n hx hb dX3_eatenBy_104 rfl (lv_at hl 1 rfl) ?_
          obtain ⟨d8, ed8, hM⟩ := xb hM
          refine fdX3_2 X hP hk0 qw39 dX3_eatenBy_105 ed8 ?_
          refine lv_aload_n hx hb dX3_eatenBy_108 rfl (lv_at hl 1 rfl) ?_
          refine frX3_3 X hP hk0 qw37 dX3_eatenBy_109 ?_
          refine lv_aload_n hx hb dX3_eatenBy_112 rfl (lv_at hl 1 rfl) ?_
          obtain ⟨d9, ed9, hM⟩ := xb hM
          refine fdX3_3 X hP hk0 qw37 dX3_eatenBy_113 ed9 ?_
          refine fgX6_5 X hP (dO_k ed9) qw56 dX3_eatenBy_116 ?_
          refine lv_aload_n hx hb dX3_eatenBy_119 rfl (lv_at hl 1 rfl) ?_
          obtain ⟨d10, ed10, hM⟩ := xb hM
          refine fdX3_3 X hP hk0 qw37 dX3_eatenBy_120 ed10 ?_
          refine fgX6_6 X hP (dO_k ed10) qw57 dX3_eatenBy_123 ?_
          obtain ⟨q11, eq11, hM⟩ := xb hM
          refine x_goi (x_runV (rest := [.int 9, .int 0]) X (kX5_worked l G S7 d8 (gR S7 h0 3) (gI S7 d9 5) (gI S7 d10 6) q11.1 q11.2 (dO_k ed8) eq11) qw43 okX5_worked ⟨Nat.le_of_ble_eq_true rfl, Nat.le_of_ble_eq_true rfl⟩ (dO_k ed8) (by decide) rfl hP hS rfl hl.1 rfl (Nat.le_of_ble_eq_true rfl) dX3_eatenBy_126) hS (fun H locs hP hS => ?_)
          refine x_mmin X qw44 xokMmin hl.1 (Nat.le_of_ble_eq_true rfl) (Nat.le_of_ble_eq_true rfl) dX3_eatenBy_129 ?_
          refine x_mmax X qw45 xokMmax hl.1 (Nat.le_of_ble_eq_true rfl) (Nat.le_of_ble_eq_true rfl) dX3_eatenBy_132 ?_
          obtain ⟨x12, ex12, hM⟩ := xlet_ex hM
          refine x_topi ex12 ?_
          refine lv_istore (lv' := [(6, .int x12), (0, .ref (xad G h0)), (1, .int v1), (2, .ref (xad G h2)), (3, .int v3), (4, .int v4), (5, .int v5)]) hx hb dX3_eatenBy_135 hl (by decide) rfl (fun ls hl => ?_)
          exact wX3_eatenBy_137 X (lX3_eatenBy_51  n) ih q11.2 h0 v1 h2 v3 v4 v5 x12 _ _ _ hM hk0 hk2 hP hS (lv_sub hl [1, 2, 3, 4, 5, 6, 0] rfl)
      · replace hM := (if_pos c2).symm.trans hM
        refine lv_goto (tgt := 155) hx hb dX3_eatenBy_67 (by decide) ?_
        refine lv_iinc (v := v5 + 1) (lv' := [(5, .int (v5 + 1)), (0, .ref (xad G h0)), (1, .int v1), (2, .ref (xad G h2)), (3, .int v3), (4, .int v4)]) hx hb dX3_eatenBy_155 hl (k := 5) rfl (by first | rfl | exact congrArg (fun z => v5 + z) (by decide)) (by decide) rfl (fun ls hl => ?_)
        refine lv_goto (tgt := 51) hx hb dX3_eatenBy_158 (by decide) ?_
        exact ih S h0 v1 h2 v3 v4 (v5 + 1) _ _ _ hM hk0 hk2 hP hS (lv_sub hl [1, 2, 3, 4, 5, 0] rfl)
def jX3_eatenBy_27 (S : xS) (h0 : Nat) (v1 : Int32) (h2 : Nat) (v3 : Int32) (t0 : Int32) : Option (Int32 × xS) := (dO Yc (gR S h0 2) 5).bind fun d1 => (mX5_tell S d1 (gI S h2 1) (gI S h2 0) (gI S h2 4)).bind fun S2 => lX3_eatenBy_51  5000 S2 h0 v1 h2 v3 t0 0
set_option maxHeartbeats 4000000 in
set_option maxRecDepth 100000 in
theorem wX3_eatenBy_27 {p : Program} {l : Launch} {e : Env} {s : State} {m : MethodId} {args : Array Value} {below : List Frame} {meth : Method} {c : Code} {G : xG} {r : Int32} {S' : xS} (X : xX p s m args meth c cX3_eatenBy 7 (some .int) RX3 G Yc) : ∀ (S : xS) (h0 : Nat) (v1 : Int32) (h2 : Nat) (v3 : Int32) (t0 : Int32) (H : Heap) (locs : List Loc) (ls : Array Slot), jX3_eatenBy_27  S h0 v1 h2 v3 t0 = some (r, S') → xk Yc h0 = 3 → xk Yc h2 = 0 → xP G Yc S H → va_S (xA G Yc) s.heap H locs → lv_has ls 7 [(0, .ref (xad G h0)), (1, .int v1), (2, .ref (xad G h2)), (3, .int v3)] → W p l e (xr 2 51) s m args below meth c H locs 0 0 (MQ below (xQi G Yc r S') args s 0 0 (xA G Yc)) (F0 m 27 ls [.int t0]) := by
  obtain ⟨hx, hb, hml, hown, hts, hr, hlk, hK, hE, hJ⟩ := id X
  intro S h0 v1 h2 v3 t0 H locs ls hM hk0 hk2 hP hS hl
  unfold jX3_eatenBy_27 at hM
  refine lv_istore (lv' := [(4, .int t0), (0, .ref (xad G h0)), (1, .int v1), (2, .ref (xad G h2)), (3, .int v3)]) hx hb dX3_eatenBy_27 hl (by decide) rfl (fun ls hl => ?_)
  refine lv_aload_n hx hb dX3_eatenBy_29 rfl (lv_at hl 1 rfl) ?_
  obtain ⟨d1, ed1, hM⟩ := xb hM
  refine fdX3_2 X hP hk0 qw39 dX3_eatenBy_30 ed1 ?_
  refine lv_aload_n hx hb dX3_eatenBy_33 rfl (lv_at hl 3 rfl) ?_
  refine fgX0_1 X hP hk2 qw50 dX3_eatenBy_34 ?_
  refine lv_aload_n hx hb dX3_eatenBy_37 rfl (lv_at hl 3 rfl) ?_
  refine fgX0_0 X hP hk2 qw51 dX3_eatenBy_38 ?_
  refine lv_aload_n hx hb dX3_eatenBy_41 rfl (lv_at hl 3 rfl) ?_
  refine fgX0_4 X hP hk2 qw52 dX3_eatenBy_42 ?_
  obtain ⟨S2, eS2, hM⟩ := xb hM
  refine x_gov (x_runV (rest := []) X (kX5_tell l G S d1 (gI S h2 1) (gI S h2 0) (gI S h2 4) S2 (dO_k ed1) eS2) qw40 okX5_tell ⟨Nat.le_of_ble_eq_true rfl, Nat.le_of_ble_eq_true rfl⟩ (dO_k ed1) (by decide) rfl hP hS rfl hl.1 rfl (Nat.le_of_ble_eq_true rfl) dX3_eatenBy_45) hS (fun H locs hP hS => ?_)
  refine lv_iconst (v := 0) hx hb dX3_eatenBy_48 (by decide) ?_
  refine lv_istore (lv' := [(5, .int 0), (4, .int t0), (0, .ref (xad G h0)), (1, .int v1), (2, .ref (xad G h2)), (3, .int v3)]) hx hb dX3_eatenBy_49 hl (by decide) rfl (fun ls hl => ?_)
  exact wX3_eatenBy_51 X  5000 S2 h0 v1 h2 v3 t0 0 _ _ _ hM hk0 hk2 hP hS (lv_sub hl [2, 3, 4, 5, 1, 0] rfl)
def jX3_eatenBy_26 (S : xS) (h0 : Nat) (v1 : Int32) (h2 : Nat) (v3 : Int32) : Option (Int32 × xS) := jX3_eatenBy_27  S h0 v1 h2 v3 0
set_option maxHeartbeats 4000000 in
set_option maxRecDepth 100000 in
theorem wX3_eatenBy_26 {p : Program} {l : Launch} {e : Env} {s : State} {m : MethodId} {args : Array Value} {below : List Frame} {meth : Method} {c : Code} {G : xG} {r : Int32} {S' : xS} (X : xX p s m args meth c cX3_eatenBy 7 (some .int) RX3 G Yc) : ∀ (S : xS) (h0 : Nat) (v1 : Int32) (h2 : Nat) (v3 : Int32) (H : Heap) (locs : List Loc) (ls : Array Slot), jX3_eatenBy_26  S h0 v1 h2 v3 = some (r, S') → xk Yc h0 = 3 → xk Yc h2 = 0 → xP G Yc S H → va_S (xA G Yc) s.heap H locs → lv_has ls 7 [(0, .ref (xad G h0)), (1, .int v1), (2, .ref (xad G h2)), (3, .int v3)] → W p l e (xr 2 51) s m args below meth c H locs 0 0 (MQ below (xQi G Yc r S') args s 0 0 (xA G Yc)) (F0 m 26 ls []) := by
  obtain ⟨hx, hb, hml, hown, hts, hr, hlk, hK, hE, hJ⟩ := id X
  intro S h0 v1 h2 v3 H locs ls hM hk0 hk2 hP hS hl
  unfold jX3_eatenBy_26 at hM
  refine lv_iconst (v := 0) hx hb dX3_eatenBy_26 (by decide) ?_
  exact wX3_eatenBy_27 X  S h0 v1 h2 v3 0 _ _ _ hM hk0 hk2 hP hS (lv_sub hl [0, 1, 2, 3] rfl)
def mX3_eatenBy (S : xS) (h0 : Nat) (p1 : Int32) (h2 : Nat) : Option (Int32 × xS) := if gR S h0 3 = none then (jX3_eatenBy_26  S h0 p1 h2 (gI S h2 2)) else ((dO Yc (gR S h0 3) 6).bind fun d2 => (mX6_hasEats S d2).bind fun q3 => if (q3.1 = 0 : Prop) then (jX3_eatenBy_26  q3.2 h0 p1 h2 (gI S h2 2)) else (jX3_eatenBy_27  q3.2 h0 p1 h2 (gI S h2 2) 1))
set_option maxHeartbeats 4000000 in
set_option maxRecDepth 100000 in
theorem kX3_eatenBy (l : Launch) (G : xG) (S : xS) (h0 : Nat) (p1 : Int32) (h2 : Nat) (r : Int32) (S' : xS) (hk0 : xk Yc h0 = 3) (hk2 : xk Yc h2 = 0) (hM : mX3_eatenBy S h0 p1 h2 = some (r, S')) : xM l yX3_eatenBy cX3_eatenBy 7 (some .int) 2 51 G Yc [.ref (xad G h0), .int p1, .ref (xad G h2)] S (xQi G Yc r S') := by
  refine x_start (own := RX3) (by decide +kernel) rfl (Nat.le_of_ble_eq_true rfl) ?_
  intro p e s m below meth c ls X hl hP hS
  obtain ⟨hx, hb, hml, hown, hts, hr, hlk, hK, hE, hJ⟩ := id X
  have hl : lv_has ls 7 [(0, .ref (xad G h0)), (1, .int p1), (2, .ref (xad G h2))] := hl
  unfold mX3_eatenBy at hM
  refine lv_aload_n hx hb dX3_eatenBy_0 rfl (lv_at hl 2 rfl) ?_
  refine fgX0_2 X hP hk2 qw48 dX3_eatenBy_1 ?_
  refine lv_istore_n (lv' := [(3, .int (gI S h2 2)), (0, .ref (xad G h0)), (1, .int p1), (2, .ref (xad G h2))]) hx hb dX3_eatenBy_4 rfl hl (by decide) rfl (fun ls hl => ?_)
  refine lv_aload_n hx hb dX3_eatenBy_5 rfl (lv_at hl 1 rfl) ?_
  refine frX3_3 X hP hk0 qw37 dX3_eatenBy_6 ?_
  refine x_ifnull (tgt := 26) hx hb dX3_eatenBy_9 (by decide) (fun c1 => ?_) (fun c1 => ?_)
  · replace hM := (if_pos c1).symm.trans hM
    exact wX3_eatenBy_26 X  S h0 p1 h2 (gI S h2 2) _ _ _ hM hk0 hk2 hP hS (lv_sub hl [1, 2, 3, 0] rfl)
  · replace hM := (if_neg c1).symm.trans hM
    refine lv_aload_n hx hb dX3_eatenBy_12 rfl (lv_at hl 1 rfl) ?_
    obtain ⟨d2, ed2, hM⟩ := xb hM
    refine fdX3_3 X hP hk0 qw37 dX3_eatenBy_13 ed2 ?_
    obtain ⟨q3, eq3, hM⟩ := xb hM
    refine x_goi (x_runV (rest := []) X (kX6_hasEats l G S d2 q3.1 q3.2 (dO_k ed2) eq3) qw49 okX6_hasEats ⟨Nat.le_of_ble_eq_true rfl, Nat.le_of_ble_eq_true rfl⟩ (dO_k ed2) (by decide) rfl hP hS rfl hl.1 rfl (Nat.le_of_ble_eq_true rfl) dX3_eatenBy_16) hS (fun H locs hP hS => ?_)
    refine lv_if_eq (tgt := 26) hx hb dX3_eatenBy_19 (by decide) (fun c4 => ?_) (fun c4 => ?_)
    · replace hM := (if_pos c4).symm.trans hM
      exact wX3_eatenBy_26 X  q3.2 h0 p1 h2 (gI S h2 2) _ _ _ hM hk0 hk2 hP hS (lv_sub hl [1, 2, 3, 0] rfl)
    · replace hM := (if_neg c4).symm.trans hM
      refine lv_iconst (v := 1) hx hb dX3_eatenBy_22 (by decide) ?_
      refine lv_goto (tgt := 27) hx hb dX3_eatenBy_23 (by decide) ?_
      exact wX3_eatenBy_27 X  q3.2 h0 p1 h2 (gI S h2 2) 1 _ _ _ hM hk0 hk2 hP hS (lv_sub hl [1, 2, 3, 0] rfl)

def jX3_dawnAt_64 (S : xS) (h0 : Nat) (h1 : Nat) (v2 : Int32) : Option (Int32 × xS) := (mX3_eatenBy S h0 v2 h1).bind fun q1 => some (q1.1, q1.2)
set_option maxHeartbeats 4000000 in
set_option maxRecDepth 100000 in
theorem wX3_dawnAt_64 {p : Program} {l : Launch} {e : Env} {s : State} {m : MethodId} {args : Array Value} {below : List Frame} {meth : Method} {c : Code} {G : xG} {r : Int32} {S' : xS} (X : xX p s m args meth c cX3_dawnAt 3 (some .int) RX3 G Yc) : ∀ (S : xS) (h0 : Nat) (h1 : Nat) (v2 : Int32) (H : Heap) (locs : List Loc) (ls : Array Slot), jX3_dawnAt_64  S h0 h1 v2 = some (r, S') → xk Yc h0 = 3 → xk Yc h1 = 0 → xP G Yc S H → va_S (xA G Yc) s.heap H locs → lv_has ls 3 [(0, .ref (xad G h0)), (1, .ref (xad G h1)), (2, .int v2)] → W p l e (xr 3 77) s m args below meth c H locs 0 0 (MQ below (xQi G Yc r S') args s 0 0 (xA G Yc)) (F0 m 64 ls []) := by
  obtain ⟨hx, hb, hml, hown, hts, hr, hlk, hK, hE, hJ⟩ := id X
  intro S h0 h1 v2 H locs ls hM hk0 hk1 hP hS hl
  unfold jX3_dawnAt_64 at hM
  refine lv_aload_n hx hb dX3_dawnAt_64 rfl (lv_at hl 0 rfl) ?_
  refine lv_iload_n hx hb dX3_dawnAt_65 rfl (lv_at hl 2 rfl) ?_
  refine lv_aload_n hx hb dX3_dawnAt_66 rfl (lv_at hl 1 rfl) ?_
  obtain ⟨q1, eq1, hM⟩ := xb hM
  refine x_goi (x_runV (rest := []) X (kX3_eatenBy l G S h0 v2 h1 q1.1 q1.2 hk0 hk1 eq1) qw60 okX3_eatenBy ⟨Nat.le_of_ble_eq_true rfl, Nat.le_of_ble_eq_true rfl⟩ hk0 (by decide) rfl hP hS rfl hl.1 rfl (Nat.le_of_ble_eq_true rfl) dX3_dawnAt_67) hS (fun H locs hP hS => ?_)
  exact x_iret X hP hS hM dX3_dawnAt_70
def mX3_dawnAt (S : xS) (h0 : Nat) (h1 : Nat) (p2 : Int32) : Option (Int32 × xS) := xlet (pI S h1 4 ((gI S h1 4) + 1)) fun S1 => if ((gI S1 h1 2) = 0 : Prop) then (if ((gI S1 h1 3) = 0 : Prop) then (if (999 ≤ (gI S1 h1 1) : Prop) then (jX3_dawnAt_64  S1 h0 h1 p2) else (xlet (pI S1 h1 1 ((gI S1 h1 1) + 1)) fun S5 => (mX3_slicesAt S5 h0 (gI S5 h1 0) (gI S5 h1 1) (gI S5 h1 4)).bind fun q6 => xlet (pI q6.2 h1 2 q6.1) fun S7 => jX3_dawnAt_64  S7 h0 h1 p2)) else (jX3_dawnAt_64  S1 h0 h1 p2)) else (jX3_dawnAt_64  S1 h0 h1 p2)
set_option maxHeartbeats 4000000 in
set_option maxRecDepth 100000 in
theorem kX3_dawnAt (l : Launch) (G : xG) (S : xS) (h0 : Nat) (h1 : Nat) (p2 : Int32) (r : Int32) (S' : xS) (hk0 : xk Yc h0 = 3) (hk1 : xk Yc h1 = 0) (hM : mX3_dawnAt S h0 h1 p2 = some (r, S')) : xM l yX3_dawnAt cX3_dawnAt 3 (some .int) 3 77 G Yc [.ref (xad G h0), .ref (xad G h1), .int p2] S (xQi G Yc r S') := by
  refine x_start (own := RX3) (by decide +kernel) rfl (Nat.le_of_ble_eq_true rfl) ?_
  intro p e s m below meth c ls X hl hP hS
  obtain ⟨hx, hb, hml, hown, hts, hr, hlk, hK, hE, hJ⟩ := id X
  have hl : lv_has ls 3 [(0, .ref (xad G h0)), (1, .ref (xad G h1)), (2, .int p2)] := hl
  unfold mX3_dawnAt at hM
  refine lv_aload_n hx hb dX3_dawnAt_0 rfl (lv_at hl 1 rfl) ?_
  refine lv_dup hx hb dX3_dawnAt_1 rfl ?_
  refine fgX0_4 X hP hk1 qw52 dX3_dawnAt_2 ?_
  refine lv_iconst (v := 1) hx hb dX3_dawnAt_5 (by decide) ?_
  refine lv_iadd hx hb dX3_dawnAt_6 ?_
  obtain ⟨S1, eS1, hM⟩ := xlet_ex hM
  refine fpX0_4 X hP hS hk1 qw52 dX3_dawnAt_7 eS1 (fun H locs hP hS => ?_)
  refine lv_aload_n hx hb dX3_dawnAt_10 rfl (lv_at hl 1 rfl) ?_
  refine fgX0_2 X hP hk1 qw48 dX3_dawnAt_11 ?_
  refine lv_if_ne (tgt := 64) hx hb dX3_dawnAt_14 (by decide) (fun c2 => ?_) (fun c2 => ?_)
  · replace hM := (if_neg c2).symm.trans hM
    exact wX3_dawnAt_64 X  S1 h0 h1 p2 _ _ _ hM hk0 hk1 hP hS (lv_sub hl [0, 1, 2] rfl)
  · replace hM := (if_pos c2).symm.trans hM
    refine lv_aload_n hx hb dX3_dawnAt_17 rfl (lv_at hl 1 rfl) ?_
    refine fgX0_3 X hP hk1 qw58 dX3_dawnAt_18 ?_
    refine lv_if_ne (tgt := 64) hx hb dX3_dawnAt_21 (by decide) (fun c3 => ?_) (fun c3 => ?_)
    · replace hM := (if_neg c3).symm.trans hM
      exact wX3_dawnAt_64 X  S1 h0 h1 p2 _ _ _ hM hk0 hk1 hP hS (lv_sub hl [0, 1, 2] rfl)
    · replace hM := (if_pos c3).symm.trans hM
      refine lv_aload_n hx hb dX3_dawnAt_24 rfl (lv_at hl 1 rfl) ?_
      refine fgX0_1 X hP hk1 qw50 dX3_dawnAt_25 ?_
      refine lv_sipush (v := 999) hx hb dX3_dawnAt_28 (by decide) ?_
      refine lv_icmp_ge (tgt := 64) hx hb dX3_dawnAt_31 (by decide) (fun c4 => ?_) (fun c4 => ?_)
      · replace hM := (if_pos c4).symm.trans hM
        exact wX3_dawnAt_64 X  S1 h0 h1 p2 _ _ _ hM hk0 hk1 hP hS (lv_sub hl [0, 1, 2] rfl)
      · replace hM := (if_neg c4).symm.trans hM
        refine lv_aload_n hx hb dX3_dawnAt_34 rfl (lv_at hl 1 rfl) ?_
        refine lv_dup hx hb dX3_dawnAt_35 rfl ?_
        refine fgX0_1 X hP hk1 qw50 dX3_dawnAt_36 ?_
        refine lv_iconst (v := 1) hx hb dX3_dawnAt_39 (by decide) ?_
        refine lv_iadd hx hb dX3_dawnAt_40 ?_
        obtain ⟨S5, eS5, hM⟩ := xlet_ex hM
        refine fpX0_1 X hP hS hk1 qw50 dX3_dawnAt_41 eS5 (fun H locs hP hS => ?_)
        refine lv_aload_n hx hb dX3_dawnAt_44 rfl (lv_at hl 1 rfl) ?_
        refine lv_aload_n hx hb dX3_dawnAt_45 rfl (lv_at hl 0 rfl) ?_
        refine lv_aload_n hx hb dX3_dawnAt_46 rfl (lv_at hl 1 rfl) ?_
        refine fgX0_0 X hP hk1 qw51 dX3_dawnAt_47 ?_
        refine lv_aload_n hx hb dX3_dawnAt_50 rfl (lv_at hl 1 rfl) ?_
        refine fgX0_1 X hP hk1 qw50 dX3_dawnAt_51 ?_
        refine lv_aload_n hx hb dX3_dawnAt_54 rfl (lv_at hl 1 rfl) ?_
        refine fgX0_4 X hP hk1 qw52 dX3_dawnAt_55 ?_
        obtain ⟨q6, eq6, hM⟩ := xb hM
        refine x_goi (x_runV (rest := [.ref (xad G h1)]) X (kX3_slicesAt l G S5 h0 (gI S5 h1 0) (gI S5 h1 1) (gI S5 h1 4) q6.1 q6.2 hk0 eq6) qw59 okX3_slicesAt ⟨Nat.le_of_ble_eq_true rfl, Nat.le_of_ble_eq_true rfl⟩ hk0 (by decide) rfl hP hS rfl hl.1 rfl (Nat.le_of_ble_eq_true rfl) dX3_dawnAt_58) hS (fun H locs hP hS => ?_)
        obtain ⟨S7, eS7, hM⟩ := xlet_ex hM
        refine fpX0_2 X hP hS hk1 qw48 dX3_dawnAt_61 eS7 (fun H locs hP hS => ?_)
        exact wX3_dawnAt_64 X  S7 h0 h1 p2 _ _ _ hM hk0 hk1 hP hS (lv_sub hl [0, 1, 2] rfl)

def lX2_dawnsUntil_25 : Nat → xS → Nat → Int32 → Int32 → Int32 → Int32 → Option (Int32 × xS)
  | 0, _, _, _, _, _, _ => none
  | n + 1, S, h0, v2, v3, v4, v5 => if (60 < v5 : Prop) then (some ((-1), S)) else ((dO Yc (gR S h0 2) 0).bind fun d2 => if ((gI S d2 1) < v2 : Prop) then ((dO Yc (gR S h0 1) 3).bind fun d4 => (dO Yc (gR S h0 2) 0).bind fun d5 => (mX3_dawnAt S d4 d5 v4).bind fun q6 => if (v3 = 0 : Prop) then ((dO Yc (gR q6.2 h0 2) 0).bind fun d8 => (mX0_loseSlice q6.2 d8).bind fun q9 => lX2_dawnsUntil_25 n q9.2 h0 v2 v3 v4 (v5 + 1)) else (lX2_dawnsUntil_25 n q6.2 h0 v2 v3 v4 (v5 + 1))) else (some (v5, S)))
set_option maxHeartbeats 4000000 in
set_option maxRecDepth 100000 in
theorem wX2_dawnsUntil_25 {p : Program} {l : Launch} {e : Env} {s : State} {m : MethodId} {args : Array Value} {below : List Frame} {meth : Method} {c : Code} {G : xG} {r : Int32} {S' : xS} (X : xX p s m args meth c cX2_dawnsUntil 6 (some .int) RX2 G Yc) : ∀ (n : Nat), ∀ (S : xS) (h0 : Nat) (v2 : Int32) (v3 : Int32) (v4 : Int32) (v5 : Int32) (H : Heap) (locs : List Loc) (ls : Array Slot), lX2_dawnsUntil_25  n S h0 v2 v3 v4 v5 = some (r, S') → xk Yc h0 = 2 → xP G Yc S H → va_S (xA G Yc) s.heap H locs → lv_has ls 6 [(0, .ref (xad G h0)), (2, .int v2), (3, .int v3), (4, .int v4), (5, .int v5)] → W p l e (xr 4 99) s m args below meth c H locs 0 0 (MQ below (xQi G Yc r S') args s 0 0 (xA G Yc)) (F0 m 25 ls []) := by
  obtain ⟨hx, hb, hml, hown, hts, hr, hlk, hK, hE, hJ⟩ := id X
  intro n
  induction n with
  | zero =>
    intro S h0 v2 v3 v4 v5 H locs ls hM
    rw [lX2_dawnsUntil_25.eq_1] at hM
    cases hM
  | succ n ih =>
    intro S h0 v2 v3 v4 v5 H locs ls hM hk0 hP hS hl
    rw [lX2_dawnsUntil_25.eq_2] at hM
    refine lv_iload hx hb dX2_dawnsUntil_25 (lv_at hl 4 rfl) ?_
    refine lv_bipush (v := 60) hx hb dX2_dawnsUntil_27 (by decide) ?_
    refine lv_icmp_gt (tgt := 78) hx hb dX2_dawnsUntil_29 (by decide) (fun c1 => ?_) (fun c1 => ?_)
    · replace hM := (if_pos c1).symm.trans hM
      refine lv_iconst (v := (-1)) hx hb dX2_dawnsUntil_78 (by decide) ?_
      exact x_iret X hP hS hM dX2_dawnsUntil_79
    · replace hM := (if_neg c1).symm.trans hM
      refine lv_aload_n hx hb dX2_dawnsUntil_32 rfl (lv_at hl 0 rfl) ?_
      obtain ⟨d2, ed2, hM⟩ := xb hM
      refine fdX2_2 X hP hk0 qw61 dX2_dawnsUntil_33 ed2 ?_
      refine fgX0_1 X hP (dO_k ed2) qw65 dX2_dawnsUntil_36 ?_
      refine lv_iload_n hx hb dX2_dawnsUntil_39 rfl (lv_at hl 1 rfl) ?_
      refine lv_icmp_lt (tgt := 46) hx hb dX2_dawnsUntil_40 (by decide) (fun c3 => ?_) (fun c3 => ?_)
      · replace hM := (if_pos c3).symm.trans hM
        refine lv_aload_n hx hb dX2_dawnsUntil_46 rfl (lv_at hl 0 rfl) ?_
        obtain ⟨d4, ed4, hM⟩ := xb hM
        refine fdX2_1 X hP hk0 qw66 dX2_dawnsUntil_47 ed4 ?_
        refine lv_aload_n hx hb dX2_dawnsUntil_50 rfl (lv_at hl 0 rfl) ?_
        obtain ⟨d5, ed5, hM⟩ := xb hM
        refine fdX2_2 X hP hk0 qw61 dX2_dawnsUntil_51 ed5 ?_
        refine lv_iload hx hb dX2_dawnsUntil_54 (lv_at hl 3 rfl) ?_
        obtain ⟨q6, eq6, hM⟩ := xb hM
        refine x_goi (x_runV (rest := []) X (kX3_dawnAt l G S d4 d5 v4 q6.1 q6.2 (dO_k ed4) (dO_k ed5) eq6) qw67 okX3_dawnAt ⟨Nat.le_of_ble_eq_true rfl, Nat.le_of_ble_eq_true rfl⟩ (dO_k ed4) (by decide) rfl hP hS rfl hl.1 rfl (Nat.le_of_ble_eq_true rfl) dX2_dawnsUntil_56) hS (fun H locs hP hS => ?_)
        refine lv_pop hx hb dX2_dawnsUntil_59 rfl ?_
        refine lv_iload_n hx hb dX2_dawnsUntil_60 rfl (lv_at hl 2 rfl) ?_
        refine lv_if_ne (tgt := 72) hx hb dX2_dawnsUntil_61 (by decide) (fun c7 => ?_) (fun c7 => ?_)
        · replace hM := (if_neg c7).symm.trans hM
          refine lv_iinc (v := v5 + 1) (lv' := [(5, .int (v5 + 1)), (0, .ref (xad G h0)), (2, .int v2), (3, .int v3), (4, .int v4)]) hx hb dX2_dawnsUntil_72 hl (k := 4) rfl (by first | rfl | exact congrArg (fun z => v5 + z) (by decide)) (by decide) rfl (fun ls hl => ?_)
          refine lv_goto (tgt := 25) hx hb dX2_dawnsUntil_75 (by decide) ?_
          exact ih q6.2 h0 v2 v3 v4 (v5 + 1) _ _ _ hM hk0 hP hS (lv_sub hl [1, 2, 3, 4, 0] rfl)
        · replace hM := (if_pos c7).symm.trans hM
          refine lv_aload_n hx hb dX2_dawnsUntil_64 rfl (lv_at hl 0 rfl) ?_
          obtain ⟨d8, ed8, hM⟩ := xb hM
          refine fdX2_2 X hP hk0 qw61 dX2_dawnsUntil_65 ed8 ?_
          obtain ⟨q9, eq9, hM⟩ := xb hM
          refine x_goi (x_runV (rest := []) X (kX0_loseSlice l G q6.2 d8 q9.1 q9.2 (dO_k ed8) eq9) qw68 okX0_loseSlice ⟨Nat.le_of_ble_eq_true rfl, Nat.le_of_ble_eq_true rfl⟩ (dO_k ed8) (by decide) rfl hP hS rfl hl.1 rfl (Nat.le_of_ble_eq_true rfl) dX2_dawnsUntil_68) hS (fun H locs hP hS => ?_)
          refine lv_pop hx hb dX2_dawnsUntil_71 rfl ?_
          refine lv_iinc (v := v5 + 1) (lv' := [(5, .int (v5 + 1)), (0, .ref (xad G h0)), (2, .int v2), (3, .int v3), (4, .int v4)]) hx hb dX2_dawnsUntil_72 hl (k := 4) rfl (by first | rfl | exact congrArg (fun z => v5 + z) (by decide)) (by decide) rfl (fun ls hl => ?_)
          refine lv_goto (tgt := 25) hx hb dX2_dawnsUntil_75 (by decide) ?_
          exact ih q9.2 h0 v2 v3 v4 (v5 + 1) _ _ _ hM hk0 hP hS (lv_sub hl [1, 2, 3, 4, 0] rfl)
      · replace hM := (if_neg c3).symm.trans hM
        refine lv_iload hx hb dX2_dawnsUntil_43 (lv_at hl 4 rfl) ?_
        exact x_iret X hP hS hM dX2_dawnsUntil_45
def mX2_dawnsUntil (S : xS) (h0 : Nat) (p1 : Int32) (p2 : Int32) (p3 : Int32) : Option (Int32 × xS) := (dO Yc (gR S h0 2) 0).bind fun d1 => (dO Yc (gR S h0 0) 1).bind fun d2 => (mX0_loadFrom S d1 d2 p1).bind fun S3 => (dO Yc (gR S3 h0 0) 1).bind fun d4 => (mX1_sitters S3 d4 p1).bind fun q5 => lX2_dawnsUntil_25  5000 q5.2 h0 p2 p3 q5.1 0
set_option maxHeartbeats 4000000 in
set_option maxRecDepth 100000 in
theorem kX2_dawnsUntil (l : Launch) (G : xG) (S : xS) (h0 : Nat) (p1 : Int32) (p2 : Int32) (p3 : Int32) (r : Int32) (S' : xS) (hk0 : xk Yc h0 = 2) (hM : mX2_dawnsUntil S h0 p1 p2 p3 = some (r, S')) : xM l yX2_dawnsUntil cX2_dawnsUntil 6 (some .int) 4 99 G Yc [.ref (xad G h0), .int p1, .int p2, .int p3] S (xQi G Yc r S') := by
  refine x_start (own := RX2) (by decide +kernel) rfl (Nat.le_of_ble_eq_true rfl) ?_
  intro p e s m below meth c ls X hl hP hS
  obtain ⟨hx, hb, hml, hown, hts, hr, hlk, hK, hE, hJ⟩ := id X
  have hl : lv_has ls 6 [(0, .ref (xad G h0)), (1, .int p1), (2, .int p2), (3, .int p3)] := hl
  unfold mX2_dawnsUntil at hM
  refine lv_aload_n hx hb dX2_dawnsUntil_0 rfl (lv_at hl 0 rfl) ?_
  obtain ⟨d1, ed1, hM⟩ := xb hM
  refine fdX2_2 X hP hk0 qw61 dX2_dawnsUntil_1 ed1 ?_
  refine lv_aload_n hx hb dX2_dawnsUntil_4 rfl (lv_at hl 0 rfl) ?_
  obtain ⟨d2, ed2, hM⟩ := xb hM
  refine fdX2_0 X hP hk0 qw62 dX2_dawnsUntil_5 ed2 ?_
  refine lv_iload_n hx hb dX2_dawnsUntil_8 rfl (lv_at hl 1 rfl) ?_
  obtain ⟨S3, eS3, hM⟩ := xb hM
  refine x_gov (x_runV (rest := []) X (kX0_loadFrom l G S d1 d2 p1 S3 (dO_k ed1) (dO_k ed2) eS3) qw63 okX0_loadFrom ⟨Nat.le_of_ble_eq_true rfl, Nat.le_of_ble_eq_true rfl⟩ (dO_k ed1) (by decide) rfl hP hS rfl hl.1 rfl (Nat.le_of_ble_eq_true rfl) dX2_dawnsUntil_9) hS (fun H locs hP hS => ?_)
  refine lv_aload_n hx hb dX2_dawnsUntil_12 rfl (lv_at hl 0 rfl) ?_
  obtain ⟨d4, ed4, hM⟩ := xb hM
  refine fdX2_0 X hP hk0 qw62 dX2_dawnsUntil_13 ed4 ?_
  refine lv_iload_n hx hb dX2_dawnsUntil_16 rfl (lv_at hl 1 rfl) ?_
  obtain ⟨q5, eq5, hM⟩ := xb hM
  refine x_goi (x_runV (rest := []) X (kX1_sitters l G S3 d4 p1 q5.1 q5.2 (dO_k ed4) eq5) qw64 okX1_sitters ⟨Nat.le_of_ble_eq_true rfl, Nat.le_of_ble_eq_true rfl⟩ (dO_k ed4) (by decide) rfl hP hS rfl hl.1 rfl (Nat.le_of_ble_eq_true rfl) dX2_dawnsUntil_17) hS (fun H locs hP hS => ?_)
  refine lv_istore (lv' := [(4, .int q5.1), (0, .ref (xad G h0)), (1, .int p1), (2, .int p2), (3, .int p3)]) hx hb dX2_dawnsUntil_20 hl (by decide) rfl (fun ls hl => ?_)
  refine lv_iconst (v := 0) hx hb dX2_dawnsUntil_22 (by decide) ?_
  refine lv_istore (lv' := [(5, .int 0), (4, .int q5.1), (0, .ref (xad G h0)), (1, .int p1), (2, .int p2), (3, .int p3)]) hx hb dX2_dawnsUntil_23 hl (by decide) rfl (fun ls hl => ?_)
  exact wX2_dawnsUntil_25 X  5000 q5.2 h0 p2 p3 q5.1 0 _ _ _ hM hk0 hP hS (lv_sub hl [2, 4, 5, 1, 0] rfl)

def lX2_dayAfter_24 : Nat → xS → Nat → Int32 → Int32 → Int32 → Option (Int32 × xS)
  | 0, _, _, _, _, _ => none
  | n + 1, S, h0, v2, v3, v4 => if (v2 ≤ v4 : Prop) then ((dO Yc (gR S h0 2) 0).bind fun d2 => some (gI S d2 1, S)) else ((dO Yc (gR S h0 1) 3).bind fun d3 => (dO Yc (gR S h0 2) 0).bind fun d4 => (mX3_dawnAt S d3 d4 v3).bind fun q5 => lX2_dayAfter_24 n q5.2 h0 v2 v3 (v4 + 1))
set_option maxHeartbeats 4000000 in
set_option maxRecDepth 100000 in
theorem wX2_dayAfter_24 {p : Program} {l : Launch} {e : Env} {s : State} {m : MethodId} {args : Array Value} {below : List Frame} {meth : Method} {c : Code} {G : xG} {r : Int32} {S' : xS} (X : xX p s m args meth c cX2_dayAfter 5 (some .int) RX2 G Yc) : ∀ (n : Nat), ∀ (S : xS) (h0 : Nat) (v2 : Int32) (v3 : Int32) (v4 : Int32) (H : Heap) (locs : List Loc) (ls : Array Slot), lX2_dayAfter_24  n S h0 v2 v3 v4 = some (r, S') → xk Yc h0 = 2 → xP G Yc S H → va_S (xA G Yc) s.heap H locs → lv_has ls 5 [(0, .ref (xad G h0)), (2, .int v2), (3, .int v3), (4, .int v4)] → W p l e (xr 4 99) s m args below meth c H locs 0 0 (MQ below (xQi G Yc r S') args s 0 0 (xA G Yc)) (F0 m 24 ls []) := by
  obtain ⟨hx, hb, hml, hown, hts, hr, hlk, hK, hE, hJ⟩ := id X
  intro n
  induction n with
  | zero =>
    intro S h0 v2 v3 v4 H locs ls hM
    rw [lX2_dayAfter_24.eq_1] at hM
    cases hM
  | succ n ih =>
    intro S h0 v2 v3 v4 H locs ls hM hk0 hP hS hl
    rw [lX2_dayAfter_24.eq_2] at hM
    refine lv_iload hx hb dX2_dayAfter_24 (lv_at hl 3 rfl) ?_
    refine lv_iload_n hx hb dX2_dayAfter_26 rfl (lv_at hl 1 rfl) ?_
    refine lv_icmp_ge (tgt := 49) hx hb dX2_dayAfter_27 (by decide) (fun c1 => ?_) (fun c1 => ?_)
    · replace hM := (if_pos c1).symm.trans hM
      refine lv_aload_n hx hb dX2_dayAfter_49 rfl (lv_at hl 0 rfl) ?_
      obtain ⟨d2, ed2, hM⟩ := xb hM
      refine fdX2_2 X hP hk0 qw61 dX2_dayAfter_50 ed2 ?_
      refine fgX0_1 X hP (dO_k ed2) qw65 dX2_dayAfter_53 ?_
      exact x_iret X hP hS hM dX2_dayAfter_56
    · replace hM := (if_neg c1).symm.trans hM
      refine lv_aload_n hx hb dX2_dayAfter_30 rfl (lv_at hl 0 rfl) ?_
      obtain ⟨d3, ed3, hM⟩ := xb hM
      refine fdX2_1 X hP hk0 qw66 dX2_dayAfter_31 ed3 ?_
      refine lv_aload_n hx hb dX2_dayAfter_34 rfl (lv_at hl 0 rfl) ?_
      obtain ⟨d4, ed4, hM⟩ := xb hM
      refine fdX2_2 X hP hk0 qw61 dX2_dayAfter_35 ed4 ?_
      refine lv_iload_n hx hb dX2_dayAfter_38 rfl (lv_at hl 2 rfl) ?_
      obtain ⟨q5, eq5, hM⟩ := xb hM
      refine x_goi (x_runV (rest := []) X (kX3_dawnAt l G S d3 d4 v3 q5.1 q5.2 (dO_k ed3) (dO_k ed4) eq5) qw67 okX3_dawnAt ⟨Nat.le_of_ble_eq_true rfl, Nat.le_of_ble_eq_true rfl⟩ (dO_k ed3) (by decide) rfl hP hS rfl hl.1 rfl (Nat.le_of_ble_eq_true rfl) dX2_dayAfter_39) hS (fun H locs hP hS => ?_)
      refine lv_pop hx hb dX2_dayAfter_42 rfl ?_
      refine lv_iinc (v := v4 + 1) (lv' := [(4, .int (v4 + 1)), (0, .ref (xad G h0)), (2, .int v2), (3, .int v3)]) hx hb dX2_dayAfter_43 hl (k := 3) rfl (by first | rfl | exact congrArg (fun z => v4 + z) (by decide)) (by decide) rfl (fun ls hl => ?_)
      refine lv_goto (tgt := 24) hx hb dX2_dayAfter_46 (by decide) ?_
      exact ih q5.2 h0 v2 v3 (v4 + 1) _ _ _ hM hk0 hP hS (lv_sub hl [1, 2, 3, 0] rfl)
def mX2_dayAfter (S : xS) (h0 : Nat) (p1 : Int32) (p2 : Int32) : Option (Int32 × xS) := (dO Yc (gR S h0 2) 0).bind fun d1 => (dO Yc (gR S h0 0) 1).bind fun d2 => (mX0_loadFrom S d1 d2 p1).bind fun S3 => (dO Yc (gR S3 h0 0) 1).bind fun d4 => (mX1_sitters S3 d4 p1).bind fun q5 => lX2_dayAfter_24  5000 q5.2 h0 p2 q5.1 0
set_option maxHeartbeats 4000000 in
set_option maxRecDepth 100000 in
theorem kX2_dayAfter (l : Launch) (G : xG) (S : xS) (h0 : Nat) (p1 : Int32) (p2 : Int32) (r : Int32) (S' : xS) (hk0 : xk Yc h0 = 2) (hM : mX2_dayAfter S h0 p1 p2 = some (r, S')) : xM l yX2_dayAfter cX2_dayAfter 5 (some .int) 4 99 G Yc [.ref (xad G h0), .int p1, .int p2] S (xQi G Yc r S') := by
  refine x_start (own := RX2) (by decide +kernel) rfl (Nat.le_of_ble_eq_true rfl) ?_
  intro p e s m below meth c ls X hl hP hS
  obtain ⟨hx, hb, hml, hown, hts, hr, hlk, hK, hE, hJ⟩ := id X
  have hl : lv_has ls 5 [(0, .ref (xad G h0)), (1, .int p1), (2, .int p2)] := hl
  unfold mX2_dayAfter at hM
  refine lv_aload_n hx hb dX2_dayAfter_0 rfl (lv_at hl 0 rfl) ?_
  obtain ⟨d1, ed1, hM⟩ := xb hM
  refine fdX2_2 X hP hk0 qw61 dX2_dayAfter_1 ed1 ?_
  refine lv_aload_n hx hb dX2_dayAfter_4 rfl (lv_at hl 0 rfl) ?_
  obtain ⟨d2, ed2, hM⟩ := xb hM
  refine fdX2_0 X hP hk0 qw62 dX2_dayAfter_5 ed2 ?_
  refine lv_iload_n hx hb dX2_dayAfter_8 rfl (lv_at hl 1 rfl) ?_
  obtain ⟨S3, eS3, hM⟩ := xb hM
  refine x_gov (x_runV (rest := []) X (kX0_loadFrom l G S d1 d2 p1 S3 (dO_k ed1) (dO_k ed2) eS3) qw63 okX0_loadFrom ⟨Nat.le_of_ble_eq_true rfl, Nat.le_of_ble_eq_true rfl⟩ (dO_k ed1) (by decide) rfl hP hS rfl hl.1 rfl (Nat.le_of_ble_eq_true rfl) dX2_dayAfter_9) hS (fun H locs hP hS => ?_)
  refine lv_aload_n hx hb dX2_dayAfter_12 rfl (lv_at hl 0 rfl) ?_
  obtain ⟨d4, ed4, hM⟩ := xb hM
  refine fdX2_0 X hP hk0 qw62 dX2_dayAfter_13 ed4 ?_
  refine lv_iload_n hx hb dX2_dayAfter_16 rfl (lv_at hl 1 rfl) ?_
  obtain ⟨q5, eq5, hM⟩ := xb hM
  refine x_goi (x_runV (rest := []) X (kX1_sitters l G S3 d4 p1 q5.1 q5.2 (dO_k ed4) eq5) qw64 okX1_sitters ⟨Nat.le_of_ble_eq_true rfl, Nat.le_of_ble_eq_true rfl⟩ (dO_k ed4) (by decide) rfl hP hS rfl hl.1 rfl (Nat.le_of_ble_eq_true rfl) dX2_dayAfter_17) hS (fun H locs hP hS => ?_)
  refine lv_istore_n (lv' := [(3, .int q5.1), (0, .ref (xad G h0)), (1, .int p1), (2, .int p2)]) hx hb dX2_dayAfter_20 rfl hl (by decide) rfl (fun ls hl => ?_)
  refine lv_iconst (v := 0) hx hb dX2_dayAfter_21 (by decide) ?_
  refine lv_istore (lv' := [(4, .int 0), (3, .int q5.1), (0, .ref (xad G h0)), (1, .int p1), (2, .int p2)]) hx hb dX2_dayAfter_22 hl (by decide) rfl (fun ls hl => ?_)
  exact wX2_dayAfter_24 X  5000 q5.2 h0 p2 q5.1 0 _ _ _ hM hk0 hP hS (lv_sub hl [2, 4, 1, 0] rfl)

def lJ7_fill_d0a16_6 : Nat → xS → Nat → Int64 → Int32 → Int32 → Option xS
  | 0, _, _, _, _, _ => none
  | n + 1, S, h0, w1, v3, v4 => if (v4 ≤ v3 : Prop) then (some S) else ((sJ Yc S h0 v3 w1).bind fun S2 => lJ7_fill_d0a16_6 n S2 h0 w1 (v3 + 1) v4)
set_option maxHeartbeats 4000000 in
set_option maxRecDepth 100000 in
theorem wJ7_fill_d0a16_6 {p : Program} {l : Launch} {e : Env} {s : State} {m : MethodId} {args : Array Value} {below : List Frame} {meth : Method} {c : Code} {G : xG} {S' : xS} (X : xX p s m args meth c cJ7_fill_d0a16 5 none RJ7 G Yc) : ∀ (n : Nat), ∀ (S : xS) (h0 : Nat) (w1 : Int64) (v3 : Int32) (v4 : Int32) (H : Heap) (locs : List Loc) (ls : Array Slot), lJ7_fill_d0a16_6  n S h0 w1 v3 v4 = some S' → xk Yc h0 = 11 → xP G Yc S H → va_S (xA G Yc) s.heap H locs → lv_has ls 5 [(0, .ref (xad G h0)), (1, .long w1), (3, .int v3), (4, .int v4)] → W p l e (xr 0 0) s m args below meth c H locs 0 0 (MQ below (xQv G Yc S') args s 0 0 (xA G Yc)) (F0 m 6 ls []) := by
  obtain ⟨hx, hb, hml, hown, hts, hr, hlk, hK, hE, hJ⟩ := id X
  intro n
  induction n with
  | zero =>
    intro S h0 w1 v3 v4 H locs ls hM
    rw [lJ7_fill_d0a16_6.eq_1] at hM
    cases hM
  | succ n ih =>
    intro S h0 w1 v3 v4 H locs ls hM hk0 hP hS hl
    rw [lJ7_fill_d0a16_6.eq_2] at hM
    refine lv_iload_n hx hb dJ7_fill_d0a16_6 rfl (lv_at hl 2 rfl) ?_
    refine lv_iload hx hb dJ7_fill_d0a16_7 (lv_at hl 3 rfl) ?_
    refine lv_icmp_ge (tgt := 22) hx hb dJ7_fill_d0a16_9 (by decide) (fun c1 => ?_) (fun c1 => ?_)
    · replace hM := (if_pos c1).symm.trans hM
      exact x_vret X hP hS hM dJ7_fill_d0a16_22
    · replace hM := (if_neg c1).symm.trans hM
      refine lv_aload_n hx hb dJ7_fill_d0a16_12 rfl (lv_at hl 0 rfl) ?_
      refine lv_iload_n hx hb dJ7_fill_d0a16_13 rfl (lv_at hl 2 rfl) ?_
      refine lv_lload_n hx hb dJ7_fill_d0a16_14 rfl (lv_at hl 1 rfl) ?_
      obtain ⟨S2, eS2, hM⟩ := xb hM
      refine x_last X hP hS hk0 eS2 dJ7_fill_d0a16_15 (fun H locs hP hS => ?_)
      refine lv_iinc (v := v3 + 1) (lv' := [(3, .int (v3 + 1)), (0, .ref (xad G h0)), (1, .long w1), (4, .int v4)]) hx hb dJ7_fill_d0a16_16 hl (k := 2) rfl (by first | rfl | exact congrArg (fun z => v3 + z) (by decide)) (by decide) rfl (fun ls hl => ?_)
      refine lv_goto (tgt := 6) hx hb dJ7_fill_d0a16_19 (by decide) ?_
      exact ih S2 h0 w1 (v3 + 1) v4 _ _ _ hM hk0 hP hS (lv_sub hl [1, 2, 0, 3] rfl)
def mJ7_fill_d0a16 (S : xS) (h0 : Nat) (p1 : Int64) : Option xS := lJ7_fill_d0a16_6  5000 S h0 p1 0 (Int32.ofNat (xn Yc h0))
set_option maxHeartbeats 4000000 in
set_option maxRecDepth 100000 in
theorem kJ7_fill_d0a16 (l : Launch) (G : xG) (S : xS) (h0 : Nat) (p1 : Int64) (S' : xS) (hk0 : xk Yc h0 = 11) (hM : mJ7_fill_d0a16 S h0 p1 = some S') : xM l yJ7_fill_d0a16 cJ7_fill_d0a16 5 none 0 0 G Yc [.ref (xad G h0), .long p1] S (xQv G Yc S') := by
  refine x_start (own := RJ7) (by decide +kernel) rfl (Nat.le_of_ble_eq_true rfl) ?_
  intro p e s m below meth c ls X hl hP hS
  obtain ⟨hx, hb, hml, hown, hts, hr, hlk, hK, hE, hJ⟩ := id X
  have hl : lv_has ls 5 [(0, .ref (xad G h0)), (1, .long p1)] := hl
  unfold mJ7_fill_d0a16 at hM
  refine lv_iconst (v := 0) hx hb dJ7_fill_d0a16_0 (by decide) ?_
  refine lv_istore_n (lv' := [(3, .int 0), (0, .ref (xad G h0)), (1, .long p1)]) hx hb dJ7_fill_d0a16_1 rfl hl (by decide) rfl (fun ls hl => ?_)
  refine lv_aload_n hx hb dJ7_fill_d0a16_2 rfl (lv_at hl 1 rfl) ?_
  refine x_alen (v := Int32.ofNat (xn Yc h0)) X hP (Or.inr hk0) rfl dJ7_fill_d0a16_3 ?_
  refine lv_istore (lv' := [(4, .int (Int32.ofNat (xn Yc h0))), (3, .int 0), (0, .ref (xad G h0)), (1, .long p1)]) hx hb dJ7_fill_d0a16_4 hl (by decide) rfl (fun ls hl => ?_)
  exact wJ7_fill_d0a16_6 X  5000 S h0 p1 0 (Int32.ofNat (xn Yc h0)) _ _ _ hM hk0 hP hS (lv_sub hl [2, 3, 1, 0] rfl)

def mX2_addChance (S : xS) (h0 : Nat) (p1 : Int32) (p2 : Int32) (p3 : Int64) : Option xS := if (((p1 * 61) + p2) < 0 : Prop) then (some S) else (if ((Int32.ofNat (xn Yc h0)) ≤ ((p1 * 61) + p2) : Prop) then (some S) else ((aJ Yc S h0 ((p1 * 61) + p2)).bind fun x3 => (sJ Yc S h0 ((p1 * 61) + p2) (x3 + p3)).bind fun S4 => some S4))
set_option maxHeartbeats 4000000 in
set_option maxRecDepth 100000 in
theorem kX2_addChance (l : Launch) (G : xG) (S : xS) (h0 : Nat) (p1 : Int32) (p2 : Int32) (p3 : Int64) (S' : xS) (hk0 : xk Yc h0 = 11) (hM : mX2_addChance S h0 p1 p2 p3 = some S') : xM l yX2_addChance cX2_addChance 6 none 0 0 G Yc [.ref (xad G h0), .int p1, .int p2, .long p3] S (xQv G Yc S') := by
  refine x_start (own := RX2) (by decide +kernel) rfl (Nat.le_of_ble_eq_true rfl) ?_
  intro p e s m below meth c ls X hl hP hS
  obtain ⟨hx, hb, hml, hown, hts, hr, hlk, hK, hE, hJ⟩ := id X
  have hl : lv_has ls 6 [(0, .ref (xad G h0)), (1, .int p1), (2, .int p2), (3, .long p3)] := hl
  unfold mX2_addChance at hM
  refine lv_iload_n hx hb dX2_addChance_0 rfl (lv_at hl 1 rfl) ?_
  refine lv_bipush (v := 61) hx hb dX2_addChance_1 (by decide) ?_
  refine lv_imul hx hb dX2_addChance_3 ?_
  refine lv_iload_n hx hb dX2_addChance_4 rfl (lv_at hl 2 rfl) ?_
  refine lv_iadd hx hb dX2_addChance_5 ?_
  refine lv_istore (lv' := [(5, .int ((p1 * 61) + p2)), (0, .ref (xad G h0)), (1, .int p1), (2, .int p2), (3, .long p3)]) hx hb dX2_addChance_6 hl (by decide) rfl (fun ls hl => ?_)
  refine lv_iload hx hb dX2_addChance_8 (lv_at hl 0 rfl) ?_
  refine lv_if_lt (tgt := 28) hx hb dX2_addChance_10 (by decide) (fun c1 => ?_) (fun c1 => ?_)
  · replace hM := (if_pos c1).symm.trans hM
    exact x_vret X hP hS hM dX2_addChance_28
  · replace hM := (if_neg c1).symm.trans hM
    refine lv_iload hx hb dX2_addChance_13 (lv_at hl 0 rfl) ?_
    refine lv_aload_n hx hb dX2_addChance_15 rfl (lv_at hl 1 rfl) ?_
    refine x_alen (v := Int32.ofNat (xn Yc h0)) X hP (Or.inr hk0) rfl dX2_addChance_16 ?_
    refine lv_icmp_ge (tgt := 28) hx hb dX2_addChance_17 (by decide) (fun c2 => ?_) (fun c2 => ?_)
    · replace hM := (if_pos c2).symm.trans hM
      exact x_vret X hP hS hM dX2_addChance_28
    · replace hM := (if_neg c2).symm.trans hM
      refine lv_aload_n hx hb dX2_addChance_20 rfl (lv_at hl 1 rfl) ?_
      refine lv_iload hx hb dX2_addChance_21 (lv_at hl 0 rfl) ?_
      refine lv_dup2_11 hx hb dX2_addChance_23 rfl rfl ?_
      obtain ⟨x3, ex3, hM⟩ := xb hM
      refine x_lald X hP hk0 ex3 dX2_addChance_24 ?_
      refine lv_lload_n hx hb dX2_addChance_25 rfl (lv_at hl 4 rfl) ?_
      refine lv_ladd hx hb dX2_addChance_26 ?_
      obtain ⟨S4, eS4, hM⟩ := xb hM
      refine x_last X hP hS hk0 eS4 dX2_addChance_27 (fun H locs hP hS => ?_)
      exact x_vret X hP hS hM dX2_addChance_28

def lX2_spreadChances_30 : Nat → xS → Nat → Int32 → Int32 → Int32 → Int32 → Int32 → Int32 → Option xS
  | 0, _, _, _, _, _, _, _, _ => none
  | n + 1, S, h0, v1, v2, v3, v4, v5, v6 => if (976 ≤ v6 : Prop) then (xlet (pR S h0 5 (gR S h0 6)) fun S2 => xlet (pR S2 h0 6 (gR S h0 5)) fun S3 => some S3) else ((dO Yc (gR S h0 5) 11).bind fun d4 => (aJ Yc S d4 v6).bind fun x5 => if ((lg_cmp x5 0) = 0 : Prop) then (lX2_spreadChances_30 n S h0 v1 v2 v3 v4 v5 (v6 + 1)) else ((dO Yc (gR S h0 2) 0).bind fun d7 => (dO Yc (gR S h0 0) 1).bind fun d8 => (mX0_loadFrom S d7 d8 v1).bind fun S9 => (dO Yc (gR S9 h0 2) 0).bind fun d10 => xlet (pI S9 d10 1 (v2 + (v6 / 61))) fun S11 => (dO Yc (gR S11 h0 2) 0).bind fun d12 => xlet (pI S11 d12 2 (v6 - v6 / 61 * 61)) fun S13 => (dO Yc (gR S13 h0 2) 0).bind fun d14 => xlet (pI S13 d14 4 ((gI S13 d14 4) + v3)) fun S15 => (dO Yc (gR S15 h0 1) 3).bind fun d16 => (dO Yc (gR S15 h0 2) 0).bind fun d17 => (mX3_dawnAt S15 d16 d17 v4).bind fun q18 => (dO Yc (gR q18.2 h0 6) 11).bind fun d19 => (dO Yc (gR q18.2 h0 2) 0).bind fun d20 => (dO Yc (gR q18.2 h0 2) 0).bind fun d21 => (mX2_addChance q18.2 d19 ((gI q18.2 d20 1) - v2) (gI q18.2 d21 2) (x5 * ((10 - v5 : Int32).toInt64))).bind fun S22 => (dO Yc (gR S22 h0 2) 0).bind fun d23 => (mX0_loseSlice S22 d23).bind fun q24 => (dO Yc (gR q24.2 h0 6) 11).bind fun d25 => (dO Yc (gR q24.2 h0 2) 0).bind fun d26 => (dO Yc (gR q24.2 h0 2) 0).bind fun d27 => (mX2_addChance q24.2 d25 ((gI q24.2 d26 1) - v2) (gI q24.2 d27 2) (x5 * ((v5 : Int32).toInt64))).bind fun S28 => lX2_spreadChances_30 n S28 h0 v1 v2 v3 v4 v5 (v6 + 1)))
set_option maxHeartbeats 4000000 in
set_option maxRecDepth 100000 in
theorem wX2_spreadChances_30 {p : Program} {l : Launch} {e : Env} {s : State} {m : MethodId} {args : Array Value} {below : List Frame} {meth : Method} {c : Code} {G : xG} {S' : xS} (X : xX p s m args meth c cX2_spreadChances 9 none RX2 G Yc) : ∀ (n : Nat), ∀ (S : xS) (h0 : Nat) (v1 : Int32) (v2 : Int32) (v3 : Int32) (v4 : Int32) (v5 : Int32) (v6 : Int32) (H : Heap) (locs : List Loc) (ls : Array Slot), lX2_spreadChances_30  n S h0 v1 v2 v3 v4 v5 v6 = some S' → xk Yc h0 = 2 → xP G Yc S H → va_S (xA G Yc) s.heap H locs → lv_has ls 9 [(0, .ref (xad G h0)), (1, .int v1), (2, .int v2), (3, .int v3), (4, .int v4), (5, .int v5), (6, .int v6)] → W p l e (xr 4 99) s m args below meth c H locs 0 0 (MQ below (xQv G Yc S') args s 0 0 (xA G Yc)) (F0 m 30 ls []) := by
  obtain ⟨hx, hb, hml, hown, hts, hr, hlk, hK, hE, hJ⟩ := id X
  intro n
  induction n with
  | zero =>
    intro S h0 v1 v2 v3 v4 v5 v6 H locs ls hM
    rw [lX2_spreadChances_30.eq_1] at hM
    cases hM
  | succ n ih =>
    intro S h0 v1 v2 v3 v4 v5 v6 H locs ls hM hk0 hP hS hl
    rw [lX2_spreadChances_30.eq_2] at hM
    refine lv_iload hx hb dX2_spreadChances_30 (lv_at hl 6 rfl) ?_
    refine lv_sipush (v := 976) hx hb dX2_spreadChances_32 (by decide) ?_
    refine lv_icmp_ge (tgt := 197) hx hb dX2_spreadChances_35 (by decide) (fun c1 => ?_) (fun c1 => ?_)
    · replace hM := (if_pos c1).symm.trans hM
      refine lv_aload_n hx hb dX2_spreadChances_197 rfl (lv_at hl 0 rfl) ?_
      refine frX2_5 X hP hk0 qw72 dX2_spreadChances_198 ?_
      refine x_astoreR (lv' := [(6, va_rf (Option.map (xad G) (gR S h0 5))), (0, .ref (xad G h0)), (1, .int v1), (2, .int v2), (3, .int v3), (4, .int v4), (5, .int v5)]) hx hb dX2_spreadChances_201 hl (by decide) rfl (fun ls hl => ?_)
      refine lv_aload_n hx hb dX2_spreadChances_203 rfl (lv_at hl 1 rfl) ?_
      refine lv_aload_n hx hb dX2_spreadChances_204 rfl (lv_at hl 1 rfl) ?_
      refine frX2_6 X hP hk0 qw69 dX2_spreadChances_205 ?_
      obtain ⟨S2, eS2, hM⟩ := xlet_ex hM
      refine fpX2_5 X hP hS (v := gR S h0 6) hk0 qw72 dX2_spreadChances_208 eS2 (fun H locs hP hS => ?_)
      refine lv_aload_n hx hb dX2_spreadChances_211 rfl (lv_at hl 1 rfl) ?_
      refine x_aloadR hx hb dX2_spreadChances_212 (lv_at hl 0 rfl) ?_
      obtain ⟨S3, eS3, hM⟩ := xlet_ex hM
      refine fpX2_6 X hP hS (v := gR S h0 5) hk0 qw69 dX2_spreadChances_214 eS3 (fun H locs hP hS => ?_)
      exact x_vret X hP hS hM dX2_spreadChances_217
    · replace hM := (if_neg c1).symm.trans hM
      refine lv_aload_n hx hb dX2_spreadChances_38 rfl (lv_at hl 0 rfl) ?_
      obtain ⟨d4, ed4, hM⟩ := xb hM
      refine fdX2_5 X hP hk0 qw72 dX2_spreadChances_39 ed4 ?_
      refine lv_iload hx hb dX2_spreadChances_42 (lv_at hl 6 rfl) ?_
      obtain ⟨x5, ex5, hM⟩ := xb hM
      refine x_lald X hP (dO_k ed4) ex5 dX2_spreadChances_44 ?_
      refine lv_lstore (lv' := [(7, .long x5), (0, .ref (xad G h0)), (1, .int v1), (2, .int v2), (3, .int v3), (4, .int v4), (5, .int v5), (6, .int v6)]) hx hb dX2_spreadChances_45 hl (by decide) rfl (fun ls hl => ?_)
      refine lv_lload hx hb dX2_spreadChances_47 (lv_at hl 0 rfl) ?_
      refine lv_lconst (v := 0) hx hb dX2_spreadChances_49 (by decide) ?_
      refine W.lcmp hx hb dX2_spreadChances_50 ?_
      refine lv_if_ne (tgt := 57) hx hb dX2_spreadChances_51 (by decide) (fun c6 => ?_) (fun c6 => ?_)
      · replace hM := (if_neg c6).symm.trans hM
        refine lv_aload_n hx hb dX2_spreadChances_57 rfl (lv_at hl 1 rfl) ?_
        obtain ⟨d7, ed7, hM⟩ := xb hM
        refine fdX2_2 X hP hk0 qw61 dX2_spreadChances_58 ed7 ?_
        refine lv_aload_n hx hb dX2_spreadChances_61 rfl (lv_at hl 1 rfl) ?_
        obtain ⟨d8, ed8, hM⟩ := xb hM
        refine fdX2_0 X hP hk0 qw62 dX2_spreadChances_62 ed8 ?_
        refine lv_iload_n hx hb dX2_spreadChances_65 rfl (lv_at hl 2 rfl) ?_
        obtain ⟨S9, eS9, hM⟩ := xb hM
        refine x_gov (x_runV (rest := []) X (kX0_loadFrom l G S d7 d8 v1 S9 (dO_k ed7) (dO_k ed8) eS9) qw63 okX0_loadFrom ⟨Nat.le_of_ble_eq_true rfl, Nat.le_of_ble_eq_true rfl⟩ (dO_k ed7) (by decide) rfl hP hS rfl hl.1 rfl (Nat.le_of_ble_eq_true rfl) dX2_spreadChances_66) hS (fun H locs hP hS => ?_)
        refine lv_aload_n hx hb dX2_spreadChances_69 rfl (lv_at hl 1 rfl) ?_
        obtain ⟨d10, ed10, hM⟩ := xb hM
        refine fdX2_2 X hP hk0 qw61 dX2_spreadChances_70 ed10 ?_
        refine lv_iload_n hx hb dX2_spreadChances_73 rfl (lv_at hl 3 rfl) ?_
        refine lv_iload hx hb dX2_spreadChances_74 (lv_at hl 7 rfl) ?_
        refine lv_bipush (v := 61) hx hb dX2_spreadChances_76 (by decide) ?_
        refine lv_idiv hx hb dX2_spreadChances_78 (by decide) ?_
        refine lv_iadd hx hb dX2_spreadChances_79 ?_
        obtain ⟨S11, eS11, hM⟩ := xlet_ex hM
        refine fpX0_1 X hP hS (dO_k ed10) qw65 dX2_spreadChances_80 eS11 (fun H locs hP hS => ?_)
        refine lv_aload_n hx hb dX2_spreadChances_83 rfl (lv_at hl 1 rfl) ?_
        obtain ⟨d12, ed12, hM⟩ := xb hM
        refine fdX2_2 X hP hk0 qw61 dX2_spreadChances_84 ed12 ?_
        refine lv_iload hx hb dX2_spreadChances_87 (lv_at hl 7 rfl) ?_
        refine lv_bipush (v := 61) hx hb dX2_spreadChances_89 (by decide) ?_
        refine lv_irem hx hb dX2_spreadChances_91 (by decide) ?_
        obtain ⟨S13, eS13, hM⟩ := xlet_ex hM
        refine fpX0_2 X hP hS (dO_k ed12) qw73 dX2_spreadChances_92 eS13 (fun H locs hP hS => ?_)
        refine lv_aload_n hx hb dX2_spreadChances_95 rfl (lv_at hl 1 rfl) ?_
        obtain ⟨d14, ed14, hM⟩ := xb hM
        refine fdX2_2 X hP hk0 qw61 dX2_spreadChances_96 ed14 ?_
        refine lv_dup hx hb dX2_spreadChances_99 rfl ?_
        refine fgX0_4 X hP (dO_k ed14) qw74 dX2_spreadChances_100 ?_
        refine lv_iload_n hx hb dX2_spreadChances_103 rfl (lv_at hl 4 rfl) ?_
        refine lv_iadd hx hb dX2_spreadChances_104 ?_
        obtain ⟨S15, eS15, hM⟩ := xlet_ex hM
        refine fpX0_4 X hP hS (dO_k ed14) qw74 dX2_spreadChances_105 eS15 (fun H locs hP hS => ?_)
        refine lv_aload_n hx hb dX2_spreadChances_108 rfl (lv_at hl 1 rfl) ?_
        obtain ⟨d16, ed16, hM⟩ := xb hM
        refine fdX2_1 X hP hk0 qw66 dX2_spreadChances_109 ed16 ?_
        refine lv_aload_n hx hb dX2_spreadChances_112 rfl (lv_at hl 1 rfl) ?_
        obtain ⟨d17, ed17, hM⟩ := xb hM
        refine fdX2_2 X hP hk0 qw61 dX2_spreadChances_113 ed17 ?_
        refine lv_iload hx hb dX2_spreadChances_116 (lv_at hl 5 rfl) ?_
        obtain ⟨q18, eq18, hM⟩ := xb hM
        refine x_goi (x_runV (rest := []) X (kX3_dawnAt l G S15 d16 d17 v4 q18.1 q18.2 (dO_k ed16) (dO_k ed17) eq18) qw67 okX3_dawnAt ⟨Nat.le_of_ble_eq_true rfl, Nat.le_of_ble_eq_true rfl⟩ (dO_k ed16) (by decide) rfl hP hS rfl hl.1 rfl (Nat.le_of_ble_eq_true rfl) dX2_spreadChances_118) hS (fun H locs hP hS => ?_)
        refine lv_pop hx hb dX2_spreadChances_121 rfl ?_
        refine lv_aload_n hx hb dX2_spreadChances_122 rfl (lv_at hl 1 rfl) ?_
        obtain ⟨d19, ed19, hM⟩ := xb hM
        refine fdX2_6 X hP hk0 qw69 dX2_spreadChances_123 ed19 ?_
        refine lv_aload_n hx hb dX2_spreadChances_126 rfl (lv_at hl 1 rfl) ?_
        obtain ⟨d20, ed20, hM⟩ := xb hM
        refine fdX2_2 X hP hk0 qw61 dX2_spreadChances_127 ed20 ?_
        refine fgX0_1 X hP (dO_k ed20) qw65 dX2_spreadChances_130 ?_
        refine lv_iload_n hx hb dX2_spreadChances_133 rfl (lv_at hl 3 rfl) ?_
        refine lv_isub hx hb dX2_spreadChances_134 ?_
        refine lv_aload_n hx hb dX2_spreadChances_135 rfl (lv_at hl 1 rfl) ?_
        obtain ⟨d21, ed21, hM⟩ := xb hM
        refine fdX2_2 X hP hk0 qw61 dX2_spreadChances_136 ed21 ?_
        refine fgX0_2 X hP (dO_k ed21) qw73 dX2_spreadChances_139 ?_
        refine lv_lload hx hb dX2_spreadChances_142 (lv_at hl 0 rfl) ?_
        refine lv_bipush (v := 10) hx hb dX2_spreadChances_144 (by decide) ?_
        refine lv_iload hx hb dX2_spreadChances_146 (lv_at hl 6 rfl) ?_
        refine lv_isub hx hb dX2_spreadChances_148 ?_
        refine lv_i2l hx hb dX2_spreadChances_149 rfl ?_
        refine lv_lmul hx hb dX2_spreadChances_150 ?_
        obtain ⟨S22, eS22, hM⟩ := xb hM
        refine x_gov (x_runS (rest := []) X (kX2_addChance l G q18.2 d19 ((gI q18.2 d20 1) - v2) (gI q18.2 d21 2) (x5 * ((10 - v5 : Int32).toInt64)) S22 (dO_k ed19) eS22) qw75 okX2_addChance ⟨Nat.le_of_ble_eq_true rfl, Nat.le_of_ble_eq_true rfl⟩ hP hS rfl hl.1 rfl (Nat.le_of_ble_eq_true rfl) dX2_spreadChances_151) hS (fun H locs hP hS => ?_)
        refine lv_aload_n hx hb dX2_spreadChances_154 rfl (lv_at hl 1 rfl) ?_
        obtain ⟨d23, ed23, hM⟩ := xb hM
        refine fdX2_2 X hP hk0 qw61 dX2_spreadChances_155 ed23 ?_
        obtain ⟨q24, eq24, hM⟩ := xb hM
        refine x_goi (x_runV (rest := []) X (kX0_loseSlice l G S22 d23 q24.1 q24.2 (dO_k ed23) eq24) qw68 okX0_loseSlice ⟨Nat.le_of_ble_eq_true rfl, Nat.le_of_ble_eq_true rfl⟩ (dO_k ed23) (by decide) rfl hP hS rfl hl.1 rfl (Nat.le_of_ble_eq_true rfl) dX2_spreadChances_158) hS (fun H locs hP hS => ?_)
        refine lv_pop hx hb dX2_spreadChances_161 rfl ?_
        refine lv_aload_n hx hb dX2_spreadChances_162 rfl (lv_at hl 1 rfl) ?_
        obtain ⟨d25, ed25, hM⟩ := xb hM
        refine fdX2_6 X hP hk0 qw69 dX2_spreadChances_163 ed25 ?_
        refine lv_aload_n hx hb dX2_spreadChances_166 rfl (lv_at hl 1 rfl) ?_
        obtain ⟨d26, ed26, hM⟩ := xb hM
        refine fdX2_2 X hP hk0 qw61 dX2_spreadChances_167 ed26 ?_
        refine fgX0_1 X hP (dO_k ed26) qw65 dX2_spreadChances_170 ?_
        refine lv_iload_n hx hb dX2_spreadChances_173 rfl (lv_at hl 3 rfl) ?_
        refine lv_isub hx hb dX2_spreadChances_174 ?_
        refine lv_aload_n hx hb dX2_spreadChances_175 rfl (lv_at hl 1 rfl) ?_
        obtain ⟨d27, ed27, hM⟩ := xb hM
        refine fdX2_2 X hP hk0 qw61 dX2_spreadChances_176 ed27 ?_
        refine fgX0_2 X hP (dO_k ed27) qw73 dX2_spreadChances_179 ?_
        refine lv_lload hx hb dX2_spreadChances_182 (lv_at hl 0 rfl) ?_
        refine lv_iload hx hb dX2_spreadChances_184 (lv_at hl 6 rfl) ?_
        refine lv_i2l hx hb dX2_spreadChances_186 rfl ?_
        refine lv_lmul hx hb dX2_spreadChances_187 ?_
        obtain ⟨S28, eS28, hM⟩ := xb hM
        refine x_gov (x_runS (rest := []) X (kX2_addChance l G q24.2 d25 ((gI q24.2 d26 1) - v2) (gI q24.2 d27 2) (x5 * ((v5 : Int32).toInt64)) S28 (dO_k ed25) eS28) qw75 okX2_addChance ⟨Nat.le_of_ble_eq_true rfl, Nat.le_of_ble_eq_true rfl⟩ hP hS rfl hl.1 rfl (Nat.le_of_ble_eq_true rfl) dX2_spreadChances_188) hS (fun H locs hP hS => ?_)
        refine lv_iinc (v := v6 + 1) (lv' := [(6, .int (v6 + 1)), (7, .long x5), (0, .ref (xad G h0)), (1, .int v1), (2, .int v2), (3, .int v3), (4, .int v4), (5, .int v5)]) hx hb dX2_spreadChances_191 hl (k := 7) rfl (by first | rfl | exact congrArg (fun z => v6 + z) (by decide)) (by decide) rfl (fun ls hl => ?_)
        refine lv_goto (tgt := 30) hx hb dX2_spreadChances_194 (by decide) ?_
        exact ih S28 h0 v1 v2 v3 v4 v5 (v6 + 1) _ _ _ hM hk0 hP hS (lv_sub hl [2, 3, 4, 5, 6, 7, 0] rfl)
      · replace hM := (if_pos c6).symm.trans hM
        refine lv_goto (tgt := 191) hx hb dX2_spreadChances_54 (by decide) ?_
        refine lv_iinc (v := v6 + 1) (lv' := [(6, .int (v6 + 1)), (7, .long x5), (0, .ref (xad G h0)), (1, .int v1), (2, .int v2), (3, .int v3), (4, .int v4), (5, .int v5)]) hx hb dX2_spreadChances_191 hl (k := 7) rfl (by first | rfl | exact congrArg (fun z => v6 + z) (by decide)) (by decide) rfl (fun ls hl => ?_)
        refine lv_goto (tgt := 30) hx hb dX2_spreadChances_194 (by decide) ?_
        exact ih S h0 v1 v2 v3 v4 v5 (v6 + 1) _ _ _ hM hk0 hP hS (lv_sub hl [2, 3, 4, 5, 6, 7, 0] rfl)
def mX2_spreadChances (S : xS) (h0 : Nat) (p1 : Int32) (p2 : Int32) (p3 : Int32) : Option xS := (dO Yc (gR S h0 6) 11).bind fun d1 => (mJ7_fill_d0a16 S d1 0).bind fun S2 => (dO Yc (gR S2 h0 0) 1).bind fun d3 => (mX1_sitters S2 d3 p1).bind fun q4 => (dO Yc (gR q4.2 h0 0) 1).bind fun d5 => lX2_spreadChances_30  5000 q4.2 h0 p1 p2 p3 q4.1 (gI q4.2 d5 6) 0
set_option maxHeartbeats 4000000 in
set_option maxRecDepth 100000 in
theorem kX2_spreadChances (l : Launch) (G : xG) (S : xS) (h0 : Nat) (p1 : Int32) (p2 : Int32) (p3 : Int32) (S' : xS) (hk0 : xk Yc h0 = 2) (hM : mX2_spreadChances S h0 p1 p2 p3 = some S') : xM l yX2_spreadChances cX2_spreadChances 9 none 4 99 G Yc [.ref (xad G h0), .int p1, .int p2, .int p3] S (xQv G Yc S') := by
  refine x_start (own := RX2) (by decide +kernel) rfl (Nat.le_of_ble_eq_true rfl) ?_
  intro p e s m below meth c ls X hl hP hS
  obtain ⟨hx, hb, hml, hown, hts, hr, hlk, hK, hE, hJ⟩ := id X
  have hl : lv_has ls 9 [(0, .ref (xad G h0)), (1, .int p1), (2, .int p2), (3, .int p3)] := hl
  unfold mX2_spreadChances at hM
  refine lv_aload_n hx hb dX2_spreadChances_0 rfl (lv_at hl 0 rfl) ?_
  obtain ⟨d1, ed1, hM⟩ := xb hM
  refine fdX2_6 X hP hk0 qw69 dX2_spreadChances_1 ed1 ?_
  refine lv_lconst (v := 0) hx hb dX2_spreadChances_4 (by decide) ?_
  obtain ⟨S2, eS2, hM⟩ := xb hM
  refine x_gov (x_runS (rest := []) X (kJ7_fill_d0a16 l G S d1 0 S2 (dO_k ed1) eS2) qw70 okJ7_fill_d0a16 ⟨Nat.le_of_ble_eq_true rfl, Nat.le_of_ble_eq_true rfl⟩ hP hS rfl hl.1 rfl (Nat.le_of_ble_eq_true rfl) dX2_spreadChances_5) hS (fun H locs hP hS => ?_)
  refine lv_aload_n hx hb dX2_spreadChances_8 rfl (lv_at hl 0 rfl) ?_
  obtain ⟨d3, ed3, hM⟩ := xb hM
  refine fdX2_0 X hP hk0 qw62 dX2_spreadChances_9 ed3 ?_
  refine lv_iload_n hx hb dX2_spreadChances_12 rfl (lv_at hl 1 rfl) ?_
  obtain ⟨q4, eq4, hM⟩ := xb hM
  refine x_goi (x_runV (rest := []) X (kX1_sitters l G S2 d3 p1 q4.1 q4.2 (dO_k ed3) eq4) qw64 okX1_sitters ⟨Nat.le_of_ble_eq_true rfl, Nat.le_of_ble_eq_true rfl⟩ (dO_k ed3) (by decide) rfl hP hS rfl hl.1 rfl (Nat.le_of_ble_eq_true rfl) dX2_spreadChances_13) hS (fun H locs hP hS => ?_)
  refine lv_istore (lv' := [(4, .int q4.1), (0, .ref (xad G h0)), (1, .int p1), (2, .int p2), (3, .int p3)]) hx hb dX2_spreadChances_16 hl (by decide) rfl (fun ls hl => ?_)
  refine lv_aload_n hx hb dX2_spreadChances_18 rfl (lv_at hl 1 rfl) ?_
  obtain ⟨d5, ed5, hM⟩ := xb hM
  refine fdX2_0 X hP hk0 qw62 dX2_spreadChances_19 ed5 ?_
  refine fgX1_6 X hP (dO_k ed5) qw71 dX2_spreadChances_22 ?_
  refine lv_istore (lv' := [(5, .int (gI q4.2 d5 6)), (4, .int q4.1), (0, .ref (xad G h0)), (1, .int p1), (2, .int p2), (3, .int p3)]) hx hb dX2_spreadChances_25 hl (by decide) rfl (fun ls hl => ?_)
  refine lv_iconst (v := 0) hx hb dX2_spreadChances_27 (by decide) ?_
  refine lv_istore (lv' := [(6, .int 0), (5, .int (gI q4.2 d5 6)), (4, .int q4.1), (0, .ref (xad G h0)), (1, .int p1), (2, .int p2), (3, .int p3)]) hx hb dX2_spreadChances_28 hl (by decide) rfl (fun ls hl => ?_)
  exact wX2_spreadChances_30 X  5000 q4.2 h0 p1 p2 p3 q4.1 (gI q4.2 d5 6) 0 _ _ _ hM hk0 hP hS (lv_sub hl [3, 4, 5, 6, 2, 1, 0] rfl)

def lX2_weightOfDay_75 : Nat → xS → Nat → Int32 → Int32 → Int64 → Int32 → Option (Int64 × xS)
  | 0, _, _, _, _, _, _ => none
  | n + 1, S, h0, v2, v4, w5, v7 => if (976 ≤ v7 : Prop) then (some (w5, S)) else (if ((v4 + (v7 / 61)) < v2 : Prop) then (lX2_weightOfDay_75 n S h0 v2 v4 w5 (v7 + 1)) else ((dO Yc (gR S h0 5) 11).bind fun d3 => (aJ Yc S d3 v7).bind fun x4 => lX2_weightOfDay_75 n S h0 v2 v4 (w5 + x4) (v7 + 1)))
set_option maxHeartbeats 4000000 in
set_option maxRecDepth 100000 in
theorem wX2_weightOfDay_75 {p : Program} {l : Launch} {e : Env} {s : State} {m : MethodId} {args : Array Value} {below : List Frame} {meth : Method} {c : Code} {G : xG} {r : Int64} {S' : xS} (X : xX p s m args meth c cX2_weightOfDay 8 (some .long) RX2 G Yc) : ∀ (n : Nat), ∀ (S : xS) (h0 : Nat) (v2 : Int32) (v4 : Int32) (w5 : Int64) (v7 : Int32) (H : Heap) (locs : List Loc) (ls : Array Slot), lX2_weightOfDay_75  n S h0 v2 v4 w5 v7 = some (r, S') → xk Yc h0 = 2 → xP G Yc S H → va_S (xA G Yc) s.heap H locs → lv_has ls 8 [(0, .ref (xad G h0)), (2, .int v2), (4, .int v4), (5, .long w5), (7, .int v7)] → W p l e (xr 5 127) s m args below meth c H locs 0 0 (MQ below (xQl G Yc r S') args s 0 0 (xA G Yc)) (F0 m 75 ls []) := by
  obtain ⟨hx, hb, hml, hown, hts, hr, hlk, hK, hE, hJ⟩ := id X
  intro n
  induction n with
  | zero =>
    intro S h0 v2 v4 w5 v7 H locs ls hM
    rw [lX2_weightOfDay_75.eq_1] at hM
    cases hM
  | succ n ih =>
    intro S h0 v2 v4 w5 v7 H locs ls hM hk0 hP hS hl
    rw [lX2_weightOfDay_75.eq_2] at hM
    refine lv_iload hx hb dX2_weightOfDay_75 (lv_at hl 4 rfl) ?_
    refine lv_sipush (v := 976) hx hb dX2_weightOfDay_77 (by decide) ?_
    refine lv_icmp_ge (tgt := 113) hx hb dX2_weightOfDay_80 (by decide) (fun c1 => ?_) (fun c1 => ?_)
    · replace hM := (if_pos c1).symm.trans hM
      refine lv_lload hx hb dX2_weightOfDay_113 (lv_at hl 3 rfl) ?_
      exact x_lret X hP hS hM dX2_weightOfDay_115
    · replace hM := (if_neg c1).symm.trans hM
      refine lv_iload hx hb dX2_weightOfDay_83 (lv_at hl 2 rfl) ?_
      refine lv_iload hx hb dX2_weightOfDay_85 (lv_at hl 4 rfl) ?_
      refine lv_bipush (v := 61) hx hb dX2_weightOfDay_87 (by decide) ?_
      refine lv_idiv hx hb dX2_weightOfDay_89 (by decide) ?_
      refine lv_iadd hx hb dX2_weightOfDay_90 ?_
      refine lv_iload_n hx hb dX2_weightOfDay_91 rfl (lv_at hl 1 rfl) ?_
      refine lv_icmp_lt (tgt := 107) hx hb dX2_weightOfDay_92 (by decide) (fun c2 => ?_) (fun c2 => ?_)
      · replace hM := (if_pos c2).symm.trans hM
        refine lv_iinc (v := v7 + 1) (lv' := [(7, .int (v7 + 1)), (0, .ref (xad G h0)), (2, .int v2), (4, .int v4), (5, .long w5)]) hx hb dX2_weightOfDay_107 hl (k := 4) rfl (by first | rfl | exact congrArg (fun z => v7 + z) (by decide)) (by decide) rfl (fun ls hl => ?_)
        refine lv_goto (tgt := 75) hx hb dX2_weightOfDay_110 (by decide) ?_
        exact ih S h0 v2 v4 w5 (v7 + 1) _ _ _ hM hk0 hP hS (lv_sub hl [1, 2, 3, 4, 0] rfl)
      · replace hM := (if_neg c2).symm.trans hM
        refine lv_lload hx hb dX2_weightOfDay_95 (lv_at hl 3 rfl) ?_
        refine lv_aload_n hx hb dX2_weightOfDay_97 rfl (lv_at hl 0 rfl) ?_
        obtain ⟨d3, ed3, hM⟩ := xb hM
        refine fdX2_5 X hP hk0 qw72 dX2_weightOfDay_98 ed3 ?_
        refine lv_iload hx hb dX2_weightOfDay_101 (lv_at hl 4 rfl) ?_
        obtain ⟨x4, ex4, hM⟩ := xb hM
        refine x_lald X hP (dO_k ed3) ex4 dX2_weightOfDay_103 ?_
        refine lv_ladd hx hb dX2_weightOfDay_104 ?_
        refine lv_lstore (lv' := [(5, .long (w5 + x4)), (0, .ref (xad G h0)), (2, .int v2), (4, .int v4), (7, .int v7)]) hx hb dX2_weightOfDay_105 hl (by decide) rfl (fun ls hl => ?_)
        refine lv_iinc (v := v7 + 1) (lv' := [(7, .int (v7 + 1)), (5, .long (w5 + x4)), (0, .ref (xad G h0)), (2, .int v2), (4, .int v4)]) hx hb dX2_weightOfDay_107 hl (k := 4) rfl (by first | rfl | exact congrArg (fun z => v7 + z) (by decide)) (by decide) rfl (fun ls hl => ?_)
        refine lv_goto (tgt := 75) hx hb dX2_weightOfDay_110 (by decide) ?_
        exact ih S h0 v2 v4 (w5 + x4) (v7 + 1) _ _ _ hM hk0 hP hS (lv_sub hl [2, 3, 4, 1, 0] rfl)
def lX2_weightOfDay_48 : Nat → xS → Nat → Int32 → Int32 → Int32 → Int32 → Int32 → Option (Int64 × xS)
  | 0, _, _, _, _, _, _, _ => none
  | n + 1, S, h0, v1, v2, v3, v4, v5 => if (v3 ≤ v5 : Prop) then (lX2_weightOfDay_75  5000 S h0 v2 v4 0 0) else ((mX2_spreadChances S h0 v1 v4 v5).bind fun S2 => lX2_weightOfDay_48 n S2 h0 v1 v2 v3 v4 (v5 + 1))
set_option maxHeartbeats 4000000 in
set_option maxRecDepth 100000 in
theorem wX2_weightOfDay_48 {p : Program} {l : Launch} {e : Env} {s : State} {m : MethodId} {args : Array Value} {below : List Frame} {meth : Method} {c : Code} {G : xG} {r : Int64} {S' : xS} (X : xX p s m args meth c cX2_weightOfDay 8 (some .long) RX2 G Yc) : ∀ (n : Nat), ∀ (S : xS) (h0 : Nat) (v1 : Int32) (v2 : Int32) (v3 : Int32) (v4 : Int32) (v5 : Int32) (H : Heap) (locs : List Loc) (ls : Array Slot), lX2_weightOfDay_48  n S h0 v1 v2 v3 v4 v5 = some (r, S') → xk Yc h0 = 2 → xP G Yc S H → va_S (xA G Yc) s.heap H locs → lv_has ls 8 [(0, .ref (xad G h0)), (1, .int v1), (2, .int v2), (3, .int v3), (4, .int v4), (5, .int v5)] → W p l e (xr 5 127) s m args below meth c H locs 0 0 (MQ below (xQl G Yc r S') args s 0 0 (xA G Yc)) (F0 m 48 ls []) := by
  obtain ⟨hx, hb, hml, hown, hts, hr, hlk, hK, hE, hJ⟩ := id X
  intro n
  induction n with
  | zero =>
    intro S h0 v1 v2 v3 v4 v5 H locs ls hM
    rw [lX2_weightOfDay_48.eq_1] at hM
    cases hM
  | succ n ih =>
    intro S h0 v1 v2 v3 v4 v5 H locs ls hM hk0 hP hS hl
    rw [lX2_weightOfDay_48.eq_2] at hM
    refine lv_iload hx hb dX2_weightOfDay_48 (lv_at hl 5 rfl) ?_
    refine lv_iload_n hx hb dX2_weightOfDay_50 rfl (lv_at hl 3 rfl) ?_
    refine lv_icmp_ge (tgt := 69) hx hb dX2_weightOfDay_51 (by decide) (fun c1 => ?_) (fun c1 => ?_)
    · replace hM := (if_pos c1).symm.trans hM
      refine lv_lconst (v := 0) hx hb dX2_weightOfDay_69 (by decide) ?_
      refine lv_lstore (lv' := [(5, .long 0), (0, .ref (xad G h0)), (1, .int v1), (2, .int v2), (3, .int v3), (4, .int v4)]) hx hb dX2_weightOfDay_70 hl (by decide) rfl (fun ls hl => ?_)
      refine lv_iconst (v := 0) hx hb dX2_weightOfDay_72 (by decide) ?_
      refine lv_istore (lv' := [(7, .int 0), (5, .long 0), (0, .ref (xad G h0)), (1, .int v1), (2, .int v2), (3, .int v3), (4, .int v4)]) hx hb dX2_weightOfDay_73 hl (by decide) rfl (fun ls hl => ?_)
      exact wX2_weightOfDay_75 X  5000 S h0 v2 v4 0 0 _ _ _ hM hk0 hP hS (lv_sub hl [2, 4, 6, 1, 0] rfl)
    · replace hM := (if_neg c1).symm.trans hM
      refine lv_aload_n hx hb dX2_weightOfDay_54 rfl (lv_at hl 0 rfl) ?_
      refine lv_iload_n hx hb dX2_weightOfDay_55 rfl (lv_at hl 1 rfl) ?_
      refine lv_iload hx hb dX2_weightOfDay_56 (lv_at hl 4 rfl) ?_
      refine lv_iload hx hb dX2_weightOfDay_58 (lv_at hl 5 rfl) ?_
      obtain ⟨S2, eS2, hM⟩ := xb hM
      refine x_gov (x_runV (rest := []) X (kX2_spreadChances l G S h0 v1 v4 v5 S2 hk0 eS2) qw76 okX2_spreadChances ⟨Nat.le_of_ble_eq_true rfl, Nat.le_of_ble_eq_true rfl⟩ hk0 (by decide) rfl hP hS rfl hl.1 rfl (Nat.le_of_ble_eq_true rfl) dX2_weightOfDay_60) hS (fun H locs hP hS => ?_)
      refine lv_iinc (v := v5 + 1) (lv' := [(5, .int (v5 + 1)), (0, .ref (xad G h0)), (1, .int v1), (2, .int v2), (3, .int v3), (4, .int v4)]) hx hb dX2_weightOfDay_63 hl (k := 5) rfl (by first | rfl | exact congrArg (fun z => v5 + z) (by decide)) (by decide) rfl (fun ls hl => ?_)
      refine lv_goto (tgt := 48) hx hb dX2_weightOfDay_66 (by decide) ?_
      exact ih S2 h0 v1 v2 v3 v4 (v5 + 1) _ _ _ hM hk0 hP hS (lv_sub hl [1, 2, 3, 4, 5, 0] rfl)
def mX2_weightOfDay (S : xS) (h0 : Nat) (p1 : Int32) (p2 : Int32) (p3 : Int32) : Option (Int64 × xS) := (dO Yc (gR S h0 2) 0).bind fun d1 => (dO Yc (gR S h0 0) 1).bind fun d2 => (mX0_loadFrom S d1 d2 p1).bind fun S3 => (dO Yc (gR S3 h0 2) 0).bind fun d4 => (dO Yc (gR S3 h0 5) 11).bind fun d5 => (mJ7_fill_d0a16 S3 d5 0).bind fun S6 => (dO Yc (gR S6 h0 5) 11).bind fun d7 => (dO Yc (gR S6 h0 2) 0).bind fun d8 => (mX2_addChance S6 d7 0 (gI S6 d8 2) 1).bind fun S9 => lX2_weightOfDay_48  5000 S9 h0 p1 p2 p3 (gI S3 d4 1) 0
set_option maxHeartbeats 4000000 in
set_option maxRecDepth 100000 in
theorem kX2_weightOfDay (l : Launch) (G : xG) (S : xS) (h0 : Nat) (p1 : Int32) (p2 : Int32) (p3 : Int32) (r : Int64) (S' : xS) (hk0 : xk Yc h0 = 2) (hM : mX2_weightOfDay S h0 p1 p2 p3 = some (r, S')) : xM l yX2_weightOfDay cX2_weightOfDay 8 (some .long) 5 127 G Yc [.ref (xad G h0), .int p1, .int p2, .int p3] S (xQl G Yc r S') := by
  refine x_start (own := RX2) (by decide +kernel) rfl (Nat.le_of_ble_eq_true rfl) ?_
  intro p e s m below meth c ls X hl hP hS
  obtain ⟨hx, hb, hml, hown, hts, hr, hlk, hK, hE, hJ⟩ := id X
  have hl : lv_has ls 8 [(0, .ref (xad G h0)), (1, .int p1), (2, .int p2), (3, .int p3)] := hl
  unfold mX2_weightOfDay at hM
  refine lv_aload_n hx hb dX2_weightOfDay_0 rfl (lv_at hl 0 rfl) ?_
  obtain ⟨d1, ed1, hM⟩ := xb hM
  refine fdX2_2 X hP hk0 qw61 dX2_weightOfDay_1 ed1 ?_
  refine lv_aload_n hx hb dX2_weightOfDay_4 rfl (lv_at hl 0 rfl) ?_
  obtain ⟨d2, ed2, hM⟩ := xb hM
  refine fdX2_0 X hP hk0 qw62 dX2_weightOfDay_5 ed2 ?_
  refine lv_iload_n hx hb dX2_weightOfDay_8 rfl (lv_at hl 1 rfl) ?_
  obtain ⟨S3, eS3, hM⟩ := xb hM
  refine x_gov (x_runV (rest := []) X (kX0_loadFrom l G S d1 d2 p1 S3 (dO_k ed1) (dO_k ed2) eS3) qw63 okX0_loadFrom ⟨Nat.le_of_ble_eq_true rfl, Nat.le_of_ble_eq_true rfl⟩ (dO_k ed1) (by decide) rfl hP hS rfl hl.1 rfl (Nat.le_of_ble_eq_true rfl) dX2_weightOfDay_9) hS (fun H locs hP hS => ?_)
  refine lv_aload_n hx hb dX2_weightOfDay_12 rfl (lv_at hl 0 rfl) ?_
  obtain ⟨d4, ed4, hM⟩ := xb hM
  refine fdX2_2 X hP hk0 qw61 dX2_weightOfDay_13 ed4 ?_
  refine fgX0_1 X hP (dO_k ed4) qw65 dX2_weightOfDay_16 ?_
  refine lv_istore (lv' := [(4, .int (gI S3 d4 1)), (0, .ref (xad G h0)), (1, .int p1), (2, .int p2), (3, .int p3)]) hx hb dX2_weightOfDay_19 hl (by decide) rfl (fun ls hl => ?_)
  refine lv_aload_n hx hb dX2_weightOfDay_21 rfl (lv_at hl 1 rfl) ?_
  obtain ⟨d5, ed5, hM⟩ := xb hM
  refine fdX2_5 X hP hk0 qw72 dX2_weightOfDay_22 ed5 ?_
  refine lv_lconst (v := 0) hx hb dX2_weightOfDay_25 (by decide) ?_
  obtain ⟨S6, eS6, hM⟩ := xb hM
  refine x_gov (x_runS (rest := []) X (kJ7_fill_d0a16 l G S3 d5 0 S6 (dO_k ed5) eS6) qw70 okJ7_fill_d0a16 ⟨Nat.le_of_ble_eq_true rfl, Nat.le_of_ble_eq_true rfl⟩ hP hS rfl hl.1 rfl (Nat.le_of_ble_eq_true rfl) dX2_weightOfDay_26) hS (fun H locs hP hS => ?_)
  refine lv_aload_n hx hb dX2_weightOfDay_29 rfl (lv_at hl 1 rfl) ?_
  obtain ⟨d7, ed7, hM⟩ := xb hM
  refine fdX2_5 X hP hk0 qw72 dX2_weightOfDay_30 ed7 ?_
  refine lv_iconst (v := 0) hx hb dX2_weightOfDay_33 (by decide) ?_
  refine lv_aload_n hx hb dX2_weightOfDay_34 rfl (lv_at hl 1 rfl) ?_
  obtain ⟨d8, ed8, hM⟩ := xb hM
  refine fdX2_2 X hP hk0 qw61 dX2_weightOfDay_35 ed8 ?_
  refine fgX0_2 X hP (dO_k ed8) qw73 dX2_weightOfDay_38 ?_
  refine lv_lconst (v := 1) hx hb dX2_weightOfDay_41 (by decide) ?_
  obtain ⟨S9, eS9, hM⟩ := xb hM
  refine x_gov (x_runS (rest := []) X (kX2_addChance l G S6 d7 0 (gI S6 d8 2) 1 S9 (dO_k ed7) eS9) qw75 okX2_addChance ⟨Nat.le_of_ble_eq_true rfl, Nat.le_of_ble_eq_true rfl⟩ hP hS rfl hl.1 rfl (Nat.le_of_ble_eq_true rfl) dX2_weightOfDay_42) hS (fun H locs hP hS => ?_)
  refine lv_iconst (v := 0) hx hb dX2_weightOfDay_45 (by decide) ?_
  refine lv_istore (lv' := [(5, .int 0), (4, .int (gI S3 d4 1)), (0, .ref (xad G h0)), (1, .int p1), (2, .int p2), (3, .int p3)]) hx hb dX2_weightOfDay_46 hl (by decide) rfl (fun ls hl => ?_)
  exact wX2_weightOfDay_48 X  5000 S9 h0 p1 p2 p3 (gI S3 d4 1) 0 _ _ _ hM hk0 hP hS (lv_sub hl [2, 3, 4, 5, 1, 0] rfl)

def lX2_powerOfTen_4 : Nat → xS → Int32 → Int64 → Int32 → Option (Int64 × xS)
  | 0, _, _, _, _ => none
  | n + 1, S, v0, w1, v3 => if (v0 ≤ v3 : Prop) then (some (w1, S)) else (lX2_powerOfTen_4 n S v0 (w1 * 10) (v3 + 1))
set_option maxHeartbeats 4000000 in
set_option maxRecDepth 100000 in
theorem wX2_powerOfTen_4 {p : Program} {l : Launch} {e : Env} {s : State} {m : MethodId} {args : Array Value} {below : List Frame} {meth : Method} {c : Code} {G : xG} {r : Int64} {S' : xS} (X : xX p s m args meth c cX2_powerOfTen 4 (some .long) RX2 G Yc) : ∀ (n : Nat), ∀ (S : xS) (v0 : Int32) (w1 : Int64) (v3 : Int32) (H : Heap) (locs : List Loc) (ls : Array Slot), lX2_powerOfTen_4  n S v0 w1 v3 = some (r, S') → xP G Yc S H → va_S (xA G Yc) s.heap H locs → lv_has ls 4 [(0, .int v0), (1, .long w1), (3, .int v3)] → W p l e (xr 0 0) s m args below meth c H locs 0 0 (MQ below (xQl G Yc r S') args s 0 0 (xA G Yc)) (F0 m 4 ls []) := by
  obtain ⟨hx, hb, hml, hown, hts, hr, hlk, hK, hE, hJ⟩ := id X
  intro n
  induction n with
  | zero =>
    intro S v0 w1 v3 H locs ls hM
    rw [lX2_powerOfTen_4.eq_1] at hM
    cases hM
  | succ n ih =>
    intro S v0 w1 v3 H locs ls hM  hP hS hl
    rw [lX2_powerOfTen_4.eq_2] at hM
    refine lv_iload_n hx hb dX2_powerOfTen_4 rfl (lv_at hl 2 rfl) ?_
    refine lv_iload_n hx hb dX2_powerOfTen_5 rfl (lv_at hl 0 rfl) ?_
    refine lv_icmp_ge (tgt := 21) hx hb dX2_powerOfTen_6 (by decide) (fun c1 => ?_) (fun c1 => ?_)
    · replace hM := (if_pos c1).symm.trans hM
      refine lv_lload_n hx hb dX2_powerOfTen_21 rfl (lv_at hl 1 rfl) ?_
      exact x_lret X hP hS hM dX2_powerOfTen_22
    · replace hM := (if_neg c1).symm.trans hM
      refine lv_lload_n hx hb dX2_powerOfTen_9 rfl (lv_at hl 1 rfl) ?_
      refine x_ldc2 X qw77 dX2_powerOfTen_10 ?_
      refine lv_lmul hx hb dX2_powerOfTen_13 ?_
      refine lv_lstore_n (lv' := [(1, .long (w1 * 10)), (0, .int v0), (3, .int v3)]) hx hb dX2_powerOfTen_14 rfl hl (by decide) rfl (fun ls hl => ?_)
      refine lv_iinc (v := v3 + 1) (lv' := [(3, .int (v3 + 1)), (1, .long (w1 * 10)), (0, .int v0)]) hx hb dX2_powerOfTen_15 hl (k := 2) rfl (by first | rfl | exact congrArg (fun z => v3 + z) (by decide)) (by decide) rfl (fun ls hl => ?_)
      refine lv_goto (tgt := 4) hx hb dX2_powerOfTen_18 (by decide) ?_
      exact ih S v0 (w1 * 10) (v3 + 1) _ _ _ hM  hP hS (lv_sub hl [2, 1, 0] rfl)
def mX2_powerOfTen (S : xS) (p0 : Int32) : Option (Int64 × xS) := lX2_powerOfTen_4  5000 S p0 1 0
set_option maxHeartbeats 4000000 in
set_option maxRecDepth 100000 in
theorem kX2_powerOfTen (l : Launch) (G : xG) (S : xS) (p0 : Int32) (r : Int64) (S' : xS) (hM : mX2_powerOfTen S p0 = some (r, S')) : xM l yX2_powerOfTen cX2_powerOfTen 4 (some .long) 0 0 G Yc [.int p0] S (xQl G Yc r S') := by
  refine x_start (own := RX2) (by decide +kernel) rfl (Nat.le_of_ble_eq_true rfl) ?_
  intro p e s m below meth c ls X hl hP hS
  obtain ⟨hx, hb, hml, hown, hts, hr, hlk, hK, hE, hJ⟩ := id X
  have hl : lv_has ls 4 [(0, .int p0)] := hl
  unfold mX2_powerOfTen at hM
  refine lv_lconst (v := 1) hx hb dX2_powerOfTen_0 (by decide) ?_
  refine lv_lstore_n (lv' := [(1, .long 1), (0, .int p0)]) hx hb dX2_powerOfTen_1 rfl hl (by decide) rfl (fun ls hl => ?_)
  refine lv_iconst (v := 0) hx hb dX2_powerOfTen_2 (by decide) ?_
  refine lv_istore_n (lv' := [(3, .int 0), (1, .long 1), (0, .int p0)]) hx hb dX2_powerOfTen_3 rfl hl (by decide) rfl (fun ls hl => ?_)
  exact wX2_powerOfTen_4 X  5000 S p0 1 0 _ _ _ hM  hP hS (lv_sub hl [2, 1, 0] rfl)

def lX2_commonDivisor_9 : Nat → xS → Int64 → Int64 → Int32 → Option (Int64 × xS)
  | 0, _, _, _, _ => none
  | n + 1, S, w4, w6, v8 => if (200 ≤ v8 : Prop) then (some (w4, S)) else (if ((lg_cmp w6 0) = 0 : Prop) then (some (w4, S)) else ((if w6 = 0 then none else lX2_commonDivisor_9 n S w6 (w4 - w4 / w6 * w6) (v8 + 1))))
set_option maxHeartbeats 4000000 in
set_option maxRecDepth 100000 in
theorem wX2_commonDivisor_9 {p : Program} {l : Launch} {e : Env} {s : State} {m : MethodId} {args : Array Value} {below : List Frame} {meth : Method} {c : Code} {G : xG} {r : Int64} {S' : xS} (X : xX p s m args meth c cX2_commonDivisor 11 (some .long) RX2 G Yc) : ∀ (n : Nat), ∀ (S : xS) (w4 : Int64) (w6 : Int64) (v8 : Int32) (H : Heap) (locs : List Loc) (ls : Array Slot), lX2_commonDivisor_9  n S w4 w6 v8 = some (r, S') → xP G Yc S H → va_S (xA G Yc) s.heap H locs → lv_has ls 11 [(4, .long w4), (6, .long w6), (8, .int v8)] → W p l e (xr 0 0) s m args below meth c H locs 0 0 (MQ below (xQl G Yc r S') args s 0 0 (xA G Yc)) (F0 m 9 ls []) := by
  obtain ⟨hx, hb, hml, hown, hts, hr, hlk, hK, hE, hJ⟩ := id X
  intro n
  induction n with
  | zero =>
    intro S w4 w6 v8 H locs ls hM
    rw [lX2_commonDivisor_9.eq_1] at hM
    cases hM
  | succ n ih =>
    intro S w4 w6 v8 H locs ls hM  hP hS hl
    rw [lX2_commonDivisor_9.eq_2] at hM
    refine lv_iload hx hb dX2_commonDivisor_9 (lv_at hl 2 rfl) ?_
    refine lv_sipush (v := 200) hx hb dX2_commonDivisor_11 (by decide) ?_
    refine lv_icmp_ge (tgt := 45) hx hb dX2_commonDivisor_14 (by decide) (fun c1 => ?_) (fun c1 => ?_)
    · replace hM := (if_pos c1).symm.trans hM
      refine lv_lload hx hb dX2_commonDivisor_45 (lv_at hl 0 rfl) ?_
      exact x_lret X hP hS hM dX2_commonDivisor_47
    · replace hM := (if_neg c1).symm.trans hM
      refine lv_lload hx hb dX2_commonDivisor_17 (lv_at hl 1 rfl) ?_
      refine lv_lconst (v := 0) hx hb dX2_commonDivisor_19 (by decide) ?_
      refine W.lcmp hx hb dX2_commonDivisor_20 ?_
      refine lv_if_eq (tgt := 45) hx hb dX2_commonDivisor_21 (by decide) (fun c2 => ?_) (fun c2 => ?_)
      · replace hM := (if_pos c2).symm.trans hM
        refine lv_lload hx hb dX2_commonDivisor_45 (lv_at hl 0 rfl) ?_
        exact x_lret X hP hS hM dX2_commonDivisor_47
      · replace hM := (if_neg c2).symm.trans hM
        refine lv_lload hx hb dX2_commonDivisor_24 (lv_at hl 0 rfl) ?_
        refine lv_lload hx hb dX2_commonDivisor_26 (lv_at hl 1 rfl) ?_
        by_cases ec3 : w6 = 0
        · replace hM := (if_pos ec3).symm.trans hM; cases hM
        replace hM := (if_neg ec3).symm.trans hM
        refine lv_lrem hx hb dX2_commonDivisor_28 ec3 ?_
        refine lv_lstore (lv' := [(9, .long (w4 - w4 / w6 * w6)), (4, .long w4), (6, .long w6), (8, .int v8)]) hx hb dX2_commonDivisor_29 hl (by decide) rfl (fun ls hl => ?_)
        refine lv_lload hx hb dX2_commonDivisor_31 (lv_at hl 2 rfl) ?_
        refine lv_lstore (lv' := [(4, .long w6), (9, .long (w4 - w4 / w6 * w6)), (6, .long w6), (8, .int v8)]) hx hb dX2_commonDivisor_33 hl (by decide) rfl (fun ls hl => ?_)
        refine lv_lload hx hb dX2_commonDivisor_35 (lv_at hl 1 rfl) ?_
        refine lv_lstore (lv' := [(6, .long (w4 - w4 / w6 * w6)), (4, .long w6), (9, .long (w4 - w4 / w6 * w6)), (8, .int v8)]) hx hb dX2_commonDivisor_37 hl (by decide) rfl (fun ls hl => ?_)
        refine lv_iinc (v := v8 + 1) (lv' := [(8, .int (v8 + 1)), (6, .long (w4 - w4 / w6 * w6)), (4, .long w6), (9, .long (w4 - w4 / w6 * w6))]) hx hb dX2_commonDivisor_39 hl (k := 3) rfl (by first | rfl | exact congrArg (fun z => v8 + z) (by decide)) (by decide) rfl (fun ls hl => ?_)
        refine lv_goto (tgt := 9) hx hb dX2_commonDivisor_42 (by decide) ?_
        exact ih S w6 (w4 - w4 / w6 * w6) (v8 + 1) _ _ _ hM  hP hS (lv_sub hl [2, 1, 0] rfl)
def mX2_commonDivisor (S : xS) (p0 : Int64) (p2 : Int64) : Option (Int64 × xS) := lX2_commonDivisor_9  5000 S p0 p2 0
set_option maxHeartbeats 4000000 in
set_option maxRecDepth 100000 in
theorem kX2_commonDivisor (l : Launch) (G : xG) (S : xS) (p0 : Int64) (p2 : Int64) (r : Int64) (S' : xS) (hM : mX2_commonDivisor S p0 p2 = some (r, S')) : xM l yX2_commonDivisor cX2_commonDivisor 11 (some .long) 0 0 G Yc [.long p0, .long p2] S (xQl G Yc r S') := by
  refine x_start (own := RX2) (by decide +kernel) rfl (Nat.le_of_ble_eq_true rfl) ?_
  intro p e s m below meth c ls X hl hP hS
  obtain ⟨hx, hb, hml, hown, hts, hr, hlk, hK, hE, hJ⟩ := id X
  have hl : lv_has ls 11 [(0, .long p0), (2, .long p2)] := hl
  unfold mX2_commonDivisor at hM
  refine lv_lload_n hx hb dX2_commonDivisor_0 rfl (lv_at hl 0 rfl) ?_
  refine lv_lstore (lv' := [(4, .long p0), (0, .long p0), (2, .long p2)]) hx hb dX2_commonDivisor_1 hl (by decide) rfl (fun ls hl => ?_)
  refine lv_lload_n hx hb dX2_commonDivisor_3 rfl (lv_at hl 2 rfl) ?_
  refine lv_lstore (lv' := [(6, .long p2), (4, .long p0), (0, .long p0), (2, .long p2)]) hx hb dX2_commonDivisor_4 hl (by decide) rfl (fun ls hl => ?_)
  refine lv_iconst (v := 0) hx hb dX2_commonDivisor_6 (by decide) ?_
  refine lv_istore (lv' := [(8, .int 0), (6, .long p2), (4, .long p0), (0, .long p0), (2, .long p2)]) hx hb dX2_commonDivisor_7 hl (by decide) rfl (fun ls hl => ?_)
  exact wX2_commonDivisor_9 X  5000 S p0 p2 0 _ _ _ hM  hP hS (lv_sub hl [2, 1, 0] rfl)

def jX2_trySeats_73 (k5 : xS → Nat → Int32 → Int32 → Int32 → Int32 → Option (Int32 × xS)) (S : xS) (h0 : Nat) (v1 : Int32) (v2 : Int32) (v3 : Int32) (v4 : Int32) (v5 : Int32) (v6 : Int32) : Option (Int32 × xS) := if (v6 = 0 : Prop) then (if (v5 = v1 : Prop) then ((dO Yc (gR S h0 3) 10).bind fun d3 => if (v1 = 0 : Prop) then ((sI Yc S d3 v4 1).bind fun S6 => k5 S6 h0 v1 v2 (v3 + 1) (v4 + 1)) else ((sI Yc S d3 v4 0).bind fun S5 => k5 S5 h0 v1 v2 (v3 + 1) (v4 + 1))) else (k5 S h0 v1 v2 v3 (v4 + 1))) else (k5 S h0 v1 v2 v3 (v4 + 1))
set_option maxHeartbeats 4000000 in
set_option maxRecDepth 100000 in
theorem wX2_trySeats_73 {p : Program} {l : Launch} {e : Env} {s : State} {m : MethodId} {args : Array Value} {below : List Frame} {meth : Method} {c : Code} {G : xG} {r : Int32} {S' : xS} (X : xX p s m args meth c cX2_trySeats 7 (some .int) RX2 G Yc) (k5 : xS → Nat → Int32 → Int32 → Int32 → Int32 → Option (Int32 × xS)) (hh5 : ∀ (S : xS) (h0 : Nat) (v1 : Int32) (v2 : Int32) (v3 : Int32) (v4 : Int32) (H : Heap) (locs : List Loc) (ls : Array Slot), k5 S h0 v1 v2 v3 v4 = some (r, S') → xk Yc h0 = 2 → xP G Yc S H → va_S (xA G Yc) s.heap H locs → lv_has ls 7 [(0, .ref (xad G h0)), (1, .int v1), (2, .int v2), (3, .int v3), (4, .int v4)] → W p l e (xr 1 21) s m args below meth c H locs 0 0 (MQ below (xQi G Yc r S') args s 0 0 (xA G Yc)) (F0 m 5 ls [])) : ∀ (S : xS) (h0 : Nat) (v1 : Int32) (v2 : Int32) (v3 : Int32) (v4 : Int32) (v5 : Int32) (v6 : Int32) (H : Heap) (locs : List Loc) (ls : Array Slot), jX2_trySeats_73 k5 S h0 v1 v2 v3 v4 v5 v6 = some (r, S') → xk Yc h0 = 2 → xP G Yc S H → va_S (xA G Yc) s.heap H locs → lv_has ls 7 [(0, .ref (xad G h0)), (1, .int v1), (2, .int v2), (3, .int v3), (4, .int v4), (5, .int v5), (6, .int v6)] → W p l e (xr 1 21) s m args below meth c H locs 0 0 (MQ below (xQi G Yc r S') args s 0 0 (xA G Yc)) (F0 m 73 ls []) := by
  obtain ⟨hx, hb, hml, hown, hts, hr, hlk, hK, hE, hJ⟩ := id X
  intro S h0 v1 v2 v3 v4 v5 v6 H locs ls hM hk0 hP hS hl
  unfold jX2_trySeats_73 at hM
  refine lv_iload hx hb dX2_trySeats_73 (lv_at hl 6 rfl) ?_
  refine lv_if_ne (tgt := 103) hx hb dX2_trySeats_75 (by decide) (fun c1 => ?_) (fun c1 => ?_)
  · replace hM := (if_neg c1).symm.trans hM
    refine lv_iinc (v := v4 + 1) (lv' := [(4, .int (v4 + 1)), (0, .ref (xad G h0)), (1, .int v1), (2, .int v2), (3, .int v3), (5, .int v5), (6, .int v6)]) hx hb dX2_trySeats_103 hl (k := 4) rfl (by first | rfl | exact congrArg (fun z => v4 + z) (by decide)) (by decide) rfl (fun ls hl => ?_)
    refine lv_goto (tgt := 5) hx hb dX2_trySeats_106 (by decide) ?_
    exact hh5 S h0 v1 v2 v3 (v4 + 1) _ _ _ hM hk0 hP hS (lv_sub hl [1, 2, 3, 4, 0] rfl)
  · replace hM := (if_pos c1).symm.trans hM
    refine lv_iload hx hb dX2_trySeats_78 (lv_at hl 5 rfl) ?_
    refine lv_iload_n hx hb dX2_trySeats_80 rfl (lv_at hl 1 rfl) ?_
    refine lv_icmp_ne (tgt := 103) hx hb dX2_trySeats_81 (by decide) (fun c2 => ?_) (fun c2 => ?_)
    · replace hM := (if_neg c2).symm.trans hM
      refine lv_iinc (v := v4 + 1) (lv' := [(4, .int (v4 + 1)), (0, .ref (xad G h0)), (1, .int v1), (2, .int v2), (3, .int v3), (5, .int v5), (6, .int v6)]) hx hb dX2_trySeats_103 hl (k := 4) rfl (by first | rfl | exact congrArg (fun z => v4 + z) (by decide)) (by decide) rfl (fun ls hl => ?_)
      refine lv_goto (tgt := 5) hx hb dX2_trySeats_106 (by decide) ?_
      exact hh5 S h0 v1 v2 v3 (v4 + 1) _ _ _ hM hk0 hP hS (lv_sub hl [1, 2, 3, 4, 0] rfl)
    · replace hM := (if_pos c2).symm.trans hM
      refine lv_aload_n hx hb dX2_trySeats_84 rfl (lv_at hl 0 rfl) ?_
      obtain ⟨d3, ed3, hM⟩ := xb hM
      refine fdX2_3 X hP hk0 qw79 dX2_trySeats_85 ed3 ?_
      refine lv_iload hx hb dX2_trySeats_88 (lv_at hl 4 rfl) ?_
      refine lv_iload_n hx hb dX2_trySeats_90 rfl (lv_at hl 1 rfl) ?_
      refine lv_if_ne (tgt := 98) hx hb dX2_trySeats_91 (by decide) (fun c4 => ?_) (fun c4 => ?_)
      · replace hM := (if_neg c4).symm.trans hM
        refine lv_iconst (v := 0) hx hb dX2_trySeats_98 (by decide) ?_
        obtain ⟨S5, eS5, hM⟩ := xb hM
        refine x_iast X hP hS (dO_k ed3) eS5 dX2_trySeats_99 (fun H locs hP hS => ?_)
        refine lv_iinc (v := v3 + 1) (lv' := [(3, .int (v3 + 1)), (0, .ref (xad G h0)), (1, .int v1), (2, .int v2), (4, .int v4), (5, .int v5), (6, .int v6)]) hx hb dX2_trySeats_100 hl (k := 3) rfl (by first | rfl | exact congrArg (fun z => v3 + z) (by decide)) (by decide) rfl (fun ls hl => ?_)
        refine lv_iinc (v := v4 + 1) (lv' := [(4, .int (v4 + 1)), (3, .int (v3 + 1)), (0, .ref (xad G h0)), (1, .int v1), (2, .int v2), (5, .int v5), (6, .int v6)]) hx hb dX2_trySeats_103 hl (k := 4) rfl (by first | rfl | exact congrArg (fun z => v4 + z) (by decide)) (by decide) rfl (fun ls hl => ?_)
        refine lv_goto (tgt := 5) hx hb dX2_trySeats_106 (by decide) ?_
        exact hh5 S5 h0 v1 v2 (v3 + 1) (v4 + 1) _ _ _ hM hk0 hP hS (lv_sub hl [2, 3, 4, 1, 0] rfl)
      · replace hM := (if_pos c4).symm.trans hM
        refine lv_iconst (v := 1) hx hb dX2_trySeats_94 (by decide) ?_
        refine lv_goto (tgt := 99) hx hb dX2_trySeats_95 (by decide) ?_
        obtain ⟨S6, eS6, hM⟩ := xb hM
        refine x_iast X hP hS (dO_k ed3) eS6 dX2_trySeats_99 (fun H locs hP hS => ?_)
        refine lv_iinc (v := v3 + 1) (lv' := [(3, .int (v3 + 1)), (0, .ref (xad G h0)), (1, .int v1), (2, .int v2), (4, .int v4), (5, .int v5), (6, .int v6)]) hx hb dX2_trySeats_100 hl (k := 3) rfl (by first | rfl | exact congrArg (fun z => v3 + z) (by decide)) (by decide) rfl (fun ls hl => ?_)
        refine lv_iinc (v := v4 + 1) (lv' := [(4, .int (v4 + 1)), (3, .int (v3 + 1)), (0, .ref (xad G h0)), (1, .int v1), (2, .int v2), (5, .int v5), (6, .int v6)]) hx hb dX2_trySeats_103 hl (k := 4) rfl (by first | rfl | exact congrArg (fun z => v4 + z) (by decide)) (by decide) rfl (fun ls hl => ?_)
        refine lv_goto (tgt := 5) hx hb dX2_trySeats_106 (by decide) ?_
        exact hh5 S6 h0 v1 v2 (v3 + 1) (v4 + 1) _ _ _ hM hk0 hP hS (lv_sub hl [2, 3, 4, 1, 0] rfl)
def jX2_trySeats_37 (k5 : xS → Nat → Int32 → Int32 → Int32 → Int32 → Option (Int32 × xS)) (S : xS) (h0 : Nat) (v1 : Int32) (v2 : Int32) (v3 : Int32) (v4 : Int32) (v5 : Int32) (t0 : Int32) : Option (Int32 × xS) := (dO Yc (gR S h0 3) 10).bind fun d1 => (sI Yc S d1 v4 v5).bind fun S2 => if (t0 = 0 : Prop) then (jX2_trySeats_73 k5 S2 h0 v1 v2 v3 v4 v5 t0) else (if (v5 = v1 : Prop) then (jX2_trySeats_73 k5 S2 h0 v1 v2 v3 v4 v5 t0) else ((dO Yc (gR S2 h0 3) 10).bind fun d5 => (sI Yc S2 d5 v4 v1).bind fun S6 => k5 S6 h0 v1 v2 (v3 + 1) (v4 + 1)))
set_option maxHeartbeats 4000000 in
set_option maxRecDepth 100000 in
theorem wX2_trySeats_37 {p : Program} {l : Launch} {e : Env} {s : State} {m : MethodId} {args : Array Value} {below : List Frame} {meth : Method} {c : Code} {G : xG} {r : Int32} {S' : xS} (X : xX p s m args meth c cX2_trySeats 7 (some .int) RX2 G Yc) (k5 : xS → Nat → Int32 → Int32 → Int32 → Int32 → Option (Int32 × xS)) (hh5 : ∀ (S : xS) (h0 : Nat) (v1 : Int32) (v2 : Int32) (v3 : Int32) (v4 : Int32) (H : Heap) (locs : List Loc) (ls : Array Slot), k5 S h0 v1 v2 v3 v4 = some (r, S') → xk Yc h0 = 2 → xP G Yc S H → va_S (xA G Yc) s.heap H locs → lv_has ls 7 [(0, .ref (xad G h0)), (1, .int v1), (2, .int v2), (3, .int v3), (4, .int v4)] → W p l e (xr 1 21) s m args below meth c H locs 0 0 (MQ below (xQi G Yc r S') args s 0 0 (xA G Yc)) (F0 m 5 ls [])) : ∀ (S : xS) (h0 : Nat) (v1 : Int32) (v2 : Int32) (v3 : Int32) (v4 : Int32) (v5 : Int32) (t0 : Int32) (H : Heap) (locs : List Loc) (ls : Array Slot), jX2_trySeats_37 k5 S h0 v1 v2 v3 v4 v5 t0 = some (r, S') → xk Yc h0 = 2 → xP G Yc S H → va_S (xA G Yc) s.heap H locs → lv_has ls 7 [(0, .ref (xad G h0)), (1, .int v1), (2, .int v2), (3, .int v3), (4, .int v4), (5, .int v5)] → W p l e (xr 1 21) s m args below meth c H locs 0 0 (MQ below (xQi G Yc r S') args s 0 0 (xA G Yc)) (F0 m 37 ls [.int t0]) := by
  obtain ⟨hx, hb, hml, hown, hts, hr, hlk, hK, hE, hJ⟩ := id X
  intro S h0 v1 v2 v3 v4 v5 t0 H locs ls hM hk0 hP hS hl
  unfold jX2_trySeats_37 at hM
  refine lv_istore (lv' := [(6, .int t0), (0, .ref (xad G h0)), (1, .int v1), (2, .int v2), (3, .int v3), (4, .int v4), (5, .int v5)]) hx hb dX2_trySeats_37 hl (by decide) rfl (fun ls hl => ?_)
  refine lv_aload_n hx hb dX2_trySeats_39 rfl (lv_at hl 1 rfl) ?_
  obtain ⟨d1, ed1, hM⟩ := xb hM
  refine fdX2_3 X hP hk0 qw79 dX2_trySeats_40 ed1 ?_
  refine lv_iload hx hb dX2_trySeats_43 (lv_at hl 5 rfl) ?_
  refine lv_iload hx hb dX2_trySeats_45 (lv_at hl 6 rfl) ?_
  obtain ⟨S2, eS2, hM⟩ := xb hM
  refine x_iast X hP hS (dO_k ed1) eS2 dX2_trySeats_47 (fun H locs hP hS => ?_)
  refine lv_iload hx hb dX2_trySeats_48 (lv_at hl 0 rfl) ?_
  refine lv_if_eq (tgt := 73) hx hb dX2_trySeats_50 (by decide) (fun c3 => ?_) (fun c3 => ?_)
  · replace hM := (if_pos c3).symm.trans hM
    exact wX2_trySeats_73 X k5 hh5 S2 h0 v1 v2 v3 v4 v5 t0 _ _ _ hM hk0 hP hS (lv_sub hl [1, 2, 3, 4, 5, 6, 0] rfl)
  · replace hM := (if_neg c3).symm.trans hM
    refine lv_iload hx hb dX2_trySeats_53 (lv_at hl 6 rfl) ?_
    refine lv_iload_n hx hb dX2_trySeats_55 rfl (lv_at hl 2 rfl) ?_
    refine lv_icmp_eq (tgt := 73) hx hb dX2_trySeats_56 (by decide) (fun c4 => ?_) (fun c4 => ?_)
    · replace hM := (if_pos c4).symm.trans hM
      exact wX2_trySeats_73 X k5 hh5 S2 h0 v1 v2 v3 v4 v5 t0 _ _ _ hM hk0 hP hS (lv_sub hl [1, 2, 3, 4, 5, 6, 0] rfl)
    · replace hM := (if_neg c4).symm.trans hM
      refine lv_aload_n hx hb dX2_trySeats_59 rfl (lv_at hl 1 rfl) ?_
      obtain ⟨d5, ed5, hM⟩ := xb hM
      refine fdX2_3 X hP hk0 qw79 dX2_trySeats_60 ed5 ?_
      refine lv_iload hx hb dX2_trySeats_63 (lv_at hl 5 rfl) ?_
      refine lv_iload_n hx hb dX2_trySeats_65 rfl (lv_at hl 2 rfl) ?_
      obtain ⟨S6, eS6, hM⟩ := xb hM
      refine x_iast X hP hS (dO_k ed5) eS6 dX2_trySeats_66 (fun H locs hP hS => ?_)
      refine lv_iinc (v := v3 + 1) (lv' := [(3, .int (v3 + 1)), (6, .int t0), (0, .ref (xad G h0)), (1, .int v1), (2, .int v2), (4, .int v4), (5, .int v5)]) hx hb dX2_trySeats_67 hl (k := 4) rfl (by first | rfl | exact congrArg (fun z => v3 + z) (by decide)) (by decide) rfl (fun ls hl => ?_)
      refine lv_goto (tgt := 103) hx hb dX2_trySeats_70 (by decide) ?_
      refine lv_iinc (v := v4 + 1) (lv' := [(4, .int (v4 + 1)), (3, .int (v3 + 1)), (6, .int t0), (0, .ref (xad G h0)), (1, .int v1), (2, .int v2), (5, .int v5)]) hx hb dX2_trySeats_103 hl (k := 5) rfl (by first | rfl | exact congrArg (fun z => v4 + z) (by decide)) (by decide) rfl (fun ls hl => ?_)
      refine lv_goto (tgt := 5) hx hb dX2_trySeats_106 (by decide) ?_
      exact hh5 S6 h0 v1 v2 (v3 + 1) (v4 + 1) _ _ _ hM hk0 hP hS (lv_sub hl [3, 4, 5, 1, 0] rfl)
def lX2_trySeats_5 : Nat → xS → Nat → Int32 → Int32 → Int32 → Int32 → Option (Int32 × xS)
  | 0, _, _, _, _, _, _ => none
  | n + 1, S, h0, v1, v2, v3, v4 => if (6 ≤ v4 : Prop) then (some (v3, S)) else ((dO Yc (gR S h0 0) 1).bind fun d2 => (mX1_seatOf S d2 v4).bind fun q3 => if (((v2 >>> (v4 &&& 31)) &&& 1) = 0 : Prop) then (jX2_trySeats_37 (lX2_trySeats_5  n) q3.2 h0 v1 v2 v3 v4 q3.1 0) else (jX2_trySeats_37 (lX2_trySeats_5  n) q3.2 h0 v1 v2 v3 v4 q3.1 1))
set_option maxHeartbeats 4000000 in
set_option maxRecDepth 100000 in
theorem wX2_trySeats_5 {p : Program} {l : Launch} {e : Env} {s : State} {m : MethodId} {args : Array Value} {below : List Frame} {meth : Method} {c : Code} {G : xG} {r : Int32} {S' : xS} (X : xX p s m args meth c cX2_trySeats 7 (some .int) RX2 G Yc) : ∀ (n : Nat), ∀ (S : xS) (h0 : Nat) (v1 : Int32) (v2 : Int32) (v3 : Int32) (v4 : Int32) (H : Heap) (locs : List Loc) (ls : Array Slot), lX2_trySeats_5  n S h0 v1 v2 v3 v4 = some (r, S') → xk Yc h0 = 2 → xP G Yc S H → va_S (xA G Yc) s.heap H locs → lv_has ls 7 [(0, .ref (xad G h0)), (1, .int v1), (2, .int v2), (3, .int v3), (4, .int v4)] → W p l e (xr 1 21) s m args below meth c H locs 0 0 (MQ below (xQi G Yc r S') args s 0 0 (xA G Yc)) (F0 m 5 ls []) := by
  obtain ⟨hx, hb, hml, hown, hts, hr, hlk, hK, hE, hJ⟩ := id X
  intro n
  induction n with
  | zero =>
    intro S h0 v1 v2 v3 v4 H locs ls hM
    rw [lX2_trySeats_5.eq_1] at hM
    cases hM
  | succ n ih =>
    intro S h0 v1 v2 v3 v4 H locs ls hM hk0 hP hS hl
    rw [lX2_trySeats_5.eq_2] at hM
    refine lv_iload hx hb dX2_trySeats_5 (lv_at hl 4 rfl) ?_
    refine lv_bipush (v := 6) hx hb dX2_trySeats_7 (by decide) ?_
    refine lv_icmp_ge (tgt := 109) hx hb dX2_trySeats_9 (by decide) (fun c1 => ?_) (fun c1 => ?_)
    · replace hM := (if_pos c1).symm.trans hM
      refine lv_iload_n hx hb dX2_trySeats_109 rfl (lv_at hl 3 rfl) ?_
      exact x_iret X hP hS hM dX2_trySeats_110
    · replace hM := (if_neg c1).symm.trans hM
      refine lv_aload_n hx hb dX2_trySeats_12 rfl (lv_at hl 0 rfl) ?_
      obtain ⟨d2, ed2, hM⟩ := xb hM
      refine fdX2_0 X hP hk0 qw62 dX2_trySeats_13 ed2 ?_
      refine lv_iload hx hb dX2_trySeats_16 (lv_at hl 4 rfl) ?_
      obtain ⟨q3, eq3, hM⟩ := xb hM
      refine x_goi (x_runV (rest := []) X (kX1_seatOf l G S d2 v4 q3.1 q3.2 (dO_k ed2) eq3) qw78 okX1_seatOf ⟨Nat.le_of_ble_eq_true rfl, Nat.le_of_ble_eq_true rfl⟩ (dO_k ed2) (by decide) rfl hP hS rfl hl.1 rfl (Nat.le_of_ble_eq_true rfl) dX2_trySeats_18) hS (fun H locs hP hS => ?_)
      refine lv_istore (lv' := [(5, .int q3.1), (0, .ref (xad G h0)), (1, .int v1), (2, .int v2), (3, .int v3), (4, .int v4)]) hx hb dX2_trySeats_21 hl (by decide) rfl (fun ls hl => ?_)
      refine lv_iload_n hx hb dX2_trySeats_23 rfl (lv_at hl 3 rfl) ?_
      refine lv_iload hx hb dX2_trySeats_24 (lv_at hl 5 rfl) ?_
      refine lv_ishr hx hb dX2_trySeats_26 ?_
      refine lv_iconst (v := 1) hx hb dX2_trySeats_27 (by decide) ?_
      refine lv_iand hx hb dX2_trySeats_28 ?_
      refine lv_if_eq (tgt := 36) hx hb dX2_trySeats_29 (by decide) (fun c4 => ?_) (fun c4 => ?_)
      · replace hM := (if_pos c4).symm.trans hM
        refine lv_iconst (v := 0) hx hb dX2_trySeats_36 (by decide) ?_
        exact wX2_trySeats_37 X (lX2_trySeats_5  n) ih q3.2 h0 v1 v2 v3 v4 q3.1 0 _ _ _ hM hk0 hP hS (lv_sub hl [1, 2, 3, 4, 5, 0] rfl)
      · replace hM := (if_neg c4).symm.trans hM
        refine lv_iconst (v := 1) hx hb dX2_trySeats_32 (by decide) ?_
        refine lv_goto (tgt := 37) hx hb dX2_trySeats_33 (by decide) ?_
        exact wX2_trySeats_37 X (lX2_trySeats_5  n) ih q3.2 h0 v1 v2 v3 v4 q3.1 1 _ _ _ hM hk0 hP hS (lv_sub hl [1, 2, 3, 4, 5, 0] rfl)
def mX2_trySeats (S : xS) (h0 : Nat) (p1 : Int32) (p2 : Int32) : Option (Int32 × xS) := lX2_trySeats_5  5000 S h0 p1 p2 0 0
set_option maxHeartbeats 4000000 in
set_option maxRecDepth 100000 in
theorem kX2_trySeats (l : Launch) (G : xG) (S : xS) (h0 : Nat) (p1 : Int32) (p2 : Int32) (r : Int32) (S' : xS) (hk0 : xk Yc h0 = 2) (hM : mX2_trySeats S h0 p1 p2 = some (r, S')) : xM l yX2_trySeats cX2_trySeats 7 (some .int) 1 21 G Yc [.ref (xad G h0), .int p1, .int p2] S (xQi G Yc r S') := by
  refine x_start (own := RX2) (by decide +kernel) rfl (Nat.le_of_ble_eq_true rfl) ?_
  intro p e s m below meth c ls X hl hP hS
  obtain ⟨hx, hb, hml, hown, hts, hr, hlk, hK, hE, hJ⟩ := id X
  have hl : lv_has ls 7 [(0, .ref (xad G h0)), (1, .int p1), (2, .int p2)] := hl
  unfold mX2_trySeats at hM
  refine lv_iconst (v := 0) hx hb dX2_trySeats_0 (by decide) ?_
  refine lv_istore_n (lv' := [(3, .int 0), (0, .ref (xad G h0)), (1, .int p1), (2, .int p2)]) hx hb dX2_trySeats_1 rfl hl (by decide) rfl (fun ls hl => ?_)
  refine lv_iconst (v := 0) hx hb dX2_trySeats_2 (by decide) ?_
  refine lv_istore (lv' := [(4, .int 0), (3, .int 0), (0, .ref (xad G h0)), (1, .int p1), (2, .int p2)]) hx hb dX2_trySeats_3 hl (by decide) rfl (fun ls hl => ?_)
  exact wX2_trySeats_5 X  5000 S h0 p1 p2 0 0 _ _ _ hM hk0 hP hS (lv_sub hl [2, 3, 4, 1, 0] rfl)

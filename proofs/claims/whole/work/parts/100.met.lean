def mX1_dayAt (S : xS) (p0 : Int32) : Option (Int32 × xS) := if (p0 = 0 : Prop) then (some (0, S)) else (some (3, S))
set_option maxHeartbeats 4000000 in
set_option maxRecDepth 100000 in
theorem kX1_dayAt (l : Launch) (G : xG) (S : xS) (p0 : Int32) (r : Int32) (S' : xS) (hM : mX1_dayAt S p0 = some (r, S')) : xM l yX1_dayAt cX1_dayAt 1 (some .int) 0 0 G Yc [.int p0] S (xQi G Yc r S') := by
  refine x_start (own := RX1) (by decide +kernel) rfl (Nat.le_of_ble_eq_true rfl) ?_
  intro p e s m below meth c ls X hl hP hS
  obtain ⟨hx, hb, hml, hown, hts, hr, hlk, hK, hE, hJ⟩ := id X
  have hl : lv_has ls 1 [(0, .int p0)] := hl
  unfold mX1_dayAt at hM
  refine lv_iload_n hx hb dX1_dayAt_0 rfl (lv_at hl 0 rfl) ?_
  refine lv_if_ne (tgt := 8) hx hb dX1_dayAt_1 (by decide) (fun c1 => ?_) (fun c1 => ?_)
  · replace hM := (if_neg c1).symm.trans hM
    refine lv_iconst (v := 3) hx hb dX1_dayAt_8 (by decide) ?_
    exact x_iret X hP hS hM dX1_dayAt_9
  · replace hM := (if_pos c1).symm.trans hM
    refine lv_iconst (v := 0) hx hb dX1_dayAt_4 (by decide) ?_
    refine lv_goto (tgt := 9) hx hb dX1_dayAt_5 (by decide) ?_
    exact x_iret X hP hS hM dX1_dayAt_9

def mX1_get (S : xS) (h0 : Nat) (p1 : Int32) : Option (Int32 × xS) := if (p1 < 0 : Prop) then (some (0, S)) else (if (14 ≤ p1 : Prop) then (some (0, S)) else ((dO Yc (gR S h0 0) 10).bind fun d3 => (aI Yc S d3 p1).bind fun x4 => some (x4, S)))
set_option maxHeartbeats 4000000 in
set_option maxRecDepth 100000 in
theorem kX1_get (l : Launch) (G : xG) (S : xS) (h0 : Nat) (p1 : Int32) (r : Int32) (S' : xS) (hk0 : xk Yc h0 = 1) (hM : mX1_get S h0 p1 = some (r, S')) : xM l yX1_get cX1_get 2 (some .int) 0 0 G Yc [.ref (xad G h0), .int p1] S (xQi G Yc r S') := by
  refine x_start (own := RX1) (by decide +kernel) rfl (Nat.le_of_ble_eq_true rfl) ?_
  intro p e s m below meth c ls X hl hP hS
  obtain ⟨hx, hb, hml, hown, hts, hr, hlk, hK, hE, hJ⟩ := id X
  have hl : lv_has ls 2 [(0, .ref (xad G h0)), (1, .int p1)] := hl
  unfold mX1_get at hM
  refine lv_iload_n hx hb dX1_get_0 rfl (lv_at hl 1 rfl) ?_
  refine lv_if_lt (tgt := 19) hx hb dX1_get_1 (by decide) (fun c1 => ?_) (fun c1 => ?_)
  · replace hM := (if_pos c1).symm.trans hM
    refine lv_iconst (v := 0) hx hb dX1_get_19 (by decide) ?_
    exact x_iret X hP hS hM dX1_get_20
  · replace hM := (if_neg c1).symm.trans hM
    refine lv_iload_n hx hb dX1_get_4 rfl (lv_at hl 1 rfl) ?_
    refine lv_bipush (v := 14) hx hb dX1_get_5 (by decide) ?_
    refine lv_icmp_ge (tgt := 19) hx hb dX1_get_7 (by decide) (fun c2 => ?_) (fun c2 => ?_)
    · replace hM := (if_pos c2).symm.trans hM
      refine lv_iconst (v := 0) hx hb dX1_get_19 (by decide) ?_
      exact x_iret X hP hS hM dX1_get_20
    · replace hM := (if_neg c2).symm.trans hM
      refine lv_aload_n hx hb dX1_get_10 rfl (lv_at hl 0 rfl) ?_
      obtain ⟨d3, ed3, hM⟩ := xb hM
      refine fdX1_0 X hP hk0 qw0 dX1_get_11 ed3 ?_
      refine lv_iload_n hx hb dX1_get_14 rfl (lv_at hl 1 rfl) ?_
      obtain ⟨x4, ex4, hM⟩ := xb hM
      refine x_iald X hP (dO_k ed3) ex4 dX1_get_15 ?_
      refine lv_goto (tgt := 20) hx hb dX1_get_16 (by decide) ?_
      exact x_iret X hP hS hM dX1_get_20

def mX1_leftAt (S : xS) (p0 : Int32) : Option (Int32 × xS) := if (p0 = 0 : Prop) then (some (1, S)) else (some (4, S))
set_option maxHeartbeats 4000000 in
set_option maxRecDepth 100000 in
theorem kX1_leftAt (l : Launch) (G : xG) (S : xS) (p0 : Int32) (r : Int32) (S' : xS) (hM : mX1_leftAt S p0 = some (r, S')) : xM l yX1_leftAt cX1_leftAt 1 (some .int) 0 0 G Yc [.int p0] S (xQi G Yc r S') := by
  refine x_start (own := RX1) (by decide +kernel) rfl (Nat.le_of_ble_eq_true rfl) ?_
  intro p e s m below meth c ls X hl hP hS
  obtain ⟨hx, hb, hml, hown, hts, hr, hlk, hK, hE, hJ⟩ := id X
  have hl : lv_has ls 1 [(0, .int p0)] := hl
  unfold mX1_leftAt at hM
  refine lv_iload_n hx hb dX1_leftAt_0 rfl (lv_at hl 0 rfl) ?_
  refine lv_if_ne (tgt := 8) hx hb dX1_leftAt_1 (by decide) (fun c1 => ?_) (fun c1 => ?_)
  · replace hM := (if_neg c1).symm.trans hM
    refine lv_iconst (v := 4) hx hb dX1_leftAt_8 (by decide) ?_
    exact x_iret X hP hS hM dX1_leftAt_9
  · replace hM := (if_pos c1).symm.trans hM
    refine lv_iconst (v := 1) hx hb dX1_leftAt_4 (by decide) ?_
    refine lv_goto (tgt := 9) hx hb dX1_leftAt_5 (by decide) ?_
    exact x_iret X hP hS hM dX1_leftAt_9

def mX1_hiddenAt (S : xS) (p0 : Int32) : Option (Int32 × xS) := if (p0 = 0 : Prop) then (some (2, S)) else (some (5, S))
set_option maxHeartbeats 4000000 in
set_option maxRecDepth 100000 in
theorem kX1_hiddenAt (l : Launch) (G : xG) (S : xS) (p0 : Int32) (r : Int32) (S' : xS) (hM : mX1_hiddenAt S p0 = some (r, S')) : xM l yX1_hiddenAt cX1_hiddenAt 1 (some .int) 0 0 G Yc [.int p0] S (xQi G Yc r S') := by
  refine x_start (own := RX1) (by decide +kernel) rfl (Nat.le_of_ble_eq_true rfl) ?_
  intro p e s m below meth c ls X hl hP hS
  obtain ⟨hx, hb, hml, hown, hts, hr, hlk, hK, hE, hJ⟩ := id X
  have hl : lv_has ls 1 [(0, .int p0)] := hl
  unfold mX1_hiddenAt at hM
  refine lv_iload_n hx hb dX1_hiddenAt_0 rfl (lv_at hl 0 rfl) ?_
  refine lv_if_ne (tgt := 8) hx hb dX1_hiddenAt_1 (by decide) (fun c1 => ?_) (fun c1 => ?_)
  · replace hM := (if_neg c1).symm.trans hM
    refine lv_iconst (v := 5) hx hb dX1_hiddenAt_8 (by decide) ?_
    exact x_iret X hP hS hM dX1_hiddenAt_9
  · replace hM := (if_pos c1).symm.trans hM
    refine lv_iconst (v := 2) hx hb dX1_hiddenAt_4 (by decide) ?_
    refine lv_goto (tgt := 9) hx hb dX1_hiddenAt_5 (by decide) ?_
    exact x_iret X hP hS hM dX1_hiddenAt_9

def mX0_loadFrom (S : xS) (h0 : Nat) (h1 : Nat) (p2 : Int32) : Option xS := xlet (pI S h0 0 p2) fun S1 => (mX1_dayAt S1 p2).bind fun q2 => (mX1_get q2.2 h1 q2.1).bind fun q3 => xlet (pI q3.2 h0 1 q3.1) fun S4 => (mX1_leftAt S4 p2).bind fun q5 => (mX1_get q5.2 h1 q5.1).bind fun q6 => xlet (pI q6.2 h0 2 q6.1) fun S7 => (mX1_hiddenAt S7 p2).bind fun q8 => (mX1_get q8.2 h1 q8.1).bind fun q9 => xlet (pI q9.2 h0 3 q9.1) fun S10 => (mX1_get S10 h1 12).bind fun q11 => xlet (pI q11.2 h0 4 q11.1) fun S12 => some S12
set_option maxHeartbeats 4000000 in
set_option maxRecDepth 100000 in
theorem kX0_loadFrom (l : Launch) (G : xG) (S : xS) (h0 : Nat) (h1 : Nat) (p2 : Int32) (S' : xS) (hk0 : xk Yc h0 = 0) (hk1 : xk Yc h1 = 1) (hM : mX0_loadFrom S h0 h1 p2 = some S') : xM l yX0_loadFrom cX0_loadFrom 3 none 1 21 G Yc [.ref (xad G h0), .ref (xad G h1), .int p2] S (xQv G Yc S') := by
  refine x_start (own := RX0) (by decide +kernel) rfl (Nat.le_of_ble_eq_true rfl) ?_
  intro p e s m below meth c ls X hl hP hS
  obtain ⟨hx, hb, hml, hown, hts, hr, hlk, hK, hE, hJ⟩ := id X
  have hl : lv_has ls 3 [(0, .ref (xad G h0)), (1, .ref (xad G h1)), (2, .int p2)] := hl
  unfold mX0_loadFrom at hM
  refine lv_aload_n hx hb dX0_loadFrom_0 rfl (lv_at hl 0 rfl) ?_
  refine lv_iload_n hx hb dX0_loadFrom_1 rfl (lv_at hl 2 rfl) ?_
  obtain ⟨S1, eS1, hM⟩ := xlet_ex hM
  refine fpX0_0 X hP hS hk0 qw1 dX0_loadFrom_2 eS1 (fun H locs hP hS => ?_)
  refine lv_aload_n hx hb dX0_loadFrom_5 rfl (lv_at hl 0 rfl) ?_
  refine lv_aload_n hx hb dX0_loadFrom_6 rfl (lv_at hl 1 rfl) ?_
  refine lv_iload_n hx hb dX0_loadFrom_7 rfl (lv_at hl 2 rfl) ?_
  obtain ⟨q2, eq2, hM⟩ := xb hM
  refine x_goi (x_runS (rest := [.ref (xad G h1), .ref (xad G h0)]) X (kX1_dayAt l G S1 p2 q2.1 q2.2  eq2) qw2 okX1_dayAt ⟨Nat.le_of_ble_eq_true rfl, Nat.le_of_ble_eq_true rfl⟩ hP hS rfl hl.1 rfl (Nat.le_of_ble_eq_true rfl) dX0_loadFrom_8) hS (fun H locs hP hS => ?_)
  obtain ⟨q3, eq3, hM⟩ := xb hM
  refine x_goi (x_runV (rest := [.ref (xad G h0)]) X (kX1_get l G q2.2 h1 q2.1 q3.1 q3.2 hk1 eq3) qw3 okX1_get ⟨Nat.le_of_ble_eq_true rfl, Nat.le_of_ble_eq_true rfl⟩ hk1 (by decide) rfl hP hS rfl hl.1 rfl (Nat.le_of_ble_eq_true rfl) dX0_loadFrom_11) hS (fun H locs hP hS => ?_)
  obtain ⟨S4, eS4, hM⟩ := xlet_ex hM
  refine fpX0_1 X hP hS hk0 qw4 dX0_loadFrom_14 eS4 (fun H locs hP hS => ?_)
  refine lv_aload_n hx hb dX0_loadFrom_17 rfl (lv_at hl 0 rfl) ?_
  refine lv_aload_n hx hb dX0_loadFrom_18 rfl (lv_at hl 1 rfl) ?_
  refine lv_iload_n hx hb dX0_loadFrom_19 rfl (lv_at hl 2 rfl) ?_
  obtain ⟨q5, eq5, hM⟩ := xb hM
  refine x_goi (x_runS (rest := [.ref (xad G h1), .ref (xad G h0)]) X (kX1_leftAt l G S4 p2 q5.1 q5.2  eq5) qw5 okX1_leftAt ⟨Nat.le_of_ble_eq_true rfl, Nat.le_of_ble_eq_true rfl⟩ hP hS rfl hl.1 rfl (Nat.le_of_ble_eq_true rfl) dX0_loadFrom_20) hS (fun H locs hP hS => ?_)
  obtain ⟨q6, eq6, hM⟩ := xb hM
  refine x_goi (x_runV (rest := [.ref (xad G h0)]) X (kX1_get l G q5.2 h1 q5.1 q6.1 q6.2 hk1 eq6) qw3 okX1_get ⟨Nat.le_of_ble_eq_true rfl, Nat.le_of_ble_eq_true rfl⟩ hk1 (by decide) rfl hP hS rfl hl.1 rfl (Nat.le_of_ble_eq_true rfl) dX0_loadFrom_23) hS (fun H locs hP hS => ?_)
  obtain ⟨S7, eS7, hM⟩ := xlet_ex hM
  refine fpX0_2 X hP hS hk0 qw6 dX0_loadFrom_26 eS7 (fun H locs hP hS => ?_)
  refine lv_aload_n hx hb dX0_loadFrom_29 rfl (lv_at hl 0 rfl) ?_
  refine lv_aload_n hx hb dX0_loadFrom_30 rfl (lv_at hl 1 rfl) ?_
  refine lv_iload_n hx hb dX0_loadFrom_31 rfl (lv_at hl 2 rfl) ?_
  obtain ⟨q8, eq8, hM⟩ := xb hM
  refine x_goi (x_runS (rest := [.ref (xad G h1), .ref (xad G h0)]) X (kX1_hiddenAt l G S7 p2 q8.1 q8.2  eq8) qw7 okX1_hiddenAt ⟨Nat.le_of_ble_eq_true rfl, Nat.le_of_ble_eq_true rfl⟩ hP hS rfl hl.1 rfl (Nat.le_of_ble_eq_true rfl) dX0_loadFrom_32) hS (fun H locs hP hS => ?_)
  obtain ⟨q9, eq9, hM⟩ := xb hM
  refine x_goi (x_runV (rest := [.ref (xad G h0)]) X (kX1_get l G q8.2 h1 q8.1 q9.1 q9.2 hk1 eq9) qw3 okX1_get ⟨Nat.le_of_ble_eq_true rfl, Nat.le_of_ble_eq_true rfl⟩ hk1 (by decide) rfl hP hS rfl hl.1 rfl (Nat.le_of_ble_eq_true rfl) dX0_loadFrom_35) hS (fun H locs hP hS => ?_)
  obtain ⟨S10, eS10, hM⟩ := xlet_ex hM
  refine fpX0_3 X hP hS hk0 qw8 dX0_loadFrom_38 eS10 (fun H locs hP hS => ?_)
  refine lv_aload_n hx hb dX0_loadFrom_41 rfl (lv_at hl 0 rfl) ?_
  refine lv_aload_n hx hb dX0_loadFrom_42 rfl (lv_at hl 1 rfl) ?_
  refine lv_bipush (v := 12) hx hb dX0_loadFrom_43 (by decide) ?_
  obtain ⟨q11, eq11, hM⟩ := xb hM
  refine x_goi (x_runV (rest := [.ref (xad G h0)]) X (kX1_get l G S10 h1 12 q11.1 q11.2 hk1 eq11) qw3 okX1_get ⟨Nat.le_of_ble_eq_true rfl, Nat.le_of_ble_eq_true rfl⟩ hk1 (by decide) rfl hP hS rfl hl.1 rfl (Nat.le_of_ble_eq_true rfl) dX0_loadFrom_45) hS (fun H locs hP hS => ?_)
  obtain ⟨S12, eS12, hM⟩ := xlet_ex hM
  refine fpX0_4 X hP hS hk0 qw9 dX0_loadFrom_48 eS12 (fun H locs hP hS => ?_)
  exact x_vret X hP hS hM dX0_loadFrom_51

def mX0_loseSlice (S : xS) (h0 : Nat) : Option (Int32 × xS) := if (0 < (gI S h0 2) : Prop) then (xlet (pI S h0 2 ((gI S h0 2) - 1)) fun S2 => some (1, S2)) else (some (0, S))
set_option maxHeartbeats 4000000 in
set_option maxRecDepth 100000 in
theorem kX0_loseSlice (l : Launch) (G : xG) (S : xS) (h0 : Nat) (r : Int32) (S' : xS) (hk0 : xk Yc h0 = 0) (hM : mX0_loseSlice S h0 = some (r, S')) : xM l yX0_loseSlice cX0_loseSlice 1 (some .boolean) 0 0 G Yc [.ref (xad G h0)] S (xQi G Yc r S') := by
  refine x_start (own := RX0) (by decide +kernel) rfl (Nat.le_of_ble_eq_true rfl) ?_
  intro p e s m below meth c ls X hl hP hS
  obtain ⟨hx, hb, hml, hown, hts, hr, hlk, hK, hE, hJ⟩ := id X
  have hl : lv_has ls 1 [(0, .ref (xad G h0))] := hl
  unfold mX0_loseSlice at hM
  refine lv_aload_n hx hb dX0_loseSlice_0 rfl (lv_at hl 0 rfl) ?_
  refine fgX0_2 X hP hk0 qw6 dX0_loseSlice_1 ?_
  refine lv_if_gt (tgt := 9) hx hb dX0_loseSlice_4 (by decide) (fun c1 => ?_) (fun c1 => ?_)
  · replace hM := (if_pos c1).symm.trans hM
    refine lv_aload_n hx hb dX0_loseSlice_9 rfl (lv_at hl 0 rfl) ?_
    refine lv_dup hx hb dX0_loseSlice_10 rfl ?_
    refine fgX0_2 X hP hk0 qw6 dX0_loseSlice_11 ?_
    refine lv_iconst (v := 1) hx hb dX0_loseSlice_14 (by decide) ?_
    refine lv_isub hx hb dX0_loseSlice_15 ?_
    obtain ⟨S2, eS2, hM⟩ := xlet_ex hM
    refine fpX0_2 X hP hS hk0 qw6 dX0_loseSlice_16 eS2 (fun H locs hP hS => ?_)
    refine lv_iconst (v := 1) hx hb dX0_loseSlice_19 (by decide) ?_
    exact x_zret X hP hS (Or.inr rfl) hM dX0_loseSlice_20
  · replace hM := (if_neg c1).symm.trans hM
    refine lv_iconst (v := 0) hx hb dX0_loseSlice_7 (by decide) ?_
    exact x_zret X hP hS (Or.inl rfl) hM dX0_loseSlice_8

def mX1_put (S : xS) (h0 : Nat) (p1 : Int32) (p2 : Int32) : Option xS := if (p1 < 0 : Prop) then (some S) else (if (14 ≤ p1 : Prop) then (some S) else ((dO Yc (gR S h0 0) 10).bind fun d3 => (sI Yc S d3 p1 p2).bind fun S4 => some S4))
set_option maxHeartbeats 4000000 in
set_option maxRecDepth 100000 in
theorem kX1_put (l : Launch) (G : xG) (S : xS) (h0 : Nat) (p1 : Int32) (p2 : Int32) (S' : xS) (hk0 : xk Yc h0 = 1) (hM : mX1_put S h0 p1 p2 = some S') : xM l yX1_put cX1_put 3 none 0 0 G Yc [.ref (xad G h0), .int p1, .int p2] S (xQv G Yc S') := by
  refine x_start (own := RX1) (by decide +kernel) rfl (Nat.le_of_ble_eq_true rfl) ?_
  intro p e s m below meth c ls X hl hP hS
  obtain ⟨hx, hb, hml, hown, hts, hr, hlk, hK, hE, hJ⟩ := id X
  have hl : lv_has ls 3 [(0, .ref (xad G h0)), (1, .int p1), (2, .int p2)] := hl
  unfold mX1_put at hM
  refine lv_iload_n hx hb dX1_put_0 rfl (lv_at hl 1 rfl) ?_
  refine lv_if_lt (tgt := 17) hx hb dX1_put_1 (by decide) (fun c1 => ?_) (fun c1 => ?_)
  · replace hM := (if_pos c1).symm.trans hM
    exact x_vret X hP hS hM dX1_put_17
  · replace hM := (if_neg c1).symm.trans hM
    refine lv_iload_n hx hb dX1_put_4 rfl (lv_at hl 1 rfl) ?_
    refine lv_bipush (v := 14) hx hb dX1_put_5 (by decide) ?_
    refine lv_icmp_ge (tgt := 17) hx hb dX1_put_7 (by decide) (fun c2 => ?_) (fun c2 => ?_)
    · replace hM := (if_pos c2).symm.trans hM
      exact x_vret X hP hS hM dX1_put_17
    · replace hM := (if_neg c2).symm.trans hM
      refine lv_aload_n hx hb dX1_put_10 rfl (lv_at hl 0 rfl) ?_
      obtain ⟨d3, ed3, hM⟩ := xb hM
      refine fdX1_0 X hP hk0 qw0 dX1_put_11 ed3 ?_
      refine lv_iload_n hx hb dX1_put_14 rfl (lv_at hl 1 rfl) ?_
      refine lv_iload_n hx hb dX1_put_15 rfl (lv_at hl 2 rfl) ?_
      obtain ⟨S4, eS4, hM⟩ := xb hM
      refine x_iast X hP hS (dO_k ed3) eS4 dX1_put_16 (fun H locs hP hS => ?_)
      exact x_vret X hP hS hM dX1_put_17

def mX1_seatOf (S : xS) (h0 : Nat) (p1 : Int32) : Option (Int32 × xS) := if (p1 < 0 : Prop) then (some (2, S)) else (if (6 ≤ p1 : Prop) then (some (2, S)) else ((dO Yc (gR S h0 0) 10).bind fun d3 => (aI Yc S d3 (6 + p1)).bind fun x4 => some (x4, S)))
set_option maxHeartbeats 4000000 in
set_option maxRecDepth 100000 in
theorem kX1_seatOf (l : Launch) (G : xG) (S : xS) (h0 : Nat) (p1 : Int32) (r : Int32) (S' : xS) (hk0 : xk Yc h0 = 1) (hM : mX1_seatOf S h0 p1 = some (r, S')) : xM l yX1_seatOf cX1_seatOf 2 (some .int) 0 0 G Yc [.ref (xad G h0), .int p1] S (xQi G Yc r S') := by
  refine x_start (own := RX1) (by decide +kernel) rfl (Nat.le_of_ble_eq_true rfl) ?_
  intro p e s m below meth c ls X hl hP hS
  obtain ⟨hx, hb, hml, hown, hts, hr, hlk, hK, hE, hJ⟩ := id X
  have hl : lv_has ls 2 [(0, .ref (xad G h0)), (1, .int p1)] := hl
  unfold mX1_seatOf at hM
  refine lv_iload_n hx hb dX1_seatOf_0 rfl (lv_at hl 1 rfl) ?_
  refine lv_if_lt (tgt := 22) hx hb dX1_seatOf_1 (by decide) (fun c1 => ?_) (fun c1 => ?_)
  · replace hM := (if_pos c1).symm.trans hM
    refine lv_iconst (v := 2) hx hb dX1_seatOf_22 (by decide) ?_
    exact x_iret X hP hS hM dX1_seatOf_23
  · replace hM := (if_neg c1).symm.trans hM
    refine lv_iload_n hx hb dX1_seatOf_4 rfl (lv_at hl 1 rfl) ?_
    refine lv_bipush (v := 6) hx hb dX1_seatOf_5 (by decide) ?_
    refine lv_icmp_ge (tgt := 22) hx hb dX1_seatOf_7 (by decide) (fun c2 => ?_) (fun c2 => ?_)
    · replace hM := (if_pos c2).symm.trans hM
      refine lv_iconst (v := 2) hx hb dX1_seatOf_22 (by decide) ?_
      exact x_iret X hP hS hM dX1_seatOf_23
    · replace hM := (if_neg c2).symm.trans hM
      refine lv_aload_n hx hb dX1_seatOf_10 rfl (lv_at hl 0 rfl) ?_
      obtain ⟨d3, ed3, hM⟩ := xb hM
      refine fdX1_0 X hP hk0 qw0 dX1_seatOf_11 ed3 ?_
      refine lv_bipush (v := 6) hx hb dX1_seatOf_14 (by decide) ?_
      refine lv_iload_n hx hb dX1_seatOf_16 rfl (lv_at hl 1 rfl) ?_
      refine lv_iadd hx hb dX1_seatOf_17 ?_
      obtain ⟨x4, ex4, hM⟩ := xb hM
      refine x_iald X hP (dO_k ed3) ex4 dX1_seatOf_18 ?_
      refine lv_goto (tgt := 23) hx hb dX1_seatOf_19 (by decide) ?_
      exact x_iret X hP hS hM dX1_seatOf_23

def mX1_appetiteOf (S : xS) (h0 : Nat) (p1 : Int32) : Option (Int32 × xS) := if (p1 < 0 : Prop) then (some (0, S)) else (if (6 ≤ p1 : Prop) then (some (0, S)) else ((dO Yc (gR S h0 4) 10).bind fun d3 => (aI Yc S d3 p1).bind fun x4 => some (x4, S)))
set_option maxHeartbeats 4000000 in
set_option maxRecDepth 100000 in
theorem kX1_appetiteOf (l : Launch) (G : xG) (S : xS) (h0 : Nat) (p1 : Int32) (r : Int32) (S' : xS) (hk0 : xk Yc h0 = 1) (hM : mX1_appetiteOf S h0 p1 = some (r, S')) : xM l yX1_appetiteOf cX1_appetiteOf 2 (some .int) 0 0 G Yc [.ref (xad G h0), .int p1] S (xQi G Yc r S') := by
  refine x_start (own := RX1) (by decide +kernel) rfl (Nat.le_of_ble_eq_true rfl) ?_
  intro p e s m below meth c ls X hl hP hS
  obtain ⟨hx, hb, hml, hown, hts, hr, hlk, hK, hE, hJ⟩ := id X
  have hl : lv_has ls 2 [(0, .ref (xad G h0)), (1, .int p1)] := hl
  unfold mX1_appetiteOf at hM
  refine lv_iload_n hx hb dX1_appetiteOf_0 rfl (lv_at hl 1 rfl) ?_
  refine lv_if_lt (tgt := 19) hx hb dX1_appetiteOf_1 (by decide) (fun c1 => ?_) (fun c1 => ?_)
  · replace hM := (if_pos c1).symm.trans hM
    refine lv_iconst (v := 0) hx hb dX1_appetiteOf_19 (by decide) ?_
    exact x_iret X hP hS hM dX1_appetiteOf_20
  · replace hM := (if_neg c1).symm.trans hM
    refine lv_iload_n hx hb dX1_appetiteOf_4 rfl (lv_at hl 1 rfl) ?_
    refine lv_bipush (v := 6) hx hb dX1_appetiteOf_5 (by decide) ?_
    refine lv_icmp_ge (tgt := 19) hx hb dX1_appetiteOf_7 (by decide) (fun c2 => ?_) (fun c2 => ?_)
    · replace hM := (if_pos c2).symm.trans hM
      refine lv_iconst (v := 0) hx hb dX1_appetiteOf_19 (by decide) ?_
      exact x_iret X hP hS hM dX1_appetiteOf_20
    · replace hM := (if_neg c2).symm.trans hM
      refine lv_aload_n hx hb dX1_appetiteOf_10 rfl (lv_at hl 0 rfl) ?_
      obtain ⟨d3, ed3, hM⟩ := xb hM
      refine fdX1_4 X hP hk0 qw10 dX1_appetiteOf_11 ed3 ?_
      refine lv_iload_n hx hb dX1_appetiteOf_14 rfl (lv_at hl 1 rfl) ?_
      obtain ⟨x4, ex4, hM⟩ := xb hM
      refine x_iald X hP (dO_k ed3) ex4 dX1_appetiteOf_15 ?_
      refine lv_goto (tgt := 20) hx hb dX1_appetiteOf_16 (by decide) ?_
      exact x_iret X hP hS hM dX1_appetiteOf_20

def mX1_tellSister (S : xS) (h0 : Nat) (p1 : Int32) : Option (Int32 × xS) := if ((gI S h0 5) < 0 : Prop) then (some ((-1), S)) else (if ((gI S h0 5) < 6 : Prop) then ((dO Yc (gR S h0 4) 10).bind fun d3 => (sI Yc S d3 (gI S h0 5) p1).bind fun S4 => (dO Yc (gR S4 h0 0) 10).bind fun d5 => (sI Yc S4 d5 (6 + (gI S4 h0 5)) 2).bind fun S6 => xlet (pI S6 h0 5 ((gI S6 h0 5) + 1)) fun S7 => some ((gI S7 h0 5) - 1, S7)) else (some ((-1), S)))
set_option maxHeartbeats 4000000 in
set_option maxRecDepth 100000 in
theorem kX1_tellSister (l : Launch) (G : xG) (S : xS) (h0 : Nat) (p1 : Int32) (r : Int32) (S' : xS) (hk0 : xk Yc h0 = 1) (hM : mX1_tellSister S h0 p1 = some (r, S')) : xM l yX1_tellSister cX1_tellSister 2 (some .int) 0 0 G Yc [.ref (xad G h0), .int p1] S (xQi G Yc r S') := by
  refine x_start (own := RX1) (by decide +kernel) rfl (Nat.le_of_ble_eq_true rfl) ?_
  intro p e s m below meth c ls X hl hP hS
  obtain ⟨hx, hb, hml, hown, hts, hr, hlk, hK, hE, hJ⟩ := id X
  have hl : lv_has ls 2 [(0, .ref (xad G h0)), (1, .int p1)] := hl
  unfold mX1_tellSister at hM
  refine lv_aload_n hx hb dX1_tellSister_0 rfl (lv_at hl 0 rfl) ?_
  refine fgX1_5 X hP hk0 qw11 dX1_tellSister_1 ?_
  refine lv_if_lt (tgt := 16) hx hb dX1_tellSister_4 (by decide) (fun c1 => ?_) (fun c1 => ?_)
  · replace hM := (if_pos c1).symm.trans hM
    refine lv_iconst (v := (-1)) hx hb dX1_tellSister_16 (by decide) ?_
    exact x_iret X hP hS hM dX1_tellSister_17
  · replace hM := (if_neg c1).symm.trans hM
    refine lv_aload_n hx hb dX1_tellSister_7 rfl (lv_at hl 0 rfl) ?_
    refine fgX1_5 X hP hk0 qw11 dX1_tellSister_8 ?_
    refine lv_bipush (v := 6) hx hb dX1_tellSister_11 (by decide) ?_
    refine lv_icmp_lt (tgt := 18) hx hb dX1_tellSister_13 (by decide) (fun c2 => ?_) (fun c2 => ?_)
    · replace hM := (if_pos c2).symm.trans hM
      refine lv_aload_n hx hb dX1_tellSister_18 rfl (lv_at hl 0 rfl) ?_
      obtain ⟨d3, ed3, hM⟩ := xb hM
      refine fdX1_4 X hP hk0 qw10 dX1_tellSister_19 ed3 ?_
      refine lv_aload_n hx hb dX1_tellSister_22 rfl (lv_at hl 0 rfl) ?_
      refine fgX1_5 X hP hk0 qw11 dX1_tellSister_23 ?_
      refine lv_iload_n hx hb dX1_tellSister_26 rfl (lv_at hl 1 rfl) ?_
      obtain ⟨S4, eS4, hM⟩ := xb hM
      refine x_iast X hP hS (dO_k ed3) eS4 dX1_tellSister_27 (fun H locs hP hS => ?_)
      refine lv_aload_n hx hb dX1_tellSister_28 rfl (lv_at hl 0 rfl) ?_
      obtain ⟨d5, ed5, hM⟩ := xb hM
      refine fdX1_0 X hP hk0 qw0 dX1_tellSister_29 ed5 ?_
      refine lv_bipush (v := 6) hx hb dX1_tellSister_32 (by decide) ?_
      refine lv_aload_n hx hb dX1_tellSister_34 rfl (lv_at hl 0 rfl) ?_
      refine fgX1_5 X hP hk0 qw11 dX1_tellSister_35 ?_
      refine lv_iadd hx hb dX1_tellSister_38 ?_
      refine lv_iconst (v := 2) hx hb dX1_tellSister_39 (by decide) ?_
      obtain ⟨S6, eS6, hM⟩ := xb hM
      refine x_iast X hP hS (dO_k ed5) eS6 dX1_tellSister_40 (fun H locs hP hS => ?_)
      refine lv_aload_n hx hb dX1_tellSister_41 rfl (lv_at hl 0 rfl) ?_
      refine lv_dup hx hb dX1_tellSister_42 rfl ?_
      refine fgX1_5 X hP hk0 qw11 dX1_tellSister_43 ?_
      refine lv_iconst (v := 1) hx hb dX1_tellSister_46 (by decide) ?_
      refine lv_iadd hx hb dX1_tellSister_47 ?_
      obtain ⟨S7, eS7, hM⟩ := xlet_ex hM
      refine fpX1_5 X hP hS hk0 qw11 dX1_tellSister_48 eS7 (fun H locs hP hS => ?_)
      refine lv_aload_n hx hb dX1_tellSister_51 rfl (lv_at hl 0 rfl) ?_
      refine fgX1_5 X hP hk0 qw11 dX1_tellSister_52 ?_
      refine lv_iconst (v := 1) hx hb dX1_tellSister_55 (by decide) ?_
      refine lv_isub hx hb dX1_tellSister_56 ?_
      exact x_iret X hP hS hM dX1_tellSister_57
    · replace hM := (if_neg c2).symm.trans hM
      refine lv_iconst (v := (-1)) hx hb dX1_tellSister_16 (by decide) ?_
      exact x_iret X hP hS hM dX1_tellSister_17

def lX1_sitters_4 : Nat → xS → Nat → Int32 → Int32 → Int32 → Option (Int32 × xS)
  | 0, _, _, _, _, _ => none
  | n + 1, S, h0, v1, v2, v3 => if ((gI S h0 5) ≤ v3 : Prop) then (some (v2, S)) else ((mX1_seatOf S h0 v3).bind fun q2 => if (q2.1 = v1 : Prop) then (lX1_sitters_4 n q2.2 h0 v1 (v2 ||| (1 <<< (v3 &&& 31))) (v3 + 1)) else (lX1_sitters_4 n q2.2 h0 v1 v2 (v3 + 1)))
set_option maxHeartbeats 4000000 in
set_option maxRecDepth 100000 in
theorem wX1_sitters_4 {p : Program} {l : Launch} {e : Env} {s : State} {m : MethodId} {args : Array Value} {below : List Frame} {meth : Method} {c : Code} {G : xG} {r : Int32} {S' : xS} (X : xX p s m args meth c cX1_sitters 4 (some .int) RX1 G Yc) : ∀ (n : Nat), ∀ (S : xS) (h0 : Nat) (v1 : Int32) (v2 : Int32) (v3 : Int32) (H : Heap) (locs : List Loc) (ls : Array Slot), lX1_sitters_4  n S h0 v1 v2 v3 = some (r, S') → xk Yc h0 = 1 → xP G Yc S H → va_S (xA G Yc) s.heap H locs → lv_has ls 4 [(0, .ref (xad G h0)), (1, .int v1), (2, .int v2), (3, .int v3)] → W p l e (xr 1 21) s m args below meth c H locs 0 0 (MQ below (xQi G Yc r S') args s 0 0 (xA G Yc)) (F0 m 4 ls []) := by
  obtain ⟨hx, hb, hml, hown, hts, hr, hlk, hK, hE, hJ⟩ := id X
  intro n
  induction n with
  | zero =>
    intro S h0 v1 v2 v3 H locs ls hM
    rw [lX1_sitters_4.eq_1] at hM
    cases hM
  | succ n ih =>
    intro S h0 v1 v2 v3 H locs ls hM hk0 hP hS hl
    rw [lX1_sitters_4.eq_2] at hM
    refine lv_iload_n hx hb dX1_sitters_4 rfl (lv_at hl 3 rfl) ?_
    refine lv_aload_n hx hb dX1_sitters_5 rfl (lv_at hl 0 rfl) ?_
    refine fgX1_5 X hP hk0 qw11 dX1_sitters_6 ?_
    refine lv_icmp_ge (tgt := 33) hx hb dX1_sitters_9 (by decide) (fun c1 => ?_) (fun c1 => ?_)
    · replace hM := (if_pos c1).symm.trans hM
      refine lv_iload_n hx hb dX1_sitters_33 rfl (lv_at hl 2 rfl) ?_
      exact x_iret X hP hS hM dX1_sitters_34
    · replace hM := (if_neg c1).symm.trans hM
      refine lv_aload_n hx hb dX1_sitters_12 rfl (lv_at hl 0 rfl) ?_
      refine lv_iload_n hx hb dX1_sitters_13 rfl (lv_at hl 3 rfl) ?_
      obtain ⟨q2, eq2, hM⟩ := xb hM
      refine x_goi (x_runV (rest := []) X (kX1_seatOf l G S h0 v3 q2.1 q2.2 hk0 eq2) qw12 okX1_seatOf ⟨Nat.le_of_ble_eq_true rfl, Nat.le_of_ble_eq_true rfl⟩ hk0 (by decide) rfl hP hS rfl hl.1 rfl (Nat.le_of_ble_eq_true rfl) dX1_sitters_14) hS (fun H locs hP hS => ?_)
      refine lv_iload_n hx hb dX1_sitters_17 rfl (lv_at hl 1 rfl) ?_
      refine lv_icmp_ne (tgt := 27) hx hb dX1_sitters_18 (by decide) (fun c3 => ?_) (fun c3 => ?_)
      · replace hM := (if_neg c3).symm.trans hM
        refine lv_iinc (v := v3 + 1) (lv' := [(3, .int (v3 + 1)), (0, .ref (xad G h0)), (1, .int v1), (2, .int v2)]) hx hb dX1_sitters_27 hl (k := 3) rfl (by first | rfl | exact congrArg (fun z => v3 + z) (by decide)) (by decide) rfl (fun ls hl => ?_)
        refine lv_goto (tgt := 4) hx hb dX1_sitters_30 (by decide) ?_
        exact ih q2.2 h0 v1 v2 (v3 + 1) _ _ _ hM hk0 hP hS (lv_sub hl [1, 2, 3, 0] rfl)
      · replace hM := (if_pos c3).symm.trans hM
        refine lv_iload_n hx hb dX1_sitters_21 rfl (lv_at hl 2 rfl) ?_
        refine lv_iconst (v := 1) hx hb dX1_sitters_22 (by decide) ?_
        refine lv_iload_n hx hb dX1_sitters_23 rfl (lv_at hl 3 rfl) ?_
        refine lv_ishl hx hb dX1_sitters_24 ?_
        refine lv_ior hx hb dX1_sitters_25 ?_
        refine lv_istore_n (lv' := [(2, .int (v2 ||| (1 <<< (v3 &&& 31)))), (0, .ref (xad G h0)), (1, .int v1), (3, .int v3)]) hx hb dX1_sitters_26 rfl hl (by decide) rfl (fun ls hl => ?_)
        refine lv_iinc (v := v3 + 1) (lv' := [(3, .int (v3 + 1)), (2, .int (v2 ||| (1 <<< (v3 &&& 31)))), (0, .ref (xad G h0)), (1, .int v1)]) hx hb dX1_sitters_27 hl (k := 3) rfl (by first | rfl | exact congrArg (fun z => v3 + z) (by decide)) (by decide) rfl (fun ls hl => ?_)
        refine lv_goto (tgt := 4) hx hb dX1_sitters_30 (by decide) ?_
        exact ih q2.2 h0 v1 (v2 ||| (1 <<< (v3 &&& 31))) (v3 + 1) _ _ _ hM hk0 hP hS (lv_sub hl [2, 3, 1, 0] rfl)
def mX1_sitters (S : xS) (h0 : Nat) (p1 : Int32) : Option (Int32 × xS) := lX1_sitters_4  5000 S h0 p1 0 0
set_option maxHeartbeats 4000000 in
set_option maxRecDepth 100000 in
theorem kX1_sitters (l : Launch) (G : xG) (S : xS) (h0 : Nat) (p1 : Int32) (r : Int32) (S' : xS) (hk0 : xk Yc h0 = 1) (hM : mX1_sitters S h0 p1 = some (r, S')) : xM l yX1_sitters cX1_sitters 4 (some .int) 1 21 G Yc [.ref (xad G h0), .int p1] S (xQi G Yc r S') := by
  refine x_start (own := RX1) (by decide +kernel) rfl (Nat.le_of_ble_eq_true rfl) ?_
  intro p e s m below meth c ls X hl hP hS
  obtain ⟨hx, hb, hml, hown, hts, hr, hlk, hK, hE, hJ⟩ := id X
  have hl : lv_has ls 4 [(0, .ref (xad G h0)), (1, .int p1)] := hl
  unfold mX1_sitters at hM
  refine lv_iconst (v := 0) hx hb dX1_sitters_0 (by decide) ?_
  refine lv_istore_n (lv' := [(2, .int 0), (0, .ref (xad G h0)), (1, .int p1)]) hx hb dX1_sitters_1 rfl hl (by decide) rfl (fun ls hl => ?_)
  refine lv_iconst (v := 0) hx hb dX1_sitters_2 (by decide) ?_
  refine lv_istore_n (lv' := [(3, .int 0), (2, .int 0), (0, .ref (xad G h0)), (1, .int p1)]) hx hb dX1_sitters_3 rfl hl (by decide) rfl (fun ls hl => ?_)
  exact wX1_sitters_4 X  5000 S h0 p1 0 0 _ _ _ hM hk0 hP hS (lv_sub hl [2, 3, 1, 0] rfl)

def mX1_remember (S : xS) (h0 : Nat) : Option xS := if ((gI S h0 2) < 0 : Prop) then (some S) else (if ((gI S h0 2) < 30 : Prop) then ((dO Yc (gR S h0 0) 10).bind fun d3 => (dO Yc (gR S h0 1) 10).bind fun d4 => (cpI Yc S d3 0 d4 ((gI S h0 2) * 14) 14).bind fun S5 => xlet (pI S5 h0 2 (((gI S5 h0 2) + 1) - ((gI S5 h0 2) + 1) / 30 * 30)) fun S6 => xlet (pI S6 h0 3 (if 30 < ((gI S6 h0 3) + 1) then 30 else ((gI S6 h0 3) + 1))) fun S7 => some S7) else (some S))
set_option maxHeartbeats 4000000 in
set_option maxRecDepth 100000 in
theorem kX1_remember (l : Launch) (G : xG) (S : xS) (h0 : Nat) (S' : xS) (hk0 : xk Yc h0 = 1) (hM : mX1_remember S h0 = some S') : xM l yX1_remember cX1_remember 1 none 1 60 G Yc [.ref (xad G h0)] S (xQv G Yc S') := by
  refine x_start (own := RX1) (by decide +kernel) rfl (Nat.le_of_ble_eq_true rfl) ?_
  intro p e s m below meth c ls X hl hP hS
  obtain ⟨hx, hb, hml, hown, hts, hr, hlk, hK, hE, hJ⟩ := id X
  have hl : lv_has ls 1 [(0, .ref (xad G h0))] := hl
  unfold mX1_remember at hM
  refine lv_aload_n hx hb dX1_remember_0 rfl (lv_at hl 0 rfl) ?_
  refine fgX1_2 X hP hk0 qw13 dX1_remember_1 ?_
  refine lv_if_lt (tgt := 16) hx hb dX1_remember_4 (by decide) (fun c1 => ?_) (fun c1 => ?_)
  · replace hM := (if_pos c1).symm.trans hM
    exact x_vret X hP hS hM dX1_remember_16
  · replace hM := (if_neg c1).symm.trans hM
    refine lv_aload_n hx hb dX1_remember_7 rfl (lv_at hl 0 rfl) ?_
    refine fgX1_2 X hP hk0 qw13 dX1_remember_8 ?_
    refine lv_bipush (v := 30) hx hb dX1_remember_11 (by decide) ?_
    refine lv_icmp_lt (tgt := 17) hx hb dX1_remember_13 (by decide) (fun c2 => ?_) (fun c2 => ?_)
    · replace hM := (if_pos c2).symm.trans hM
      refine lv_aload_n hx hb dX1_remember_17 rfl (lv_at hl 0 rfl) ?_
      obtain ⟨d3, ed3, hM⟩ := xb hM
      refine fdX1_0 X hP hk0 qw0 dX1_remember_18 ed3 ?_
      refine lv_iconst (v := 0) hx hb dX1_remember_21 (by decide) ?_
      refine lv_aload_n hx hb dX1_remember_22 rfl (lv_at hl 0 rfl) ?_
      obtain ⟨d4, ed4, hM⟩ := xb hM
      refine fdX1_1 X hP hk0 qw14 dX1_remember_23 ed4 ?_
      refine lv_aload_n hx hb dX1_remember_26 rfl (lv_at hl 0 rfl) ?_
      refine fgX1_2 X hP hk0 qw13 dX1_remember_27 ?_
      refine lv_bipush (v := 14) hx hb dX1_remember_30 (by decide) ?_
      refine lv_imul hx hb dX1_remember_32 ?_
      refine lv_bipush (v := 14) hx hb dX1_remember_33 (by decide) ?_
      obtain ⟨S5, eS5, hM⟩ := xb hM
      refine x_copyi X hP hS (dO_k ed3) (dO_k ed4) eS5 qw15 xokCp.1 xokCp.2.1 xokCp.2.2 hl.1 (Nat.le_of_ble_eq_true rfl) (by decide) dX1_remember_35 (fun H locs hP hS => ?_)
      refine lv_aload_n hx hb dX1_remember_38 rfl (lv_at hl 0 rfl) ?_
      refine lv_aload_n hx hb dX1_remember_39 rfl (lv_at hl 0 rfl) ?_
      refine fgX1_2 X hP hk0 qw13 dX1_remember_40 ?_
      refine lv_iconst (v := 1) hx hb dX1_remember_43 (by decide) ?_
      refine lv_iadd hx hb dX1_remember_44 ?_
      refine lv_bipush (v := 30) hx hb dX1_remember_45 (by decide) ?_
      refine lv_irem hx hb dX1_remember_47 (by decide) ?_
      obtain ⟨S6, eS6, hM⟩ := xlet_ex hM
      refine fpX1_2 X hP hS hk0 qw13 dX1_remember_48 eS6 (fun H locs hP hS => ?_)
      refine lv_aload_n hx hb dX1_remember_51 rfl (lv_at hl 0 rfl) ?_
      refine lv_aload_n hx hb dX1_remember_52 rfl (lv_at hl 0 rfl) ?_
      refine fgX1_3 X hP hk0 qw16 dX1_remember_53 ?_
      refine lv_iconst (v := 1) hx hb dX1_remember_56 (by decide) ?_
      refine lv_iadd hx hb dX1_remember_57 ?_
      refine lv_bipush (v := 30) hx hb dX1_remember_58 (by decide) ?_
      refine x_mmin X qw17 xokMmin hl.1 (Nat.le_of_ble_eq_true rfl) (Nat.le_of_ble_eq_true rfl) dX1_remember_60 ?_
      obtain ⟨S7, eS7, hM⟩ := xlet_ex hM
      refine fpX1_3 X hP hS hk0 qw16 dX1_remember_63 eS7 (fun H locs hP hS => ?_)
      exact x_vret X hP hS hM dX1_remember_66
    · replace hM := (if_neg c2).symm.trans hM
      exact x_vret X hP hS hM dX1_remember_16

def jX1_takeBack_43 (S : xS) (h0 : Nat) (t0 : Int32) : Option (Int32 × xS) := (dO Yc (gR S h0 1) 10).bind fun d1 => (dO Yc (gR S h0 0) 10).bind fun d2 => (cpI Yc S d1 (t0 * 14) d2 0 14).bind fun S3 => xlet (pI S3 h0 2 t0) fun S4 => xlet (pI S4 h0 3 ((gI S4 h0 3) - 1)) fun S5 => some (gI S5 h0 3, S5)
set_option maxHeartbeats 4000000 in
set_option maxRecDepth 100000 in
theorem wX1_takeBack_43 {p : Program} {l : Launch} {e : Env} {s : State} {m : MethodId} {args : Array Value} {below : List Frame} {meth : Method} {c : Code} {G : xG} {r : Int32} {S' : xS} (X : xX p s m args meth c cX1_takeBack 2 (some .int) RX1 G Yc) : ∀ (S : xS) (h0 : Nat) (t0 : Int32) (H : Heap) (locs : List Loc) (ls : Array Slot), jX1_takeBack_43  S h0 t0 = some (r, S') → xk Yc h0 = 1 → xP G Yc S H → va_S (xA G Yc) s.heap H locs → lv_has ls 2 [(0, .ref (xad G h0))] → W p l e (xr 1 60) s m args below meth c H locs 0 0 (MQ below (xQi G Yc r S') args s 0 0 (xA G Yc)) (F0 m 43 ls [.int t0]) := by
  obtain ⟨hx, hb, hml, hown, hts, hr, hlk, hK, hE, hJ⟩ := id X
  intro S h0 t0 H locs ls hM hk0 hP hS hl
  unfold jX1_takeBack_43 at hM
  refine lv_istore_n (lv' := [(1, .int t0), (0, .ref (xad G h0))]) hx hb dX1_takeBack_43 rfl hl (by decide) rfl (fun ls hl => ?_)
  refine lv_aload_n hx hb dX1_takeBack_44 rfl (lv_at hl 1 rfl) ?_
  obtain ⟨d1, ed1, hM⟩ := xb hM
  refine fdX1_1 X hP hk0 qw14 dX1_takeBack_45 ed1 ?_
  refine lv_iload_n hx hb dX1_takeBack_48 rfl (lv_at hl 0 rfl) ?_
  refine lv_bipush (v := 14) hx hb dX1_takeBack_49 (by decide) ?_
  refine lv_imul hx hb dX1_takeBack_51 ?_
  refine lv_aload_n hx hb dX1_takeBack_52 rfl (lv_at hl 1 rfl) ?_
  obtain ⟨d2, ed2, hM⟩ := xb hM
  refine fdX1_0 X hP hk0 qw0 dX1_takeBack_53 ed2 ?_
  refine lv_iconst (v := 0) hx hb dX1_takeBack_56 (by decide) ?_
  refine lv_bipush (v := 14) hx hb dX1_takeBack_57 (by decide) ?_
  obtain ⟨S3, eS3, hM⟩ := xb hM
  refine x_copyi X hP hS (dO_k ed1) (dO_k ed2) eS3 qw15 xokCp.1 xokCp.2.1 xokCp.2.2 hl.1 (Nat.le_of_ble_eq_true rfl) (by decide) dX1_takeBack_59 (fun H locs hP hS => ?_)
  refine lv_aload_n hx hb dX1_takeBack_62 rfl (lv_at hl 1 rfl) ?_
  refine lv_iload_n hx hb dX1_takeBack_63 rfl (lv_at hl 0 rfl) ?_
  obtain ⟨S4, eS4, hM⟩ := xlet_ex hM
  refine fpX1_2 X hP hS hk0 qw13 dX1_takeBack_64 eS4 (fun H locs hP hS => ?_)
  refine lv_aload_n hx hb dX1_takeBack_67 rfl (lv_at hl 1 rfl) ?_
  refine lv_dup hx hb dX1_takeBack_68 rfl ?_
  refine fgX1_3 X hP hk0 qw16 dX1_takeBack_69 ?_
  refine lv_iconst (v := 1) hx hb dX1_takeBack_72 (by decide) ?_
  refine lv_isub hx hb dX1_takeBack_73 ?_
  obtain ⟨S5, eS5, hM⟩ := xlet_ex hM
  refine fpX1_3 X hP hS hk0 qw16 dX1_takeBack_74 eS5 (fun H locs hP hS => ?_)
  refine lv_aload_n hx hb dX1_takeBack_77 rfl (lv_at hl 1 rfl) ?_
  refine fgX1_3 X hP hk0 qw16 dX1_takeBack_78 ?_
  exact x_iret X hP hS hM dX1_takeBack_81
def mX1_takeBack (S : xS) (h0 : Nat) : Option (Int32 × xS) := if ((gI S h0 3) ≤ 0 : Prop) then (some ((-1), S)) else (if ((gI S h0 2) < 0 : Prop) then (some ((-1), S)) else (if ((gI S h0 2) < 30 : Prop) then (if ((gI S h0 2) = 0 : Prop) then (jX1_takeBack_43  S h0 29) else (jX1_takeBack_43  S h0 ((gI S h0 2) - 1))) else (some ((-1), S))))
set_option maxHeartbeats 4000000 in
set_option maxRecDepth 100000 in
theorem kX1_takeBack (l : Launch) (G : xG) (S : xS) (h0 : Nat) (r : Int32) (S' : xS) (hk0 : xk Yc h0 = 1) (hM : mX1_takeBack S h0 = some (r, S')) : xM l yX1_takeBack cX1_takeBack 2 (some .int) 1 60 G Yc [.ref (xad G h0)] S (xQi G Yc r S') := by
  refine x_start (own := RX1) (by decide +kernel) rfl (Nat.le_of_ble_eq_true rfl) ?_
  intro p e s m below meth c ls X hl hP hS
  obtain ⟨hx, hb, hml, hown, hts, hr, hlk, hK, hE, hJ⟩ := id X
  have hl : lv_has ls 2 [(0, .ref (xad G h0))] := hl
  unfold mX1_takeBack at hM
  refine lv_aload_n hx hb dX1_takeBack_0 rfl (lv_at hl 0 rfl) ?_
  refine fgX1_3 X hP hk0 qw16 dX1_takeBack_1 ?_
  refine lv_if_le (tgt := 23) hx hb dX1_takeBack_4 (by decide) (fun c1 => ?_) (fun c1 => ?_)
  · replace hM := (if_pos c1).symm.trans hM
    refine lv_iconst (v := (-1)) hx hb dX1_takeBack_23 (by decide) ?_
    exact x_iret X hP hS hM dX1_takeBack_24
  · replace hM := (if_neg c1).symm.trans hM
    refine lv_aload_n hx hb dX1_takeBack_7 rfl (lv_at hl 0 rfl) ?_
    refine fgX1_2 X hP hk0 qw13 dX1_takeBack_8 ?_
    refine lv_if_lt (tgt := 23) hx hb dX1_takeBack_11 (by decide) (fun c2 => ?_) (fun c2 => ?_)
    · replace hM := (if_pos c2).symm.trans hM
      refine lv_iconst (v := (-1)) hx hb dX1_takeBack_23 (by decide) ?_
      exact x_iret X hP hS hM dX1_takeBack_24
    · replace hM := (if_neg c2).symm.trans hM
      refine lv_aload_n hx hb dX1_takeBack_14 rfl (lv_at hl 0 rfl) ?_
      refine fgX1_2 X hP hk0 qw13 dX1_takeBack_15 ?_
      refine lv_bipush (v := 30) hx hb dX1_takeBack_18 (by decide) ?_
      refine lv_icmp_lt (tgt := 25) hx hb dX1_takeBack_20 (by decide) (fun c3 => ?_) (fun c3 => ?_)
      · replace hM := (if_pos c3).symm.trans hM
        refine lv_aload_n hx hb dX1_takeBack_25 rfl (lv_at hl 0 rfl) ?_
        refine fgX1_2 X hP hk0 qw13 dX1_takeBack_26 ?_
        refine lv_if_ne (tgt := 37) hx hb dX1_takeBack_29 (by decide) (fun c4 => ?_) (fun c4 => ?_)
        · replace hM := (if_neg c4).symm.trans hM
          refine lv_aload_n hx hb dX1_takeBack_37 rfl (lv_at hl 0 rfl) ?_
          refine fgX1_2 X hP hk0 qw13 dX1_takeBack_38 ?_
          refine lv_iconst (v := 1) hx hb dX1_takeBack_41 (by decide) ?_
          refine lv_isub hx hb dX1_takeBack_42 ?_
          exact wX1_takeBack_43 X  S h0 ((gI S h0 2) - 1) _ _ _ hM hk0 hP hS (lv_sub hl [0] rfl)
        · replace hM := (if_pos c4).symm.trans hM
          refine lv_bipush (v := 29) hx hb dX1_takeBack_32 (by decide) ?_
          refine lv_goto (tgt := 43) hx hb dX1_takeBack_34 (by decide) ?_
          exact wX1_takeBack_43 X  S h0 29 _ _ _ hM hk0 hP hS (lv_sub hl [0] rfl)
      · replace hM := (if_neg c3).symm.trans hM
        refine lv_iconst (v := (-1)) hx hb dX1_takeBack_23 (by decide) ?_
        exact x_iret X hP hS hM dX1_takeBack_24

def mX1_copyFrom (S : xS) (h0 : Nat) (h1 : Nat) : Option xS := (dO Yc (gR S h1 0) 10).bind fun d1 => (dO Yc (gR S h0 0) 10).bind fun d2 => (cpI Yc S d1 0 d2 0 14).bind fun S3 => (dO Yc (gR S3 h1 1) 10).bind fun d4 => (dO Yc (gR S3 h0 1) 10).bind fun d5 => (cpI Yc S3 d4 0 d5 0 420).bind fun S6 => xlet (pI S6 h0 2 (gI S6 h1 2)) fun S7 => xlet (pI S7 h0 3 (gI S7 h1 3)) fun S8 => (dO Yc (gR S8 h1 4) 10).bind fun d9 => (dO Yc (gR S8 h0 4) 10).bind fun d10 => (cpI Yc S8 d9 0 d10 0 6).bind fun S11 => xlet (pI S11 h0 5 (gI S11 h1 5)) fun S12 => xlet (pI S12 h0 6 (gI S12 h1 6)) fun S13 => xlet (pI S13 h0 7 (gI S13 h1 7)) fun S14 => xlet (pI S14 h0 8 (gI S14 h1 8)) fun S15 => (dO Yc (gR S15 h1 9) 10).bind fun d16 => (dO Yc (gR S15 h0 9) 10).bind fun d17 => (cpI Yc S15 d16 0 d17 0 8).bind fun S18 => xlet (pI S18 h0 10 (gI S18 h1 10)) fun S19 => some S19
set_option maxHeartbeats 4000000 in
set_option maxRecDepth 100000 in
theorem kX1_copyFrom (l : Launch) (G : xG) (S : xS) (h0 : Nat) (h1 : Nat) (S' : xS) (hk0 : xk Yc h0 = 1) (hk1 : xk Yc h1 = 1) (hM : mX1_copyFrom S h0 h1 = some S') : xM l yX1_copyFrom cX1_copyFrom 2 none 1 60 G Yc [.ref (xad G h0), .ref (xad G h1)] S (xQv G Yc S') := by
  refine x_start (own := RX1) (by decide +kernel) rfl (Nat.le_of_ble_eq_true rfl) ?_
  intro p e s m below meth c ls X hl hP hS
  obtain ⟨hx, hb, hml, hown, hts, hr, hlk, hK, hE, hJ⟩ := id X
  have hl : lv_has ls 2 [(0, .ref (xad G h0)), (1, .ref (xad G h1))] := hl
  unfold mX1_copyFrom at hM
  refine lv_aload_n hx hb dX1_copyFrom_0 rfl (lv_at hl 1 rfl) ?_
  obtain ⟨d1, ed1, hM⟩ := xb hM
  refine fdX1_0 X hP hk1 qw0 dX1_copyFrom_1 ed1 ?_
  refine lv_iconst (v := 0) hx hb dX1_copyFrom_4 (by decide) ?_
  refine lv_aload_n hx hb dX1_copyFrom_5 rfl (lv_at hl 0 rfl) ?_
  obtain ⟨d2, ed2, hM⟩ := xb hM
  refine fdX1_0 X hP hk0 qw0 dX1_copyFrom_6 ed2 ?_
  refine lv_iconst (v := 0) hx hb dX1_copyFrom_9 (by decide) ?_
  refine lv_bipush (v := 14) hx hb dX1_copyFrom_10 (by decide) ?_
  obtain ⟨S3, eS3, hM⟩ := xb hM
  refine x_copyi X hP hS (dO_k ed1) (dO_k ed2) eS3 qw15 xokCp.1 xokCp.2.1 xokCp.2.2 hl.1 (Nat.le_of_ble_eq_true rfl) (by decide) dX1_copyFrom_12 (fun H locs hP hS => ?_)
  refine lv_aload_n hx hb dX1_copyFrom_15 rfl (lv_at hl 1 rfl) ?_
  obtain ⟨d4, ed4, hM⟩ := xb hM
  refine fdX1_1 X hP hk1 qw14 dX1_copyFrom_16 ed4 ?_
  refine lv_iconst (v := 0) hx hb dX1_copyFrom_19 (by decide) ?_
  refine lv_aload_n hx hb dX1_copyFrom_20 rfl (lv_at hl 0 rfl) ?_
  obtain ⟨d5, ed5, hM⟩ := xb hM
  refine fdX1_1 X hP hk0 qw14 dX1_copyFrom_21 ed5 ?_
  refine lv_iconst (v := 0) hx hb dX1_copyFrom_24 (by decide) ?_
  refine lv_sipush (v := 420) hx hb dX1_copyFrom_25 (by decide) ?_
  obtain ⟨S6, eS6, hM⟩ := xb hM
  refine x_copyi X hP hS (dO_k ed4) (dO_k ed5) eS6 qw15 xokCp.1 xokCp.2.1 xokCp.2.2 hl.1 (Nat.le_of_ble_eq_true rfl) (by decide) dX1_copyFrom_28 (fun H locs hP hS => ?_)
  refine lv_aload_n hx hb dX1_copyFrom_31 rfl (lv_at hl 0 rfl) ?_
  refine lv_aload_n hx hb dX1_copyFrom_32 rfl (lv_at hl 1 rfl) ?_
  refine fgX1_2 X hP hk1 qw13 dX1_copyFrom_33 ?_
  obtain ⟨S7, eS7, hM⟩ := xlet_ex hM
  refine fpX1_2 X hP hS hk0 qw13 dX1_copyFrom_36 eS7 (fun H locs hP hS => ?_)
  refine lv_aload_n hx hb dX1_copyFrom_39 rfl (lv_at hl 0 rfl) ?_
  refine lv_aload_n hx hb dX1_copyFrom_40 rfl (lv_at hl 1 rfl) ?_
  refine fgX1_3 X hP hk1 qw16 dX1_copyFrom_41 ?_
  obtain ⟨S8, eS8, hM⟩ := xlet_ex hM
  refine fpX1_3 X hP hS hk0 qw16 dX1_copyFrom_44 eS8 (fun H locs hP hS => ?_)
  refine lv_aload_n hx hb dX1_copyFrom_47 rfl (lv_at hl 1 rfl) ?_
  obtain ⟨d9, ed9, hM⟩ := xb hM
  refine fdX1_4 X hP hk1 qw10 dX1_copyFrom_48 ed9 ?_
  refine lv_iconst (v := 0) hx hb dX1_copyFrom_51 (by decide) ?_
  refine lv_aload_n hx hb dX1_copyFrom_52 rfl (lv_at hl 0 rfl) ?_
  obtain ⟨d10, ed10, hM⟩ := xb hM
  refine fdX1_4 X hP hk0 qw10 dX1_copyFrom_53 ed10 ?_
  refine lv_iconst (v := 0) hx hb dX1_copyFrom_56 (by decide) ?_
  refine lv_bipush (v := 6) hx hb dX1_copyFrom_57 (by decide) ?_
  obtain ⟨S11, eS11, hM⟩ := xb hM
  refine x_copyi X hP hS (dO_k ed9) (dO_k ed10) eS11 qw15 xokCp.1 xokCp.2.1 xokCp.2.2 hl.1 (Nat.le_of_ble_eq_true rfl) (by decide) dX1_copyFrom_59 (fun H locs hP hS => ?_)
  refine lv_aload_n hx hb dX1_copyFrom_62 rfl (lv_at hl 0 rfl) ?_
  refine lv_aload_n hx hb dX1_copyFrom_63 rfl (lv_at hl 1 rfl) ?_
  refine fgX1_5 X hP hk1 qw11 dX1_copyFrom_64 ?_
  obtain ⟨S12, eS12, hM⟩ := xlet_ex hM
  refine fpX1_5 X hP hS hk0 qw11 dX1_copyFrom_67 eS12 (fun H locs hP hS => ?_)
  refine lv_aload_n hx hb dX1_copyFrom_70 rfl (lv_at hl 0 rfl) ?_
  refine lv_aload_n hx hb dX1_copyFrom_71 rfl (lv_at hl 1 rfl) ?_
  refine fgX1_6 X hP hk1 qw18 dX1_copyFrom_72 ?_
  obtain ⟨S13, eS13, hM⟩ := xlet_ex hM
  refine fpX1_6 X hP hS hk0 qw18 dX1_copyFrom_75 eS13 (fun H locs hP hS => ?_)
  refine lv_aload_n hx hb dX1_copyFrom_78 rfl (lv_at hl 0 rfl) ?_
  refine lv_aload_n hx hb dX1_copyFrom_79 rfl (lv_at hl 1 rfl) ?_
  refine fgX1_7 X hP hk1 qw19 dX1_copyFrom_80 ?_
  obtain ⟨S14, eS14, hM⟩ := xlet_ex hM
  refine fpX1_7 X hP hS hk0 qw19 dX1_copyFrom_83 eS14 (fun H locs hP hS => ?_)
  refine lv_aload_n hx hb dX1_copyFrom_86 rfl (lv_at hl 0 rfl) ?_
  refine lv_aload_n hx hb dX1_copyFrom_87 rfl (lv_at hl 1 rfl) ?_
  refine fgX1_8 X hP hk1 qw20 dX1_copyFrom_88 ?_
  obtain ⟨S15, eS15, hM⟩ := xlet_ex hM
  refine fpX1_8 X hP hS hk0 qw20 dX1_copyFrom_91 eS15 (fun H locs hP hS => ?_)
  refine lv_aload_n hx hb dX1_copyFrom_94 rfl (lv_at hl 1 rfl) ?_
  obtain ⟨d16, ed16, hM⟩ := xb hM
  refine fdX1_9 X hP hk1 qw21 dX1_copyFrom_95 ed16 ?_
  refine lv_iconst (v := 0) hx hb dX1_copyFrom_98 (by decide) ?_
  refine lv_aload_n hx hb dX1_copyFrom_99 rfl (lv_at hl 0 rfl) ?_
  obtain ⟨d17, ed17, hM⟩ := xb hM
  refine fdX1_9 X hP hk0 qw21 dX1_copyFrom_100 ed17 ?_
  refine lv_iconst (v := 0) hx hb dX1_copyFrom_103 (by decide) ?_
  refine lv_bipush (v := 8) hx hb dX1_copyFrom_104 (by decide) ?_
  obtain ⟨S18, eS18, hM⟩ := xb hM
  refine x_copyi X hP hS (dO_k ed16) (dO_k ed17) eS18 qw15 xokCp.1 xokCp.2.1 xokCp.2.2 hl.1 (Nat.le_of_ble_eq_true rfl) (by decide) dX1_copyFrom_106 (fun H locs hP hS => ?_)
  refine lv_aload_n hx hb dX1_copyFrom_109 rfl (lv_at hl 0 rfl) ?_
  refine lv_aload_n hx hb dX1_copyFrom_110 rfl (lv_at hl 1 rfl) ?_
  refine fgX1_10 X hP hk1 qw22 dX1_copyFrom_111 ?_
  obtain ⟨S19, eS19, hM⟩ := xlet_ex hM
  refine fpX1_10 X hP hS hk0 qw22 dX1_copyFrom_114 eS19 (fun H locs hP hS => ?_)
  exact x_vret X hP hS hM dX1_copyFrom_117

def mX6_hasSlices (S : xS) (h0 : Nat) : Option (Int32 × xS) := if ((gI S h0 4) ≤ (gI S h0 3) : Prop) then (some (0, S)) else (some (1, S))
set_option maxHeartbeats 4000000 in
set_option maxRecDepth 100000 in
theorem kX6_hasSlices (l : Launch) (G : xG) (S : xS) (h0 : Nat) (r : Int32) (S' : xS) (hk0 : xk Yc h0 = 6) (hM : mX6_hasSlices S h0 = some (r, S')) : xM l yX6_hasSlices cX6_hasSlices 1 (some .boolean) 0 0 G Yc [.ref (xad G h0)] S (xQi G Yc r S') := by
  refine x_start (own := RX6) (by decide +kernel) rfl (Nat.le_of_ble_eq_true rfl) ?_
  intro p e s m below meth c ls X hl hP hS
  obtain ⟨hx, hb, hml, hown, hts, hr, hlk, hK, hE, hJ⟩ := id X
  have hl : lv_has ls 1 [(0, .ref (xad G h0))] := hl
  unfold mX6_hasSlices at hM
  refine lv_aload_n hx hb dX6_hasSlices_0 rfl (lv_at hl 0 rfl) ?_
  refine fgX6_3 X hP hk0 qw23 dX6_hasSlices_1 ?_
  refine lv_aload_n hx hb dX6_hasSlices_4 rfl (lv_at hl 0 rfl) ?_
  refine fgX6_4 X hP hk0 qw24 dX6_hasSlices_5 ?_
  refine lv_icmp_ge (tgt := 15) hx hb dX6_hasSlices_8 (by decide) (fun c1 => ?_) (fun c1 => ?_)
  · replace hM := (if_pos c1).symm.trans hM
    refine lv_iconst (v := 0) hx hb dX6_hasSlices_15 (by decide) ?_
    exact x_zret X hP hS (Or.inl rfl) hM dX6_hasSlices_16
  · replace hM := (if_neg c1).symm.trans hM
    refine lv_iconst (v := 1) hx hb dX6_hasSlices_11 (by decide) ?_
    refine lv_goto (tgt := 16) hx hb dX6_hasSlices_12 (by decide) ?_
    exact x_zret X hP hS (Or.inr rfl) hM dX6_hasSlices_16

def mX5_tell (S : xS) (h0 : Nat) (p1 : Int32) (p2 : Int32) (p3 : Int32) : Option xS := (dO Yc (gR S h0 0) 10).bind fun d1 => (sI Yc S d1 0 p1).bind fun S2 => (dO Yc (gR S2 h0 0) 10).bind fun d3 => (sI Yc S2 d3 1 p2).bind fun S4 => (dO Yc (gR S4 h0 0) 10).bind fun d5 => (sI Yc S4 d5 2 p3).bind fun S6 => some S6
set_option maxHeartbeats 4000000 in
set_option maxRecDepth 100000 in
theorem kX5_tell (l : Launch) (G : xG) (S : xS) (h0 : Nat) (p1 : Int32) (p2 : Int32) (p3 : Int32) (S' : xS) (hk0 : xk Yc h0 = 5) (hM : mX5_tell S h0 p1 p2 p3 = some S') : xM l yX5_tell cX5_tell 4 none 0 0 G Yc [.ref (xad G h0), .int p1, .int p2, .int p3] S (xQv G Yc S') := by
  refine x_start (own := RX5) (by decide +kernel) rfl (Nat.le_of_ble_eq_true rfl) ?_
  intro p e s m below meth c ls X hl hP hS
  obtain ⟨hx, hb, hml, hown, hts, hr, hlk, hK, hE, hJ⟩ := id X
  have hl : lv_has ls 4 [(0, .ref (xad G h0)), (1, .int p1), (2, .int p2), (3, .int p3)] := hl
  unfold mX5_tell at hM
  refine lv_aload_n hx hb dX5_tell_0 rfl (lv_at hl 0 rfl) ?_
  obtain ⟨d1, ed1, hM⟩ := xb hM
  refine fdX5_0 X hP hk0 qw25 dX5_tell_1 ed1 ?_
  refine lv_iconst (v := 0) hx hb dX5_tell_4 (by decide) ?_
  refine lv_iload_n hx hb dX5_tell_5 rfl (lv_at hl 1 rfl) ?_
  obtain ⟨S2, eS2, hM⟩ := xb hM
  refine x_iast X hP hS (dO_k ed1) eS2 dX5_tell_6 (fun H locs hP hS => ?_)
  refine lv_aload_n hx hb dX5_tell_7 rfl (lv_at hl 0 rfl) ?_
  obtain ⟨d3, ed3, hM⟩ := xb hM
  refine fdX5_0 X hP hk0 qw25 dX5_tell_8 ed3 ?_
  refine lv_iconst (v := 1) hx hb dX5_tell_11 (by decide) ?_
  refine lv_iload_n hx hb dX5_tell_12 rfl (lv_at hl 2 rfl) ?_
  obtain ⟨S4, eS4, hM⟩ := xb hM
  refine x_iast X hP hS (dO_k ed3) eS4 dX5_tell_13 (fun H locs hP hS => ?_)
  refine lv_aload_n hx hb dX5_tell_14 rfl (lv_at hl 0 rfl) ?_
  obtain ⟨d5, ed5, hM⟩ := xb hM
  refine fdX5_0 X hP hk0 qw25 dX5_tell_15 ed5 ?_
  refine lv_iconst (v := 2) hx hb dX5_tell_18 (by decide) ?_
  refine lv_iload_n hx hb dX5_tell_19 rfl (lv_at hl 3 rfl) ?_
  obtain ⟨S6, eS6, hM⟩ := xb hM
  refine x_iast X hP hS (dO_k ed5) eS6 dX5_tell_20 (fun H locs hP hS => ?_)
  exact x_vret X hP hS hM dX5_tell_21

def mX5_nameAt (S : xS) (h0 : Nat) (p1 : Int32) : Option (Int32 × xS) := if (p1 < 0 : Prop) then (some (0, S)) else (if (6 ≤ p1 : Prop) then (some (0, S)) else ((dO Yc (gR S h0 0) 10).bind fun d3 => (aI Yc S d3 p1).bind fun x4 => some (x4, S)))
set_option maxHeartbeats 4000000 in
set_option maxRecDepth 100000 in
theorem kX5_nameAt (l : Launch) (G : xG) (S : xS) (h0 : Nat) (p1 : Int32) (r : Int32) (S' : xS) (hk0 : xk Yc h0 = 5) (hM : mX5_nameAt S h0 p1 = some (r, S')) : xM l yX5_nameAt cX5_nameAt 2 (some .int) 0 0 G Yc [.ref (xad G h0), .int p1] S (xQi G Yc r S') := by
  refine x_start (own := RX5) (by decide +kernel) rfl (Nat.le_of_ble_eq_true rfl) ?_
  intro p e s m below meth c ls X hl hP hS
  obtain ⟨hx, hb, hml, hown, hts, hr, hlk, hK, hE, hJ⟩ := id X
  have hl : lv_has ls 2 [(0, .ref (xad G h0)), (1, .int p1)] := hl
  unfold mX5_nameAt at hM
  refine lv_iload_n hx hb dX5_nameAt_0 rfl (lv_at hl 1 rfl) ?_
  refine lv_if_lt (tgt := 19) hx hb dX5_nameAt_1 (by decide) (fun c1 => ?_) (fun c1 => ?_)
  · replace hM := (if_pos c1).symm.trans hM
    refine lv_iconst (v := 0) hx hb dX5_nameAt_19 (by decide) ?_
    exact x_iret X hP hS hM dX5_nameAt_20
  · replace hM := (if_neg c1).symm.trans hM
    refine lv_iload_n hx hb dX5_nameAt_4 rfl (lv_at hl 1 rfl) ?_
    refine lv_bipush (v := 6) hx hb dX5_nameAt_5 (by decide) ?_
    refine lv_icmp_ge (tgt := 19) hx hb dX5_nameAt_7 (by decide) (fun c2 => ?_) (fun c2 => ?_)
    · replace hM := (if_pos c2).symm.trans hM
      refine lv_iconst (v := 0) hx hb dX5_nameAt_19 (by decide) ?_
      exact x_iret X hP hS hM dX5_nameAt_20
    · replace hM := (if_neg c2).symm.trans hM
      refine lv_aload_n hx hb dX5_nameAt_10 rfl (lv_at hl 0 rfl) ?_
      obtain ⟨d3, ed3, hM⟩ := xb hM
      refine fdX5_0 X hP hk0 qw25 dX5_nameAt_11 ed3 ?_
      refine lv_iload_n hx hb dX5_nameAt_14 rfl (lv_at hl 1 rfl) ?_
      obtain ⟨x4, ex4, hM⟩ := xb hM
      refine x_iald X hP (dO_k ed3) ex4 dX5_nameAt_15 ?_
      refine lv_goto (tgt := 20) hx hb dX5_nameAt_16 (by decide) ?_
      exact x_iret X hP hS hM dX5_nameAt_20

def mX5_ofTwo (S : xS) (p0 : Int32) (p1 : Int64) (p3 : Int64) : Option (Int64 × xS) := if (p0 : Int32) = 6 then (some (p1 + p3, S)) else (if (p0 : Int32) = 7 then (some (p1 - p3, S)) else (if (p0 : Int32) = 8 then (some (p1 * p3, S)) else (if (p0 : Int32) = 9 then (if ((lg_cmp p3 0) = 0 : Prop) then (some (0, S)) else ((if p3 = 0 then none else some (p1 / p3, S)))) else (if (p0 : Int32) = 10 then (if (0 ≤ (lg_cmp p1 p3) : Prop) then (some (0, S)) else (some (1, S))) else (if (p0 : Int32) = 11 then (if (0 < (lg_cmp p1 p3) : Prop) then (some (0, S)) else (some (1, S))) else (if (p0 : Int32) = 12 then (if ((lg_cmp p1 p3) ≤ 0 : Prop) then (some (0, S)) else (some (1, S))) else (if (p0 : Int32) = 13 then (if ((lg_cmp p1 p3) < 0 : Prop) then (some (0, S)) else (some (1, S))) else (if (p0 : Int32) = 14 then (if ((lg_cmp p1 p3) = 0 : Prop) then (some (1, S)) else (some (0, S))) else (if (p0 : Int32) = 15 then (if ((lg_cmp p1 p3) = 0 : Prop) then (some (0, S)) else (some (1, S))) else (if (p0 : Int32) = 16 then (some (p1 &&& p3, S)) else (if (p0 : Int32) = 17 then (some (p1 ||| p3, S)) else (some (0, S)))))))))))))
set_option maxHeartbeats 4000000 in
set_option maxRecDepth 100000 in
theorem kX5_ofTwo (l : Launch) (G : xG) (S : xS) (p0 : Int32) (p1 : Int64) (p3 : Int64) (r : Int64) (S' : xS) (hM : mX5_ofTwo S p0 p1 p3 = some (r, S')) : xM l yX5_ofTwo cX5_ofTwo 5 (some .long) 0 0 G Yc [.int p0, .long p1, .long p3] S (xQl G Yc r S') := by
  refine x_start (own := RX5) (by decide +kernel) rfl (Nat.le_of_ble_eq_true rfl) ?_
  intro p e s m below meth c ls X hl hP hS
  obtain ⟨hx, hb, hml, hown, hts, hr, hlk, hK, hE, hJ⟩ := id X
  have hl : lv_has ls 5 [(0, .int p0), (1, .long p1), (3, .long p3)] := hl
  unfold mX5_ofTwo at hM
  refine lv_iload_n hx hb dX5_ofTwo_0 rfl (lv_at hl 0 rfl) ?_
  by_cases c1 : p0 = 6
  · replace hM := (if_pos c1).symm.trans hM
    refine x_tabIn (tgt := 64) (off := 63) hx hb dX5_ofTwo_1 c1 (by decide) (by decide) (by decide) (by decide) ?_
    refine lv_lload_n hx hb dX5_ofTwo_64 rfl (lv_at hl 1 rfl) ?_
    refine lv_lload_n hx hb dX5_ofTwo_65 rfl (lv_at hl 2 rfl) ?_
    refine lv_ladd hx hb dX5_ofTwo_66 ?_
    exact x_lret X hP hS hM dX5_ofTwo_67
  replace hM := (if_neg c1).symm.trans hM
  by_cases c2 : p0 = 7
  · replace hM := (if_pos c2).symm.trans hM
    refine x_tabIn (tgt := 68) (off := 67) hx hb dX5_ofTwo_1 c2 (by decide) (by decide) (by decide) (by decide) ?_
    refine lv_lload_n hx hb dX5_ofTwo_68 rfl (lv_at hl 1 rfl) ?_
    refine lv_lload_n hx hb dX5_ofTwo_69 rfl (lv_at hl 2 rfl) ?_
    refine lv_lsub hx hb dX5_ofTwo_70 ?_
    exact x_lret X hP hS hM dX5_ofTwo_71
  replace hM := (if_neg c2).symm.trans hM
  by_cases c3 : p0 = 8
  · replace hM := (if_pos c3).symm.trans hM
    refine x_tabIn (tgt := 72) (off := 71) hx hb dX5_ofTwo_1 c3 (by decide) (by decide) (by decide) (by decide) ?_
    refine lv_lload_n hx hb dX5_ofTwo_72 rfl (lv_at hl 1 rfl) ?_
    refine lv_lload_n hx hb dX5_ofTwo_73 rfl (lv_at hl 2 rfl) ?_
    refine lv_lmul hx hb dX5_ofTwo_74 ?_
    exact x_lret X hP hS hM dX5_ofTwo_75
  replace hM := (if_neg c3).symm.trans hM
  by_cases c4 : p0 = 9
  · replace hM := (if_pos c4).symm.trans hM
    refine x_tabIn (tgt := 76) (off := 75) hx hb dX5_ofTwo_1 c4 (by decide) (by decide) (by decide) (by decide) ?_
    refine lv_lload_n hx hb dX5_ofTwo_76 rfl (lv_at hl 2 rfl) ?_
    refine lv_lconst (v := 0) hx hb dX5_ofTwo_77 (by decide) ?_
    refine W.lcmp hx hb dX5_ofTwo_78 ?_
    refine lv_if_ne (tgt := 86) hx hb dX5_ofTwo_79 (by decide) (fun c5 => ?_) (fun c5 => ?_)
    · replace hM := (if_neg c5).symm.trans hM
      refine lv_lload_n hx hb dX5_ofTwo_86 rfl (lv_at hl 1 rfl) ?_
      refine lv_lload_n hx hb dX5_ofTwo_87 rfl (lv_at hl 2 rfl) ?_
      by_cases ec6 : p3 = 0
      · replace hM := (if_pos ec6).symm.trans hM; cases hM
      replace hM := (if_neg ec6).symm.trans hM
      refine lv_ldiv hx hb dX5_ofTwo_88 ec6 ?_
      exact x_lret X hP hS hM dX5_ofTwo_89
    · replace hM := (if_pos c5).symm.trans hM
      refine lv_lconst (v := 0) hx hb dX5_ofTwo_82 (by decide) ?_
      refine lv_goto (tgt := 89) hx hb dX5_ofTwo_83 (by decide) ?_
      exact x_lret X hP hS hM dX5_ofTwo_89
  replace hM := (if_neg c4).symm.trans hM
  by_cases c7 : p0 = 10
  · replace hM := (if_pos c7).symm.trans hM
    refine x_tabIn (tgt := 90) (off := 89) hx hb dX5_ofTwo_1 c7 (by decide) (by decide) (by decide) (by decide) ?_
    refine lv_lload_n hx hb dX5_ofTwo_90 rfl (lv_at hl 1 rfl) ?_
    refine lv_lload_n hx hb dX5_ofTwo_91 rfl (lv_at hl 2 rfl) ?_
    refine W.lcmp hx hb dX5_ofTwo_92 ?_
    refine lv_if_ge (tgt := 100) hx hb dX5_ofTwo_93 (by decide) (fun c8 => ?_) (fun c8 => ?_)
    · replace hM := (if_pos c8).symm.trans hM
      refine lv_lconst (v := 0) hx hb dX5_ofTwo_100 (by decide) ?_
      exact x_lret X hP hS hM dX5_ofTwo_101
    · replace hM := (if_neg c8).symm.trans hM
      refine lv_lconst (v := 1) hx hb dX5_ofTwo_96 (by decide) ?_
      refine lv_goto (tgt := 101) hx hb dX5_ofTwo_97 (by decide) ?_
      exact x_lret X hP hS hM dX5_ofTwo_101
  replace hM := (if_neg c7).symm.trans hM
  by_cases c9 : p0 = 11
  · replace hM := (if_pos c9).symm.trans hM
    refine x_tabIn (tgt := 102) (off := 101) hx hb dX5_ofTwo_1 c9 (by decide) (by decide) (by decide) (by decide) ?_
    refine lv_lload_n hx hb dX5_ofTwo_102 rfl (lv_at hl 1 rfl) ?_
    refine lv_lload_n hx hb dX5_ofTwo_103 rfl (lv_at hl 2 rfl) ?_
    refine W.lcmp hx hb dX5_ofTwo_104 ?_
    refine lv_if_gt (tgt := 112) hx hb dX5_ofTwo_105 (by decide) (fun c10 => ?_) (fun c10 => ?_)
    · replace hM := (if_pos c10).symm.trans hM
      refine lv_lconst (v := 0) hx hb dX5_ofTwo_112 (by decide) ?_
      exact x_lret X hP hS hM dX5_ofTwo_113
    · replace hM := (if_neg c10).symm.trans hM
      refine lv_lconst (v := 1) hx hb dX5_ofTwo_108 (by decide) ?_
      refine lv_goto (tgt := 113) hx hb dX5_ofTwo_109 (by decide) ?_
      exact x_lret X hP hS hM dX5_ofTwo_113
  replace hM := (if_neg c9).symm.trans hM
  by_cases c11 : p0 = 12
  · replace hM := (if_pos c11).symm.trans hM
    refine x_tabIn (tgt := 114) (off := 113) hx hb dX5_ofTwo_1 c11 (by decide) (by decide) (by decide) (by decide) ?_
    refine lv_lload_n hx hb dX5_ofTwo_114 rfl (lv_at hl 1 rfl) ?_
    refine lv_lload_n hx hb dX5_ofTwo_115 rfl (lv_at hl 2 rfl) ?_
    refine W.lcmp hx hb dX5_ofTwo_116 ?_
    refine lv_if_le (tgt := 124) hx hb dX5_ofTwo_117 (by decide) (fun c12 => ?_) (fun c12 => ?_)
    · replace hM := (if_pos c12).symm.trans hM
      refine lv_lconst (v := 0) hx hb dX5_ofTwo_124 (by decide) ?_
      exact x_lret X hP hS hM dX5_ofTwo_125
    · replace hM := (if_neg c12).symm.trans hM
      refine lv_lconst (v := 1) hx hb dX5_ofTwo_120 (by decide) ?_
      refine lv_goto (tgt := 125) hx hb dX5_ofTwo_121 (by decide) ?_
      exact x_lret X hP hS hM dX5_ofTwo_125
  replace hM := (if_neg c11).symm.trans hM
  by_cases c13 : p0 = 13
  · replace hM := (if_pos c13).symm.trans hM
    refine x_tabIn (tgt := 126) (off := 125) hx hb dX5_ofTwo_1 c13 (by decide) (by decide) (by decide) (by decide) ?_
    refine lv_lload_n hx hb dX5_ofTwo_126 rfl (lv_at hl 1 rfl) ?_
    refine lv_lload_n hx hb dX5_ofTwo_127 rfl (lv_at hl 2 rfl) ?_
    refine W.lcmp hx hb dX5_ofTwo_128 ?_
    refine lv_if_lt (tgt := 136) hx hb dX5_ofTwo_129 (by decide) (fun c14 => ?_) (fun c14 => ?_)
    · replace hM := (if_pos c14).symm.trans hM
      refine lv_lconst (v := 0) hx hb dX5_ofTwo_136 (by decide) ?_
      exact x_lret X hP hS hM dX5_ofTwo_137
    · replace hM := (if_neg c14).symm.trans hM
      refine lv_lconst (v := 1) hx hb dX5_ofTwo_132 (by decide) ?_
      refine lv_goto (tgt := 137) hx hb dX5_ofTwo_133 (by decide) ?_
      exact x_lret X hP hS hM dX5_ofTwo_137
  replace hM := (if_neg c13).symm.trans hM
  by_cases c15 : p0 = 14
  · replace hM := (if_pos c15).symm.trans hM
    refine x_tabIn (tgt := 138) (off := 137) hx hb dX5_ofTwo_1 c15 (by decide) (by decide) (by decide) (by decide) ?_
    refine lv_lload_n hx hb dX5_ofTwo_138 rfl (lv_at hl 1 rfl) ?_
    refine lv_lload_n hx hb dX5_ofTwo_139 rfl (lv_at hl 2 rfl) ?_
    refine W.lcmp hx hb dX5_ofTwo_140 ?_
    refine lv_if_ne (tgt := 148) hx hb dX5_ofTwo_141 (by decide) (fun c16 => ?_) (fun c16 => ?_)
    · replace hM := (if_neg c16).symm.trans hM
      refine lv_lconst (v := 0) hx hb dX5_ofTwo_148 (by decide) ?_
      exact x_lret X hP hS hM dX5_ofTwo_149
    · replace hM := (if_pos c16).symm.trans hM
      refine lv_lconst (v := 1) hx hb dX5_ofTwo_144 (by decide) ?_
      refine lv_goto (tgt := 149) hx hb dX5_ofTwo_145 (by decide) ?_
      exact x_lret X hP hS hM dX5_ofTwo_149
  replace hM := (if_neg c15).symm.trans hM
  by_cases c17 : p0 = 15
  · replace hM := (if_pos c17).symm.trans hM
    refine x_tabIn (tgt := 150) (off := 149) hx hb dX5_ofTwo_1 c17 (by decide) (by decide) (by decide) (by decide) ?_
    refine lv_lload_n hx hb dX5_ofTwo_150 rfl (lv_at hl 1 rfl) ?_
    refine lv_lload_n hx hb dX5_ofTwo_151 rfl (lv_at hl 2 rfl) ?_
    refine W.lcmp hx hb dX5_ofTwo_152 ?_
    refine lv_if_eq (tgt := 160) hx hb dX5_ofTwo_153 (by decide) (fun c18 => ?_) (fun c18 => ?_)
    · replace hM := (if_pos c18).symm.trans hM
      refine lv_lconst (v := 0) hx hb dX5_ofTwo_160 (by decide) ?_
      exact x_lret X hP hS hM dX5_ofTwo_161
    · replace hM := (if_neg c18).symm.trans hM
      refine lv_lconst (v := 1) hx hb dX5_ofTwo_156 (by decide) ?_
      refine lv_goto (tgt := 161) hx hb dX5_ofTwo_157 (by decide) ?_
      exact x_lret X hP hS hM dX5_ofTwo_161
  replace hM := (if_neg c17).symm.trans hM
  by_cases c19 : p0 = 16
  · replace hM := (if_pos c19).symm.trans hM
    refine x_tabIn (tgt := 162) (off := 161) hx hb dX5_ofTwo_1 c19 (by decide) (by decide) (by decide) (by decide) ?_
    refine lv_lload_n hx hb dX5_ofTwo_162 rfl (lv_at hl 1 rfl) ?_
    refine lv_lload_n hx hb dX5_ofTwo_163 rfl (lv_at hl 2 rfl) ?_
    refine lv_land hx hb dX5_ofTwo_164 ?_
    exact x_lret X hP hS hM dX5_ofTwo_165
  replace hM := (if_neg c19).symm.trans hM
  by_cases c20 : p0 = 17
  · replace hM := (if_pos c20).symm.trans hM
    refine x_tabIn (tgt := 166) (off := 165) hx hb dX5_ofTwo_1 c20 (by decide) (by decide) (by decide) (by decide) ?_
    refine lv_lload_n hx hb dX5_ofTwo_166 rfl (lv_at hl 1 rfl) ?_
    refine lv_lload_n hx hb dX5_ofTwo_167 rfl (lv_at hl 2 rfl) ?_
    refine lv_lor hx hb dX5_ofTwo_168 ?_
    exact x_lret X hP hS hM dX5_ofTwo_169
  replace hM := (if_neg c20).symm.trans hM
  have gc1 : ¬ (p0 : Int32).toInt = 6 := xne c1
  have gc2 : ¬ (p0 : Int32).toInt = 7 := xne c2
  have gc3 : ¬ (p0 : Int32).toInt = 8 := xne c3
  have gc4 : ¬ (p0 : Int32).toInt = 9 := xne c4
  have gc7 : ¬ (p0 : Int32).toInt = 10 := xne c7
  have gc9 : ¬ (p0 : Int32).toInt = 11 := xne c9
  have gc11 : ¬ (p0 : Int32).toInt = 12 := xne c11
  have gc13 : ¬ (p0 : Int32).toInt = 13 := xne c13
  have gc15 : ¬ (p0 : Int32).toInt = 14 := xne c15
  have gc17 : ¬ (p0 : Int32).toInt = 15 := xne c17
  have gc19 : ¬ (p0 : Int32).toInt = 16 := xne c19
  have gc20 : ¬ (p0 : Int32).toInt = 17 := xne c20
  refine lv_tableOut (tgt := 170) hx hb dX5_ofTwo_1 (by omega) (by decide) ?_
  refine lv_lconst (v := 0) hx hb dX5_ofTwo_170 (by decide) ?_
  exact x_lret X hP hS hM dX5_ofTwo_171

def mX5_held (S : xS) (p0 : Int64) : Option (Int32 × xS) := if ((lg_cmp p0 1000000) ≤ 0 : Prop) then (if (0 ≤ (lg_cmp p0 (-1000000)) : Prop) then (some ((p0 : Int64).toInt32, S)) else (some ((-1000000), S))) else (some (1000000, S))
set_option maxHeartbeats 4000000 in
set_option maxRecDepth 100000 in
theorem kX5_held (l : Launch) (G : xG) (S : xS) (p0 : Int64) (r : Int32) (S' : xS) (hM : mX5_held S p0 = some (r, S')) : xM l yX5_held cX5_held 2 (some .int) 0 0 G Yc [.long p0] S (xQi G Yc r S') := by
  refine x_start (own := RX5) (by decide +kernel) rfl (Nat.le_of_ble_eq_true rfl) ?_
  intro p e s m below meth c ls X hl hP hS
  obtain ⟨hx, hb, hml, hown, hts, hr, hlk, hK, hE, hJ⟩ := id X
  have hl : lv_has ls 2 [(0, .long p0)] := hl
  unfold mX5_held at hM
  refine lv_lload_n hx hb dX5_held_0 rfl (lv_at hl 0 rfl) ?_
  refine x_ldc2 X qw26 dX5_held_1 ?_
  refine W.lcmp hx hb dX5_held_4 ?_
  refine lv_if_le (tgt := 11) hx hb dX5_held_5 (by decide) (fun c1 => ?_) (fun c1 => ?_)
  · replace hM := (if_pos c1).symm.trans hM
    refine lv_lload_n hx hb dX5_held_11 rfl (lv_at hl 0 rfl) ?_
    refine x_ldc2 X qw27 dX5_held_12 ?_
    refine W.lcmp hx hb dX5_held_15 ?_
    refine lv_if_ge (tgt := 24) hx hb dX5_held_16 (by decide) (fun c2 => ?_) (fun c2 => ?_)
    · replace hM := (if_pos c2).symm.trans hM
      refine lv_lload_n hx hb dX5_held_24 rfl (lv_at hl 0 rfl) ?_
      refine lv_l2i hx hb dX5_held_25 rfl ?_
      exact x_iret X hP hS hM dX5_held_26
    · replace hM := (if_neg c2).symm.trans hM
      refine x_ldc X qw28 dX5_held_19 ?_
      refine lv_goto (tgt := 26) hx hb dX5_held_21 (by decide) ?_
      exact x_iret X hP hS hM dX5_held_26
  · replace hM := (if_neg c1).symm.trans hM
    refine x_ldc X qw29 dX5_held_8 ?_
    exact x_iret X hP hS hM dX5_held_10

def jX5_worked_89 (k23 : xS → Nat → Option Nat → Int32 → Int32 → Int32 → Option (Int32 × xS)) (S : xS) (h0 : Nat) (r1 : Option Nat) (v3 : Int32) (v4 : Int32) (v5 : Int32) (t0 : Int32) (t1 : Int32) (t2 : Nat) : Option (Int32 × xS) := (sI Yc S t2 t1 t0).bind fun S1 => k23 S1 h0 r1 v3 (v4 + 1) (v5 + 1)
set_option maxHeartbeats 4000000 in
set_option maxRecDepth 100000 in
theorem wX5_worked_89 {p : Program} {l : Launch} {e : Env} {s : State} {m : MethodId} {args : Array Value} {below : List Frame} {meth : Method} {c : Code} {G : xG} {r : Int32} {S' : xS} (X : xX p s m args meth c cX5_worked 8 (some .int) RX5 G Yc) (k23 : xS → Nat → Option Nat → Int32 → Int32 → Int32 → Option (Int32 × xS)) (hh23 : ∀ (S : xS) (h0 : Nat) (r1 : Option Nat) (v3 : Int32) (v4 : Int32) (v5 : Int32) (H : Heap) (locs : List Loc) (ls : Array Slot), k23 S h0 r1 v3 v4 v5 = some (r, S') → xk Yc h0 = 5 → xP G Yc S H → va_S (xA G Yc) s.heap H locs → lv_has ls 8 [(0, .ref (xad G h0)), (1, va_rf (Option.map (xad G) r1)), (3, .int v3), (4, .int v4), (5, .int v5)] → W p l e (xr 1 24) s m args below meth c H locs 0 0 (MQ below (xQi G Yc r S') args s 0 0 (xA G Yc)) (F0 m 23 ls [])) : ∀ (S : xS) (h0 : Nat) (r1 : Option Nat) (v3 : Int32) (v4 : Int32) (v5 : Int32) (t0 : Int32) (t1 : Int32) (t2 : Nat) (H : Heap) (locs : List Loc) (ls : Array Slot), jX5_worked_89 k23 S h0 r1 v3 v4 v5 t0 t1 t2 = some (r, S') → xk Yc h0 = 5 → xk Yc t2 = 10 → xP G Yc S H → va_S (xA G Yc) s.heap H locs → lv_has ls 8 [(0, .ref (xad G h0)), (1, va_rf (Option.map (xad G) r1)), (3, .int v3), (4, .int v4), (5, .int v5)] → W p l e (xr 1 24) s m args below meth c H locs 0 0 (MQ below (xQi G Yc r S') args s 0 0 (xA G Yc)) (F0 m 89 ls [.int t0, .int t1, .ref (xad G t2)]) := by
  obtain ⟨hx, hb, hml, hown, hts, hr, hlk, hK, hE, hJ⟩ := id X
  intro S h0 r1 v3 v4 v5 t0 t1 t2 H locs ls hM hk0 hkt2 hP hS hl
  unfold jX5_worked_89 at hM
  obtain ⟨S1, eS1, hM⟩ := xb hM
  refine x_iast X hP hS hkt2 eS1 dX5_worked_89 (fun H locs hP hS => ?_)
  refine lv_iinc (v := v4 + 1) (lv' := [(4, .int (v4 + 1)), (0, .ref (xad G h0)), (1, va_rf (Option.map (xad G) r1)), (3, .int v3), (5, .int v5)]) hx hb dX5_worked_90 hl (k := 3) rfl (by first | rfl | exact congrArg (fun z => v4 + z) (by decide)) (by decide) rfl (fun ls hl => ?_)
  refine lv_goto (tgt := 265) hx hb dX5_worked_93 (by decide) ?_
  refine lv_iinc (v := v5 + 1) (lv' := [(5, .int (v5 + 1)), (4, .int (v4 + 1)), (0, .ref (xad G h0)), (1, va_rf (Option.map (xad G) r1)), (3, .int v3)]) hx hb dX5_worked_265 hl (k := 4) rfl (by first | rfl | exact congrArg (fun z => v5 + z) (by decide)) (by decide) rfl (fun ls hl => ?_)
  refine lv_goto (tgt := 23) hx hb dX5_worked_268 (by decide) ?_
  exact hh23 S1 h0 r1 v3 (v4 + 1) (v5 + 1) _ _ _ hM hk0 hP hS (lv_sub hl [2, 3, 4, 1, 0] rfl)
def jX5_worked_58 (k23 : xS → Nat → Option Nat → Int32 → Int32 → Int32 → Option (Int32 × xS)) (S : xS) (h0 : Nat) (r1 : Option Nat) (v3 : Int32) (v4 : Int32) (v5 : Int32) (v6 : Int32) (v7 : Int32) : Option (Int32 × xS) := if (v4 < 64 : Prop) then ((dO Yc (gR S h0 1) 10).bind fun d2 => if (v6 = 0 : Prop) then (jX5_worked_89 k23 S h0 r1 v3 v4 v5 v7 v4 d2) else ((mX5_nameAt S h0 v7).bind fun q4 => jX5_worked_89 k23 q4.2 h0 r1 v3 v4 v5 q4.1 v4 d2)) else (some (0, S))
set_option maxHeartbeats 4000000 in
set_option maxRecDepth 100000 in
theorem wX5_worked_58 {p : Program} {l : Launch} {e : Env} {s : State} {m : MethodId} {args : Array Value} {below : List Frame} {meth : Method} {c : Code} {G : xG} {r : Int32} {S' : xS} (X : xX p s m args meth c cX5_worked 8 (some .int) RX5 G Yc) (k23 : xS → Nat → Option Nat → Int32 → Int32 → Int32 → Option (Int32 × xS)) (hh23 : ∀ (S : xS) (h0 : Nat) (r1 : Option Nat) (v3 : Int32) (v4 : Int32) (v5 : Int32) (H : Heap) (locs : List Loc) (ls : Array Slot), k23 S h0 r1 v3 v4 v5 = some (r, S') → xk Yc h0 = 5 → xP G Yc S H → va_S (xA G Yc) s.heap H locs → lv_has ls 8 [(0, .ref (xad G h0)), (1, va_rf (Option.map (xad G) r1)), (3, .int v3), (4, .int v4), (5, .int v5)] → W p l e (xr 1 24) s m args below meth c H locs 0 0 (MQ below (xQi G Yc r S') args s 0 0 (xA G Yc)) (F0 m 23 ls [])) : ∀ (S : xS) (h0 : Nat) (r1 : Option Nat) (v3 : Int32) (v4 : Int32) (v5 : Int32) (v6 : Int32) (v7 : Int32) (H : Heap) (locs : List Loc) (ls : Array Slot), jX5_worked_58 k23 S h0 r1 v3 v4 v5 v6 v7 = some (r, S') → xk Yc h0 = 5 → xP G Yc S H → va_S (xA G Yc) s.heap H locs → lv_has ls 8 [(0, .ref (xad G h0)), (1, va_rf (Option.map (xad G) r1)), (3, .int v3), (4, .int v4), (5, .int v5), (6, .int v6), (7, .int v7)] → W p l e (xr 1 24) s m args below meth c H locs 0 0 (MQ below (xQi G Yc r S') args s 0 0 (xA G Yc)) (F0 m 58 ls []) := by
  obtain ⟨hx, hb, hml, hown, hts, hr, hlk, hK, hE, hJ⟩ := id X
  intro S h0 r1 v3 v4 v5 v6 v7 H locs ls hM hk0 hP hS hl
  unfold jX5_worked_58 at hM
  refine lv_iload hx hb dX5_worked_58 (lv_at hl 3 rfl) ?_
  refine lv_bipush (v := 64) hx hb dX5_worked_60 (by decide) ?_
  refine lv_icmp_lt (tgt := 67) hx hb dX5_worked_62 (by decide) (fun c1 => ?_) (fun c1 => ?_)
  · replace hM := (if_pos c1).symm.trans hM
    refine lv_aload_n hx hb dX5_worked_67 rfl (lv_at hl 0 rfl) ?_
    obtain ⟨d2, ed2, hM⟩ := xb hM
    refine fdX5_1 X hP hk0 qw30 dX5_worked_68 ed2 ?_
    refine lv_iload hx hb dX5_worked_71 (lv_at hl 3 rfl) ?_
    refine lv_iload hx hb dX5_worked_73 (lv_at hl 5 rfl) ?_
    refine lv_if_ne (tgt := 83) hx hb dX5_worked_75 (by decide) (fun c3 => ?_) (fun c3 => ?_)
    · replace hM := (if_neg c3).symm.trans hM
      refine lv_aload_n hx hb dX5_worked_83 rfl (lv_at hl 0 rfl) ?_
      refine lv_iload hx hb dX5_worked_84 (lv_at hl 6 rfl) ?_
      obtain ⟨q4, eq4, hM⟩ := xb hM
      refine x_goi (x_runV (rest := [.int v4, .ref (xad G d2)]) X (kX5_nameAt l G S h0 v7 q4.1 q4.2 hk0 eq4) qw36 okX5_nameAt ⟨Nat.le_of_ble_eq_true rfl, Nat.le_of_ble_eq_true rfl⟩ hk0 (by decide) rfl hP hS rfl hl.1 rfl (Nat.le_of_ble_eq_true rfl) dX5_worked_86) hS (fun H locs hP hS => ?_)
      exact wX5_worked_89 X k23 hh23 q4.2 h0 r1 v3 v4 v5 q4.1 v4 d2 _ _ _ hM hk0 (dO_k ed2) hP hS (lv_sub hl [0, 1, 2, 3, 4] rfl)
    · replace hM := (if_pos c3).symm.trans hM
      refine lv_iload hx hb dX5_worked_78 (lv_at hl 6 rfl) ?_
      refine lv_goto (tgt := 89) hx hb dX5_worked_80 (by decide) ?_
      exact wX5_worked_89 X k23 hh23 S h0 r1 v3 v4 v5 v7 v4 d2 _ _ _ hM hk0 (dO_k ed2) hP hS (lv_sub hl [0, 1, 2, 3, 4] rfl)
  · replace hM := (if_neg c1).symm.trans hM
    refine lv_iconst (v := 0) hx hb dX5_worked_65 (by decide) ?_
    exact x_iret X hP hS hM dX5_worked_66
def lX5_worked_23 : Nat → xS → Nat → Option Nat → Int32 → Int32 → Int32 → Option (Int32 × xS)
  | 0, _, _, _, _, _, _ => none
  | n + 1, S, h0, r1, v3, v4, v5 => if (v3 ≤ v5 : Prop) then ((dO Yc (gR S h0 1) 10).bind fun d2 => (aI Yc S d2 0).bind fun x3 => some (x3, S)) else ((dO Yc r1 6).bind fun d4 => (dO Yc (gR S d4 0) 10).bind fun d5 => (aI Yc S d5 v5).bind fun x6 => (dO Yc r1 6).bind fun d7 => (dO Yc (gR S d7 1) 10).bind fun d8 => (aI Yc S d8 v5).bind fun x9 => if (x6 = 0 : Prop) then (jX5_worked_58 (lX5_worked_23  n) S h0 r1 v3 v4 v5 x6 x9) else (if (x6 = 1 : Prop) then (jX5_worked_58 (lX5_worked_23  n) S h0 r1 v3 v4 v5 x6 x9) else (if (x6 = 2 : Prop) then (xlet (if v5 < (x9 - 1) then (x9 - 1) else v5 : Int32) fun x38 => lX5_worked_23 n S h0 r1 v3 v4 (x38 + 1)) else (if (1 ≤ v4 : Prop) then (if (x6 = 3 : Prop) then ((dO Yc (gR S h0 1) 10).bind fun d34 => (aI Yc S d34 (v4 + (-1))).bind fun x35 => if (x35 = 0 : Prop) then (xlet (if v5 < (x9 - 1) then (x9 - 1) else v5 : Int32) fun x37 => lX5_worked_23 n S h0 r1 v3 (v4 + (-1)) (x37 + 1)) else (lX5_worked_23 n S h0 r1 v3 (v4 + (-1)) (v5 + 1))) else (if (x6 = 4 : Prop) then ((dO Yc (gR S h0 1) 10).bind fun d30 => (dO Yc (gR S h0 1) 10).bind fun d31 => (aI Yc S d31 (v4 - 1)).bind fun x32 => (sI Yc S d30 (v4 - 1) (-x32)).bind fun S33 => lX5_worked_23 n S33 h0 r1 v3 v4 (v5 + 1)) else (if (x6 = 5 : Prop) then ((dO Yc (gR S h0 1) 10).bind fun d26 => (dO Yc (gR S h0 1) 10).bind fun d27 => (aI Yc S d27 (v4 - 1)).bind fun x28 => (sI Yc S d26 (v4 - 1) (1 - x28)).bind fun S29 => lX5_worked_23 n S29 h0 r1 v3 v4 (v5 + 1)) else (if (2 ≤ v4 : Prop) then ((dO Yc (gR S h0 1) 10).bind fun d18 => (dO Yc (gR S h0 1) 10).bind fun d19 => (aI Yc S d19 ((v4 + (-1)) - 1)).bind fun x20 => (dO Yc (gR S h0 1) 10).bind fun d21 => (aI Yc S d21 (v4 + (-1))).bind fun x22 => (mX5_ofTwo S x6 ((x20 : Int32).toInt64) ((x22 : Int32).toInt64)).bind fun q23 => (mX5_held q23.2 q23.1).bind fun q24 => (sI Yc q24.2 d18 ((v4 + (-1)) - 1) q24.1).bind fun S25 => lX5_worked_23 n S25 h0 r1 v3 (v4 + (-1)) (v5 + 1)) else (some (0, S)))))) else (some (0, S))))))
set_option maxHeartbeats 4000000 in
set_option maxRecDepth 100000 in
theorem wX5_worked_23 {p : Program} {l : Launch} {e : Env} {s : State} {m : MethodId} {args : Array Value} {below : List Frame} {meth : Method} {c : Code} {G : xG} {r : Int32} {S' : xS} (X : xX p s m args meth c cX5_worked 8 (some .int) RX5 G Yc) : ∀ (n : Nat), ∀ (S : xS) (h0 : Nat) (r1 : Option Nat) (v3 : Int32) (v4 : Int32) (v5 : Int32) (H : Heap) (locs : List Loc) (ls : Array Slot), lX5_worked_23  n S h0 r1 v3 v4 v5 = some (r, S') → xk Yc h0 = 5 → xP G Yc S H → va_S (xA G Yc) s.heap H locs → lv_has ls 8 [(0, .ref (xad G h0)), (1, va_rf (Option.map (xad G) r1)), (3, .int v3), (4, .int v4), (5, .int v5)] → W p l e (xr 1 24) s m args below meth c H locs 0 0 (MQ below (xQi G Yc r S') args s 0 0 (xA G Yc)) (F0 m 23 ls []) := by
  obtain ⟨hx, hb, hml, hown, hts, hr, hlk, hK, hE, hJ⟩ := id X
  intro n
  induction n with
  | zero =>
    intro S h0 r1 v3 v4 v5 H locs ls hM
    rw [lX5_worked_23.eq_1] at hM
    cases hM
  | succ n ih =>
    intro S h0 r1 v3 v4 v5 H locs ls hM hk0 hP hS hl
    rw [lX5_worked_23.eq_2] at hM
    refine lv_iload hx hb dX5_worked_23 (lv_at hl 4 rfl) ?_
    refine lv_iload_n hx hb dX5_worked_25 rfl (lv_at hl 2 rfl) ?_
    refine lv_icmp_ge (tgt := 271) hx hb dX5_worked_26 (by decide) (fun c1 => ?_) (fun c1 => ?_)
    · replace hM := (if_pos c1).symm.trans hM
      refine lv_aload_n hx hb dX5_worked_271 rfl (lv_at hl 0 rfl) ?_
      obtain ⟨d2, ed2, hM⟩ := xb hM
      refine fdX5_1 X hP hk0 qw30 dX5_worked_272 ed2 ?_
      refine lv_iconst (v := 0) hx hb dX5_worked_275 (by decide) ?_
      obtain ⟨x3, ex3, hM⟩ := xb hM
      refine x_iald X hP (dO_k ed2) ex3 dX5_worked_276 ?_
      exact x_iret X hP hS hM dX5_worked_277
    · replace hM := (if_neg c1).symm.trans hM
      refine x_aloadR_n hx hb dX5_worked_29 rfl (lv_at hl 1 rfl) ?_
      obtain ⟨d4, ed4, hM⟩ := xb hM
      refine x_deref (dO_r ed4) ?_
      obtain ⟨d5, ed5, hM⟩ := xb hM
      refine fdX6_0 X hP (dO_k ed4) qw31 dX5_worked_30 ed5 ?_
      refine lv_iload hx hb dX5_worked_33 (lv_at hl 4 rfl) ?_
      obtain ⟨x6, ex6, hM⟩ := xb hM
      refine x_iald X hP (dO_k ed5) ex6 dX5_worked_35 ?_
      refine lv_istore (lv' := [(6, .int x6), (0, .ref (xad G h0)), (1, va_rf (Option.map (xad G) r1)), (3, .int v3), (4, .int v4), (5, .int v5)]) hx hb dX5_worked_36 hl (by decide) rfl (fun ls hl => ?_)
      refine x_aloadR_n hx hb dX5_worked_38 rfl (lv_at hl 2 rfl) ?_
      obtain ⟨d7, ed7, hM⟩ := xb hM
      refine x_deref (dO_r ed7) ?_
      obtain ⟨d8, ed8, hM⟩ := xb hM
      refine fdX6_1 X hP (dO_k ed7) qw32 dX5_worked_39 ed8 ?_
      refine lv_iload hx hb dX5_worked_42 (lv_at hl 5 rfl) ?_
      obtain ⟨x9, ex9, hM⟩ := xb hM
      refine x_iald X hP (dO_k ed8) ex9 dX5_worked_44 ?_
      refine lv_istore (lv' := [(7, .int x9), (6, .int x6), (0, .ref (xad G h0)), (1, va_rf (Option.map (xad G) r1)), (3, .int v3), (4, .int v4), (5, .int v5)]) hx hb dX5_worked_45 hl (by decide) rfl (fun ls hl => ?_)
      refine lv_iload hx hb dX5_worked_47 (lv_at hl 1 rfl) ?_
      refine lv_if_eq (tgt := 58) hx hb dX5_worked_49 (by decide) (fun c10 => ?_) (fun c10 => ?_)
      · replace hM := (if_pos c10).symm.trans hM
        exact wX5_worked_58 X (lX5_worked_23  n) ih S h0 r1 v3 v4 v5 x6 x9 _ _ _ hM hk0 hP hS (lv_sub hl [2, 3, 4, 5, 6, 1, 0] rfl)
      · replace hM := (if_neg c10).symm.trans hM
        refine lv_iload hx hb dX5_worked_52 (lv_at hl 1 rfl) ?_
        refine lv_iconst (v := 1) hx hb dX5_worked_54 (by decide) ?_
        refine lv_icmp_ne (tgt := 96) hx hb dX5_worked_55 (by decide) (fun c11 => ?_) (fun c11 => ?_)
        · replace hM := (if_neg c11).symm.trans hM
          refine lv_iload hx hb dX5_worked_96 (lv_at hl 1 rfl) ?_
          refine lv_iconst (v := 2) hx hb dX5_worked_98 (by decide) ?_
          refine lv_icmp_ne (tgt := 116) hx hb dX5_worked_99 (by decide) (fun c12 => ?_) (fun c12 => ?_)
          · replace hM := (if_neg c12).symm.trans hM
            refine lv_iload hx hb dX5_worked_116 (lv_at hl 5 rfl) ?_
            refine lv_iconst (v := 1) hx hb dX5_worked_118 (by decide) ?_
            refine lv_icmp_ge (tgt := 124) hx hb dX5_worked_119 (by decide) (fun c13 => ?_) (fun c13 => ?_)
            · replace hM := (if_pos c13).symm.trans hM
              refine lv_iload hx hb dX5_worked_124 (lv_at hl 1 rfl) ?_
              refine lv_iconst (v := 3) hx hb dX5_worked_126 (by decide) ?_
              refine lv_icmp_ne (tgt := 162) hx hb dX5_worked_127 (by decide) (fun c14 => ?_) (fun c14 => ?_)
              · replace hM := (if_neg c14).symm.trans hM
                refine lv_iload hx hb dX5_worked_162 (lv_at hl 1 rfl) ?_
                refine lv_iconst (v := 4) hx hb dX5_worked_164 (by decide) ?_
                refine lv_icmp_ne (tgt := 190) hx hb dX5_worked_165 (by decide) (fun c15 => ?_) (fun c15 => ?_)
                · replace hM := (if_neg c15).symm.trans hM
                  refine lv_iload hx hb dX5_worked_190 (lv_at hl 1 rfl) ?_
                  refine lv_iconst (v := 5) hx hb dX5_worked_192 (by decide) ?_
                  refine lv_icmp_ne (tgt := 219) hx hb dX5_worked_193 (by decide) (fun c16 => ?_) (fun c16 => ?_)
                  · replace hM := (if_neg c16).symm.trans hM
                    refine lv_iload hx hb dX5_worked_219 (lv_at hl 5 rfl) ?_
                    refine lv_iconst (v := 2) hx hb dX5_worked_221 (by decide) ?_
                    refine lv_icmp_ge (tgt := 227) hx hb dX5_worked_222 (by decide) (fun c17 => ?_) (fun c17 => ?_)
                    · replace hM := (if_pos c17).symm.trans hM
                      refine lv_iinc (v := v4 + (-1)) (lv' := [(4, .int (v4 + (-1))), (7, .int x9), (6, .int x6), (0, .ref (xad G h0)), (1, va_rf (Option.map (xad G) r1)), (3, .int v3), (5, .int v5)]) hx hb dX5_worked_227 hl (k := 5) rfl (by first | rfl | exact congrArg (fun z => v4 + z) (by decide)) (by decide) rfl (fun ls hl => ?_)
                      refine lv_aload_n hx hb dX5_worked_230 rfl (lv_at hl 3 rfl) ?_
                      obtain ⟨d18, ed18, hM⟩ := xb hM
                      refine fdX5_1 X hP hk0 qw30 dX5_worked_231 ed18 ?_
                      refine lv_iload hx hb dX5_worked_234 (lv_at hl 0 rfl) ?_
                      refine lv_iconst (v := 1) hx hb dX5_worked_236 (by decide) ?_
                      refine lv_isub hx hb dX5_worked_237 ?_
                      refine lv_iload hx hb dX5_worked_238 (lv_at hl 2 rfl) ?_
                      refine lv_aload_n hx hb dX5_worked_240 rfl (lv_at hl 3 rfl) ?_
                      obtain ⟨d19, ed19, hM⟩ := xb hM
                      refine fdX5_1 X hP hk0 qw30 dX5_worked_241 ed19 ?_
                      refine lv_iload hx hb dX5_worked_244 (lv_at hl 0 rfl) ?_
                      refine lv_iconst (v := 1) hx hb dX5_worked_246 (by decide) ?_
                      refine lv_isub hx hb dX5_worked_247 ?_
                      obtain ⟨x20, ex20, hM⟩ := xb hM
                      refine x_iald X hP (dO_k ed19) ex20 dX5_worked_248 ?_
                      refine lv_i2l hx hb dX5_worked_249 rfl ?_
                      refine lv_aload_n hx hb dX5_worked_250 rfl (lv_at hl 3 rfl) ?_
                      obtain ⟨d21, ed21, hM⟩ := xb hM
                      refine fdX5_1 X hP hk0 qw30 dX5_worked_251 ed21 ?_
                      refine lv_iload hx hb dX5_worked_254 (lv_at hl 0 rfl) ?_
                      obtain ⟨x22, ex22, hM⟩ := xb hM
                      refine x_iald X hP (dO_k ed21) ex22 dX5_worked_256 ?_
                      refine lv_i2l hx hb dX5_worked_257 rfl ?_
                      obtain ⟨q23, eq23, hM⟩ := xb hM
                      refine x_gol (x_runS (rest := [.int ((v4 + (-1)) - 1), .ref (xad G d18)]) X (kX5_ofTwo l G S x6 ((x20 : Int32).toInt64) ((x22 : Int32).toInt64) q23.1 q23.2  eq23) qw33 okX5_ofTwo ⟨Nat.le_of_ble_eq_true rfl, Nat.le_of_ble_eq_true rfl⟩ hP hS rfl hl.1 rfl (Nat.le_of_ble_eq_true rfl) dX5_worked_258) hS (fun H locs hP hS => ?_)
                      obtain ⟨q24, eq24, hM⟩ := xb hM
                      refine x_goi (x_runS (rest := [.int ((v4 + (-1)) - 1), .ref (xad G d18)]) X (kX5_held l G q23.2 q23.1 q24.1 q24.2  eq24) qw34 okX5_held ⟨Nat.le_of_ble_eq_true rfl, Nat.le_of_ble_eq_true rfl⟩ hP hS rfl hl.1 rfl (Nat.le_of_ble_eq_true rfl) dX5_worked_261) hS (fun H locs hP hS => ?_)
                      obtain ⟨S25, eS25, hM⟩ := xb hM
                      refine x_iast X hP hS (dO_k ed18) eS25 dX5_worked_264 (fun H locs hP hS => ?_)
                      refine lv_iinc (v := v5 + 1) (lv' := [(5, .int (v5 + 1)), (4, .int (v4 + (-1))), (7, .int x9), (6, .int x6), (0, .ref (xad G h0)), (1, va_rf (Option.map (xad G) r1)), (3, .int v3)]) hx hb dX5_worked_265 hl (k := 6) rfl (by first | rfl | exact congrArg (fun z => v5 + z) (by decide)) (by decide) rfl (fun ls hl => ?_)
                      refine lv_goto (tgt := 23) hx hb dX5_worked_268 (by decide) ?_
                      exact ih S25 h0 r1 v3 (v4 + (-1)) (v5 + 1) _ _ _ hM hk0 hP hS (lv_sub hl [4, 5, 6, 1, 0] rfl)
                    · replace hM := (if_neg c17).symm.trans hM
                      refine lv_iconst (v := 0) hx hb dX5_worked_225 (by decide) ?_
                      exact x_iret X hP hS hM dX5_worked_226
                  · replace hM := (if_pos c16).symm.trans hM
                    refine lv_aload_n hx hb dX5_worked_196 rfl (lv_at hl 2 rfl) ?_
                    obtain ⟨d26, ed26, hM⟩ := xb hM
                    refine fdX5_1 X hP hk0 qw30 dX5_worked_197 ed26 ?_
                    refine lv_iload hx hb dX5_worked_200 (lv_at hl 5 rfl) ?_
                    refine lv_iconst (v := 1) hx hb dX5_worked_202 (by decide) ?_
                    refine lv_isub hx hb dX5_worked_203 ?_
                    refine lv_iconst (v := 1) hx hb dX5_worked_204 (by decide) ?_
                    refine lv_aload_n hx hb dX5_worked_205 rfl (lv_at hl 2 rfl) ?_
                    obtain ⟨d27, ed27, hM⟩ := xb hM
                    refine fdX5_1 X hP hk0 qw30 dX5_worked_206 ed27 ?_
                    refine lv_iload hx hb dX5_worked_209 (lv_at hl 5 rfl) ?_
                    refine lv_iconst (v := 1) hx hb dX5_worked_211 (by decide) ?_
                    refine lv_isub hx hb dX5_worked_212 ?_
                    obtain ⟨x28, ex28, hM⟩ := xb hM
                    refine x_iald X hP (dO_k ed27) ex28 dX5_worked_213 ?_
                    refine lv_isub hx hb dX5_worked_214 ?_
                    obtain ⟨S29, eS29, hM⟩ := xb hM
                    refine x_iast X hP hS (dO_k ed26) eS29 dX5_worked_215 (fun H locs hP hS => ?_)
                    refine lv_goto (tgt := 265) hx hb dX5_worked_216 (by decide) ?_
                    refine lv_iinc (v := v5 + 1) (lv' := [(5, .int (v5 + 1)), (7, .int x9), (6, .int x6), (0, .ref (xad G h0)), (1, va_rf (Option.map (xad G) r1)), (3, .int v3), (4, .int v4)]) hx hb dX5_worked_265 hl (k := 6) rfl (by first | rfl | exact congrArg (fun z => v5 + z) (by decide)) (by decide) rfl (fun ls hl => ?_)
                    refine lv_goto (tgt := 23) hx hb dX5_worked_268 (by decide) ?_
                    exact ih S29 h0 r1 v3 v4 (v5 + 1) _ _ _ hM hk0 hP hS (lv_sub hl [3, 4, 5, 6, 0] rfl)
                · replace hM := (if_pos c15).symm.trans hM
                  refine lv_aload_n hx hb dX5_worked_168 rfl (lv_at hl 2 rfl) ?_
                  obtain ⟨d30, ed30, hM⟩ := xb hM
                  refine fdX5_1 X hP hk0 qw30 dX5_worked_169 ed30 ?_
                  refine lv_iload hx hb dX5_worked_172 (lv_at hl 5 rfl) ?_
                  refine lv_iconst (v := 1) hx hb dX5_worked_174 (by decide) ?_
                  refine lv_isub hx hb dX5_worked_175 ?_
                  refine lv_aload_n hx hb dX5_worked_176 rfl (lv_at hl 2 rfl) ?_
                  obtain ⟨d31, ed31, hM⟩ := xb hM
                  refine fdX5_1 X hP hk0 qw30 dX5_worked_177 ed31 ?_
                  refine lv_iload hx hb dX5_worked_180 (lv_at hl 5 rfl) ?_
                  refine lv_iconst (v := 1) hx hb dX5_worked_182 (by decide) ?_
                  refine lv_isub hx hb dX5_worked_183 ?_
                  obtain ⟨x32, ex32, hM⟩ := xb hM
                  refine x_iald X hP (dO_k ed31) ex32 dX5_worked_184 ?_
                  refine lv_ineg hx hb dX5_worked_185 ?_
                  obtain ⟨S33, eS33, hM⟩ := xb hM
                  refine x_iast X hP hS (dO_k ed30) eS33 dX5_worked_186 (fun H locs hP hS => ?_)
                  refine lv_goto (tgt := 265) hx hb dX5_worked_187 (by decide) ?_
                  refine lv_iinc (v := v5 + 1) (lv' := [(5, .int (v5 + 1)), (7, .int x9), (6, .int x6), (0, .ref (xad G h0)), (1, va_rf (Option.map (xad G) r1)), (3, .int v3), (4, .int v4)]) hx hb dX5_worked_265 hl (k := 6) rfl (by first | rfl | exact congrArg (fun z => v5 + z) (by decide)) (by decide) rfl (fun ls hl => ?_)
                  refine lv_goto (tgt := 23) hx hb dX5_worked_268 (by decide) ?_
                  exact ih S33 h0 r1 v3 v4 (v5 + 1) _ _ _ hM hk0 hP hS (lv_sub hl [3, 4, 5, 6, 0] rfl)
              · replace hM := (if_pos c14).symm.trans hM
                refine lv_iinc (v := v4 + (-1)) (lv' := [(4, .int (v4 + (-1))), (7, .int x9), (6, .int x6), (0, .ref (xad G h0)), (1, va_rf (Option.map (xad G) r1)), (3, .int v3), (5, .int v5)]) hx hb dX5_worked_130 hl (k := 5) rfl (by first | rfl | exact congrArg (fun z => v4 + z) (by decide)) (by decide) rfl (fun ls hl => ?_)
                refine lv_aload_n hx hb dX5_worked_133 rfl (lv_at hl 3 rfl) ?_
                obtain ⟨d34, ed34, hM⟩ := xb hM
                refine fdX5_1 X hP hk0 qw30 dX5_worked_134 ed34 ?_
                refine lv_iload hx hb dX5_worked_137 (lv_at hl 0 rfl) ?_
                obtain ⟨x35, ex35, hM⟩ := xb hM
                refine x_iald X hP (dO_k ed34) ex35 dX5_worked_139 ?_
                refine lv_if_ne (tgt := 155) hx hb dX5_worked_140 (by decide) (fun c36 => ?_) (fun c36 => ?_)
                · replace hM := (if_neg c36).symm.trans hM
                  refine lv_iload hx hb dX5_worked_155 (lv_at hl 6 rfl) ?_
                  refine lv_istore (lv' := [(5, .int v5), (4, .int (v4 + (-1))), (7, .int x9), (6, .int x6), (0, .ref (xad G h0)), (1, va_rf (Option.map (xad G) r1)), (3, .int v3)]) hx hb dX5_worked_157 hl (by decide) rfl (fun ls hl => ?_)
                  refine lv_goto (tgt := 265) hx hb dX5_worked_159 (by decide) ?_
                  refine lv_iinc (v := v5 + 1) (lv' := [(5, .int (v5 + 1)), (4, .int (v4 + (-1))), (7, .int x9), (6, .int x6), (0, .ref (xad G h0)), (1, va_rf (Option.map (xad G) r1)), (3, .int v3)]) hx hb dX5_worked_265 hl (k := 0) rfl (by first | rfl | exact congrArg (fun z => v5 + z) (by decide)) (by decide) rfl (fun ls hl => ?_)
                  refine lv_goto (tgt := 23) hx hb dX5_worked_268 (by decide) ?_
                  exact ih S h0 r1 v3 (v4 + (-1)) (v5 + 1) _ _ _ hM hk0 hP hS (lv_sub hl [4, 5, 6, 1, 0] rfl)
                · replace hM := (if_pos c36).symm.trans hM
                  refine lv_iload hx hb dX5_worked_143 (lv_at hl 6 rfl) ?_
                  refine lv_iload hx hb dX5_worked_145 (lv_at hl 1 rfl) ?_
                  refine lv_iconst (v := 1) hx hb dX5_worked_147 (by decide) ?_
                  refine lv_isub hx hb dX5_worked_148 ?_
                  refine x_mmax X qw35 xokMmax hl.1 (Nat.le_of_ble_eq_true rfl) (Nat.le_of_ble_eq_true rfl) dX5_worked_149 ?_
                  refine lv_goto (tgt := 157) hx hb dX5_worked_152 (by decide) ?_
                  obtain ⟨x37, ex37, hM⟩ := xlet_ex hM
                  refine x_topi ex37 ?_
                  refine lv_istore (lv' := [(5, .int x37), (4, .int (v4 + (-1))), (7, .int x9), (6, .int x6), (0, .ref (xad G h0)), (1, va_rf (Option.map (xad G) r1)), (3, .int v3)]) hx hb dX5_worked_157 hl (by decide) rfl (fun ls hl => ?_)
                  refine lv_goto (tgt := 265) hx hb dX5_worked_159 (by decide) ?_
                  refine lv_iinc (v := x37 + 1) (lv' := [(5, .int (x37 + 1)), (4, .int (v4 + (-1))), (7, .int x9), (6, .int x6), (0, .ref (xad G h0)), (1, va_rf (Option.map (xad G) r1)), (3, .int v3)]) hx hb dX5_worked_265 hl (k := 0) rfl (by first | rfl | exact congrArg (fun z => x37 + z) (by decide)) (by decide) rfl (fun ls hl => ?_)
                  refine lv_goto (tgt := 23) hx hb dX5_worked_268 (by decide) ?_
                  exact ih S h0 r1 v3 (v4 + (-1)) (x37 + 1) _ _ _ hM hk0 hP hS (lv_sub hl [4, 5, 6, 1, 0] rfl)
            · replace hM := (if_neg c13).symm.trans hM
              refine lv_iconst (v := 0) hx hb dX5_worked_122 (by decide) ?_
              exact x_iret X hP hS hM dX5_worked_123
          · replace hM := (if_pos c12).symm.trans hM
            refine lv_iload hx hb dX5_worked_102 (lv_at hl 6 rfl) ?_
            refine lv_iload hx hb dX5_worked_104 (lv_at hl 0 rfl) ?_
            refine lv_iconst (v := 1) hx hb dX5_worked_106 (by decide) ?_
            refine lv_isub hx hb dX5_worked_107 ?_
            refine x_mmax X qw35 xokMmax hl.1 (Nat.le_of_ble_eq_true rfl) (Nat.le_of_ble_eq_true rfl) dX5_worked_108 ?_
            obtain ⟨x38, ex38, hM⟩ := xlet_ex hM
            refine x_topi ex38 ?_
            refine lv_istore (lv' := [(5, .int x38), (7, .int x9), (6, .int x6), (0, .ref (xad G h0)), (1, va_rf (Option.map (xad G) r1)), (3, .int v3), (4, .int v4)]) hx hb dX5_worked_111 hl (by decide) rfl (fun ls hl => ?_)
            refine lv_goto (tgt := 265) hx hb dX5_worked_113 (by decide) ?_
            refine lv_iinc (v := x38 + 1) (lv' := [(5, .int (x38 + 1)), (7, .int x9), (6, .int x6), (0, .ref (xad G h0)), (1, va_rf (Option.map (xad G) r1)), (3, .int v3), (4, .int v4)]) hx hb dX5_worked_265 hl (k := 0) rfl (by first | rfl | exact congrArg (fun z => x38 + z) (by decide)) (by decide) rfl (fun ls hl => ?_)
            refine lv_goto (tgt := 23) hx hb dX5_worked_268 (by decide) ?_
            exact ih S h0 r1 v3 v4 (x38 + 1) _ _ _ hM hk0 hP hS (lv_sub hl [3, 4, 5, 6, 0] rfl)
        · replace hM := (if_pos c11).symm.trans hM
          exact wX5_worked_58 X (lX5_worked_23  n) ih S h0 r1 v3 v4 v5 x6 x9 _ _ _ hM hk0 hP hS (lv_sub hl [2, 3, 4, 5, 6, 1, 0] rfl)
def mX5_worked (S : xS) (h0 : Nat) (r1 : Option Nat) (p2 : Int32) (p3 : Int32) : Option (Int32 × xS) := if r1 = none then (some (0, S)) else (if (p2 < 0 : Prop) then (some (0, S)) else (if (p3 ≤ 300 : Prop) then (lX5_worked_23  5000 S h0 r1 p3 0 p2) else (some (0, S))))
set_option maxHeartbeats 4000000 in
set_option maxRecDepth 100000 in
theorem kX5_worked (l : Launch) (G : xG) (S : xS) (h0 : Nat) (r1 : Option Nat) (p2 : Int32) (p3 : Int32) (r : Int32) (S' : xS) (hk0 : xk Yc h0 = 5) (hM : mX5_worked S h0 r1 p2 p3 = some (r, S')) : xM l yX5_worked cX5_worked 8 (some .int) 1 24 G Yc [.ref (xad G h0), va_rf (Option.map (xad G) r1), .int p2, .int p3] S (xQi G Yc r S') := by
  refine x_start (own := RX5) (by decide +kernel) rfl (by cases r1 <;> exact Nat.le_of_ble_eq_true rfl) ?_
  intro p e s m below meth c ls X hl hP hS
  obtain ⟨hx, hb, hml, hown, hts, hr, hlk, hK, hE, hJ⟩ := id X
  have hl : lv_has ls 8 [(0, .ref (xad G h0)), (1, va_rf (Option.map (xad G) r1)), (2, .int p2), (3, .int p3)] := by cases r1 <;> exact hl
  unfold mX5_worked at hM
  refine x_aloadR_n hx hb dX5_worked_0 rfl (lv_at hl 1 rfl) ?_
  refine x_ifnull (tgt := 15) hx hb dX5_worked_1 (by decide) (fun c1 => ?_) (fun c1 => ?_)
  · replace hM := (if_pos c1).symm.trans hM
    refine lv_iconst (v := 0) hx hb dX5_worked_15 (by decide) ?_
    exact x_iret X hP hS hM dX5_worked_16
  · replace hM := (if_neg c1).symm.trans hM
    refine lv_iload_n hx hb dX5_worked_4 rfl (lv_at hl 2 rfl) ?_
    refine lv_if_lt (tgt := 15) hx hb dX5_worked_5 (by decide) (fun c2 => ?_) (fun c2 => ?_)
    · replace hM := (if_pos c2).symm.trans hM
      refine lv_iconst (v := 0) hx hb dX5_worked_15 (by decide) ?_
      exact x_iret X hP hS hM dX5_worked_16
    · replace hM := (if_neg c2).symm.trans hM
      refine lv_iload_n hx hb dX5_worked_8 rfl (lv_at hl 3 rfl) ?_
      refine lv_sipush (v := 300) hx hb dX5_worked_9 (by decide) ?_
      refine lv_icmp_le (tgt := 17) hx hb dX5_worked_12 (by decide) (fun c3 => ?_) (fun c3 => ?_)
      · replace hM := (if_pos c3).symm.trans hM
        refine lv_iconst (v := 0) hx hb dX5_worked_17 (by decide) ?_
        refine lv_istore (lv' := [(4, .int 0), (0, .ref (xad G h0)), (1, va_rf (Option.map (xad G) r1)), (2, .int p2), (3, .int p3)]) hx hb dX5_worked_18 hl (by decide) rfl (fun ls hl => ?_)
        refine lv_iload_n hx hb dX5_worked_20 rfl (lv_at hl 3 rfl) ?_
        refine lv_istore (lv' := [(5, .int p2), (4, .int 0), (0, .ref (xad G h0)), (1, va_rf (Option.map (xad G) r1)), (2, .int p2), (3, .int p3)]) hx hb dX5_worked_21 hl (by decide) rfl (fun ls hl => ?_)
        exact wX5_worked_23 X  5000 S h0 r1 p3 0 p2 _ _ _ hM hk0 hP hS (lv_sub hl [2, 3, 5, 1, 0] rfl)
      · replace hM := (if_neg c3).symm.trans hM
        refine lv_iconst (v := 0) hx hb dX5_worked_15 (by decide) ?_
        exact x_iret X hP hS hM dX5_worked_16

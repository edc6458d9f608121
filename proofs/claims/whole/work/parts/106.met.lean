def mX8_undo (S : xS) (h0 : Nat) : Option (Int32 × xS) := (dO Yc (gR S h0 0) 1).bind fun d1 => (mX1_takeBack S d1).bind fun q2 => some (q2.1, q2.2)
set_option maxHeartbeats 4000000 in
set_option maxRecDepth 100000 in
theorem kX8_undo (l : Launch) (G : xG) (S : xS) (h0 : Nat) (r : Int32) (S' : xS) (hk0 : xk Yc h0 = 8) (hM : mX8_undo S h0 = some (r, S')) : xM l yX8_undo cX8_undo 1 (some .int) 2 81 G Yc [.ref (xad G h0)] S (xQi G Yc r S') := by
  refine x_start (own := RX8) (by decide +kernel) rfl (Nat.le_of_ble_eq_true rfl) ?_
  intro p e s m below meth c ls X hl hP hS
  obtain ⟨hx, hb, hml, hown, hts, hr, hlk, hK, hE, hJ⟩ := id X
  have hl : lv_has ls 1 [(0, .ref (xad G h0))] := hl
  unfold mX8_undo at hM
  refine lv_aload_n hx hb dX8_undo_0 rfl (lv_at hl 0 rfl) ?_
  obtain ⟨d1, ed1, hM⟩ := xb hM
  refine fdX8_0 X hP hk0 qw169 dX8_undo_1 ed1 ?_
  obtain ⟨q2, eq2, hM⟩ := xb hM
  refine x_goi (x_runV (rest := []) X (kX1_takeBack l G S d1 q2.1 q2.2 (dO_k ed1) eq2) qw207 okX1_takeBack ⟨Nat.le_of_ble_eq_true rfl, Nat.le_of_ble_eq_true rfl⟩ (dO_k ed1) (by decide) rfl hP hS rfl hl.1 rfl (Nat.le_of_ble_eq_true rfl) dX8_undo_4) hS (fun H locs hP hS => ?_)
  exact x_iret X hP hS hM dX8_undo_7

def mX8_of (S : xS) (h0 : Nat) (p1 : Int32) (p2 : Int32) : Option (Int32 × xS) := (mX8_isTable S p1).bind fun q1 => if (q1.1 = 0 : Prop) then (some ((-1), q1.2)) else (if (p2 : Int32) = 0 then ((dO Yc (gR q1.2 h0 0) 1).bind fun d4 => (mX1_dayAt q1.2 p1).bind fun q5 => (mX1_get q5.2 d4 q5.1).bind fun q6 => some (q6.1, q6.2)) else (if (p2 : Int32) = 1 then ((dO Yc (gR q1.2 h0 0) 1).bind fun d8 => (mX1_leftAt q1.2 p1).bind fun q9 => (mX1_get q9.2 d8 q9.1).bind fun q10 => some (q10.1, q10.2)) else (if (p2 : Int32) = 2 then ((dO Yc (gR q1.2 h0 0) 1).bind fun d12 => (mX1_hiddenAt q1.2 p1).bind fun q13 => (mX1_get q13.2 d12 q13.1).bind fun q14 => some (q14.1, q14.2)) else (if (p2 : Int32) = 3 then ((dO Yc (gR q1.2 h0 0) 1).bind fun d16 => (mX1_sitters q1.2 d16 p1).bind fun q17 => some (q17.1, q17.2)) else (some ((-1), q1.2))))))
set_option maxHeartbeats 4000000 in
set_option maxRecDepth 100000 in
theorem kX8_of (l : Launch) (G : xG) (S : xS) (h0 : Nat) (p1 : Int32) (p2 : Int32) (r : Int32) (S' : xS) (hk0 : xk Yc h0 = 8) (hM : mX8_of S h0 p1 p2 = some (r, S')) : xM l yX8_of cX8_of 3 (some .int) 2 44 G Yc [.ref (xad G h0), .int p1, .int p2] S (xQi G Yc r S') := by
  refine x_start (own := RX8) (by decide +kernel) rfl (Nat.le_of_ble_eq_true rfl) ?_
  intro p e s m below meth c ls X hl hP hS
  obtain ⟨hx, hb, hml, hown, hts, hr, hlk, hK, hE, hJ⟩ := id X
  have hl : lv_has ls 3 [(0, .ref (xad G h0)), (1, .int p1), (2, .int p2)] := hl
  unfold mX8_of at hM
  refine lv_iload_n hx hb dX8_of_0 rfl (lv_at hl 1 rfl) ?_
  obtain ⟨q1, eq1, hM⟩ := xb hM
  refine x_goi (x_runS (rest := []) X (kX8_isTable l G S p1 q1.1 q1.2  eq1) qw187 okX8_isTable ⟨Nat.le_of_ble_eq_true rfl, Nat.le_of_ble_eq_true rfl⟩ hP hS rfl hl.1 rfl (Nat.le_of_ble_eq_true rfl) dX8_of_1) hS (fun H locs hP hS => ?_)
  refine lv_if_ne (tgt := 9) hx hb dX8_of_4 (by decide) (fun c2 => ?_) (fun c2 => ?_)
  · replace hM := (if_neg c2).symm.trans hM
    refine lv_iload_n hx hb dX8_of_9 rfl (lv_at hl 2 rfl) ?_
    by_cases c3 : p2 = 0
    · replace hM := (if_pos c3).symm.trans hM
      refine x_tabIn (tgt := 40) (off := 30) hx hb dX8_of_10 c3 (by decide) (by decide) (by decide) (by decide) ?_
      refine lv_aload_n hx hb dX8_of_40 rfl (lv_at hl 0 rfl) ?_
      obtain ⟨d4, ed4, hM⟩ := xb hM
      refine fdX8_0 X hP hk0 qw169 dX8_of_41 ed4 ?_
      refine lv_iload_n hx hb dX8_of_44 rfl (lv_at hl 1 rfl) ?_
      obtain ⟨q5, eq5, hM⟩ := xb hM
      refine x_goi (x_runS (rest := [.ref (xad G d4)]) X (kX1_dayAt l G q1.2 p1 q5.1 q5.2  eq5) qw208 okX1_dayAt ⟨Nat.le_of_ble_eq_true rfl, Nat.le_of_ble_eq_true rfl⟩ hP hS rfl hl.1 rfl (Nat.le_of_ble_eq_true rfl) dX8_of_45) hS (fun H locs hP hS => ?_)
      obtain ⟨q6, eq6, hM⟩ := xb hM
      refine x_goi (x_runV (rest := []) X (kX1_get l G q5.2 d4 q5.1 q6.1 q6.2 (dO_k ed4) eq6) qw189 okX1_get ⟨Nat.le_of_ble_eq_true rfl, Nat.le_of_ble_eq_true rfl⟩ (dO_k ed4) (by decide) rfl hP hS rfl hl.1 rfl (Nat.le_of_ble_eq_true rfl) dX8_of_48) hS (fun H locs hP hS => ?_)
      exact x_iret X hP hS hM dX8_of_51
    replace hM := (if_neg c3).symm.trans hM
    by_cases c7 : p2 = 1
    · replace hM := (if_pos c7).symm.trans hM
      refine x_tabIn (tgt := 52) (off := 42) hx hb dX8_of_10 c7 (by decide) (by decide) (by decide) (by decide) ?_
      refine lv_aload_n hx hb dX8_of_52 rfl (lv_at hl 0 rfl) ?_
      obtain ⟨d8, ed8, hM⟩ := xb hM
      refine fdX8_0 X hP hk0 qw169 dX8_of_53 ed8 ?_
      refine lv_iload_n hx hb dX8_of_56 rfl (lv_at hl 1 rfl) ?_
      obtain ⟨q9, eq9, hM⟩ := xb hM
      refine x_goi (x_runS (rest := [.ref (xad G d8)]) X (kX1_leftAt l G q1.2 p1 q9.1 q9.2  eq9) qw195 okX1_leftAt ⟨Nat.le_of_ble_eq_true rfl, Nat.le_of_ble_eq_true rfl⟩ hP hS rfl hl.1 rfl (Nat.le_of_ble_eq_true rfl) dX8_of_57) hS (fun H locs hP hS => ?_)
      obtain ⟨q10, eq10, hM⟩ := xb hM
      refine x_goi (x_runV (rest := []) X (kX1_get l G q9.2 d8 q9.1 q10.1 q10.2 (dO_k ed8) eq10) qw189 okX1_get ⟨Nat.le_of_ble_eq_true rfl, Nat.le_of_ble_eq_true rfl⟩ (dO_k ed8) (by decide) rfl hP hS rfl hl.1 rfl (Nat.le_of_ble_eq_true rfl) dX8_of_60) hS (fun H locs hP hS => ?_)
      exact x_iret X hP hS hM dX8_of_63
    replace hM := (if_neg c7).symm.trans hM
    by_cases c11 : p2 = 2
    · replace hM := (if_pos c11).symm.trans hM
      refine x_tabIn (tgt := 64) (off := 54) hx hb dX8_of_10 c11 (by decide) (by decide) (by decide) (by decide) ?_
      refine lv_aload_n hx hb dX8_of_64 rfl (lv_at hl 0 rfl) ?_
      obtain ⟨d12, ed12, hM⟩ := xb hM
      refine fdX8_0 X hP hk0 qw169 dX8_of_65 ed12 ?_
      refine lv_iload_n hx hb dX8_of_68 rfl (lv_at hl 1 rfl) ?_
      obtain ⟨q13, eq13, hM⟩ := xb hM
      refine x_goi (x_runS (rest := [.ref (xad G d12)]) X (kX1_hiddenAt l G q1.2 p1 q13.1 q13.2  eq13) qw196 okX1_hiddenAt ⟨Nat.le_of_ble_eq_true rfl, Nat.le_of_ble_eq_true rfl⟩ hP hS rfl hl.1 rfl (Nat.le_of_ble_eq_true rfl) dX8_of_69) hS (fun H locs hP hS => ?_)
      obtain ⟨q14, eq14, hM⟩ := xb hM
      refine x_goi (x_runV (rest := []) X (kX1_get l G q13.2 d12 q13.1 q14.1 q14.2 (dO_k ed12) eq14) qw189 okX1_get ⟨Nat.le_of_ble_eq_true rfl, Nat.le_of_ble_eq_true rfl⟩ (dO_k ed12) (by decide) rfl hP hS rfl hl.1 rfl (Nat.le_of_ble_eq_true rfl) dX8_of_72) hS (fun H locs hP hS => ?_)
      exact x_iret X hP hS hM dX8_of_75
    replace hM := (if_neg c11).symm.trans hM
    by_cases c15 : p2 = 3
    · replace hM := (if_pos c15).symm.trans hM
      refine x_tabIn (tgt := 76) (off := 66) hx hb dX8_of_10 c15 (by decide) (by decide) (by decide) (by decide) ?_
      refine lv_aload_n hx hb dX8_of_76 rfl (lv_at hl 0 rfl) ?_
      obtain ⟨d16, ed16, hM⟩ := xb hM
      refine fdX8_0 X hP hk0 qw169 dX8_of_77 ed16 ?_
      refine lv_iload_n hx hb dX8_of_80 rfl (lv_at hl 1 rfl) ?_
      obtain ⟨q17, eq17, hM⟩ := xb hM
      refine x_goi (x_runV (rest := []) X (kX1_sitters l G q1.2 d16 p1 q17.1 q17.2 (dO_k ed16) eq17) qw209 okX1_sitters ⟨Nat.le_of_ble_eq_true rfl, Nat.le_of_ble_eq_true rfl⟩ (dO_k ed16) (by decide) rfl hP hS rfl hl.1 rfl (Nat.le_of_ble_eq_true rfl) dX8_of_81) hS (fun H locs hP hS => ?_)
      exact x_iret X hP hS hM dX8_of_84
    replace hM := (if_neg c15).symm.trans hM
    have gc3 : ¬ (p2 : Int32).toInt = 0 := xne c3
    have gc7 : ¬ (p2 : Int32).toInt = 1 := xne c7
    have gc11 : ¬ (p2 : Int32).toInt = 2 := xne c11
    have gc15 : ¬ (p2 : Int32).toInt = 3 := xne c15
    refine lv_tableOut (tgt := 85) hx hb dX8_of_10 (by omega) (by decide) ?_
    refine lv_iconst (v := (-1)) hx hb dX8_of_85 (by decide) ?_
    exact x_iret X hP hS hM dX8_of_86
  · replace hM := (if_pos c2).symm.trans hM
    refine lv_iconst (v := (-1)) hx hb dX8_of_7 (by decide) ?_
    exact x_iret X hP hS hM dX8_of_8

def mX8_sisterOf (S : xS) (h0 : Nat) (p1 : Int32) (p2 : Int32) : Option (Int32 × xS) := (mX8_isSister S h0 p1).bind fun q1 => if (q1.1 = 0 : Prop) then (some ((-1), q1.2)) else (if (p2 : Int32) = 0 then ((dO Yc (gR q1.2 h0 0) 1).bind fun d4 => (mX1_appetiteOf q1.2 d4 p1).bind fun q5 => some (q5.1, q5.2)) else (if (p2 : Int32) = 1 then ((dO Yc (gR q1.2 h0 0) 1).bind fun d7 => (mX1_seatOf q1.2 d7 p1).bind fun q8 => some (q8.1, q8.2)) else (if (p2 : Int32) = 2 then ((dO Yc (gR q1.2 h0 3) 3).bind fun d10 => (mX3_wouldEat q1.2 d10 p1).bind fun q11 => some (q11.1, q11.2)) else (some ((-1), q1.2)))))
set_option maxHeartbeats 4000000 in
set_option maxRecDepth 100000 in
theorem kX8_sisterOf (l : Launch) (G : xG) (S : xS) (h0 : Nat) (p1 : Int32) (p2 : Int32) (r : Int32) (S' : xS) (hk0 : xk Yc h0 = 8) (hM : mX8_sisterOf S h0 p1 p2 = some (r, S')) : xM l yX8_sisterOf cX8_sisterOf 3 (some .int) 4 99 G Yc [.ref (xad G h0), .int p1, .int p2] S (xQi G Yc r S') := by
  refine x_start (own := RX8) (by decide +kernel) rfl (Nat.le_of_ble_eq_true rfl) ?_
  intro p e s m below meth c ls X hl hP hS
  obtain ⟨hx, hb, hml, hown, hts, hr, hlk, hK, hE, hJ⟩ := id X
  have hl : lv_has ls 3 [(0, .ref (xad G h0)), (1, .int p1), (2, .int p2)] := hl
  unfold mX8_sisterOf at hM
  refine lv_aload_n hx hb dX8_sisterOf_0 rfl (lv_at hl 0 rfl) ?_
  refine lv_iload_n hx hb dX8_sisterOf_1 rfl (lv_at hl 1 rfl) ?_
  obtain ⟨q1, eq1, hM⟩ := xb hM
  refine x_goi (x_runV (rest := []) X (kX8_isSister l G S h0 p1 q1.1 q1.2 hk0 eq1) qw192 okX8_isSister ⟨Nat.le_of_ble_eq_true rfl, Nat.le_of_ble_eq_true rfl⟩ hk0 (by decide) rfl hP hS rfl hl.1 rfl (Nat.le_of_ble_eq_true rfl) dX8_sisterOf_2) hS (fun H locs hP hS => ?_)
  refine lv_if_ne (tgt := 10) hx hb dX8_sisterOf_5 (by decide) (fun c2 => ?_) (fun c2 => ?_)
  · replace hM := (if_neg c2).symm.trans hM
    refine lv_iload_n hx hb dX8_sisterOf_10 rfl (lv_at hl 2 rfl) ?_
    by_cases c3 : p2 = 0
    · replace hM := (if_pos c3).symm.trans hM
      refine x_tabIn (tgt := 36) (off := 25) hx hb dX8_sisterOf_11 c3 (by decide) (by decide) (by decide) (by decide) ?_
      refine lv_aload_n hx hb dX8_sisterOf_36 rfl (lv_at hl 0 rfl) ?_
      obtain ⟨d4, ed4, hM⟩ := xb hM
      refine fdX8_0 X hP hk0 qw169 dX8_sisterOf_37 ed4 ?_
      refine lv_iload_n hx hb dX8_sisterOf_40 rfl (lv_at hl 1 rfl) ?_
      obtain ⟨q5, eq5, hM⟩ := xb hM
      refine x_goi (x_runV (rest := []) X (kX1_appetiteOf l G q1.2 d4 p1 q5.1 q5.2 (dO_k ed4) eq5) qw210 okX1_appetiteOf ⟨Nat.le_of_ble_eq_true rfl, Nat.le_of_ble_eq_true rfl⟩ (dO_k ed4) (by decide) rfl hP hS rfl hl.1 rfl (Nat.le_of_ble_eq_true rfl) dX8_sisterOf_41) hS (fun H locs hP hS => ?_)
      exact x_iret X hP hS hM dX8_sisterOf_44
    replace hM := (if_neg c3).symm.trans hM
    by_cases c6 : p2 = 1
    · replace hM := (if_pos c6).symm.trans hM
      refine x_tabIn (tgt := 45) (off := 34) hx hb dX8_sisterOf_11 c6 (by decide) (by decide) (by decide) (by decide) ?_
      refine lv_aload_n hx hb dX8_sisterOf_45 rfl (lv_at hl 0 rfl) ?_
      obtain ⟨d7, ed7, hM⟩ := xb hM
      refine fdX8_0 X hP hk0 qw169 dX8_sisterOf_46 ed7 ?_
      refine lv_iload_n hx hb dX8_sisterOf_49 rfl (lv_at hl 1 rfl) ?_
      obtain ⟨q8, eq8, hM⟩ := xb hM
      refine x_goi (x_runV (rest := []) X (kX1_seatOf l G q1.2 d7 p1 q8.1 q8.2 (dO_k ed7) eq8) qw193 okX1_seatOf ⟨Nat.le_of_ble_eq_true rfl, Nat.le_of_ble_eq_true rfl⟩ (dO_k ed7) (by decide) rfl hP hS rfl hl.1 rfl (Nat.le_of_ble_eq_true rfl) dX8_sisterOf_50) hS (fun H locs hP hS => ?_)
      exact x_iret X hP hS hM dX8_sisterOf_53
    replace hM := (if_neg c6).symm.trans hM
    by_cases c9 : p2 = 2
    · replace hM := (if_pos c9).symm.trans hM
      refine x_tabIn (tgt := 54) (off := 43) hx hb dX8_sisterOf_11 c9 (by decide) (by decide) (by decide) (by decide) ?_
      refine lv_aload_n hx hb dX8_sisterOf_54 rfl (lv_at hl 0 rfl) ?_
      obtain ⟨d10, ed10, hM⟩ := xb hM
      refine fdX8_3 X hP hk0 qw185 dX8_sisterOf_55 ed10 ?_
      refine lv_iload_n hx hb dX8_sisterOf_58 rfl (lv_at hl 1 rfl) ?_
      obtain ⟨q11, eq11, hM⟩ := xb hM
      refine x_goi (x_runV (rest := []) X (kX3_wouldEat l G q1.2 d10 p1 q11.1 q11.2 (dO_k ed10) eq11) qw211 okX3_wouldEat ⟨Nat.le_of_ble_eq_true rfl, Nat.le_of_ble_eq_true rfl⟩ (dO_k ed10) (by decide) rfl hP hS rfl hl.1 rfl (Nat.le_of_ble_eq_true rfl) dX8_sisterOf_59) hS (fun H locs hP hS => ?_)
      exact x_iret X hP hS hM dX8_sisterOf_62
    replace hM := (if_neg c9).symm.trans hM
    have gc3 : ¬ (p2 : Int32).toInt = 0 := xne c3
    have gc6 : ¬ (p2 : Int32).toInt = 1 := xne c6
    have gc9 : ¬ (p2 : Int32).toInt = 2 := xne c9
    refine lv_tableOut (tgt := 63) hx hb dX8_sisterOf_11 (by omega) (by decide) ?_
    refine lv_iconst (v := (-1)) hx hb dX8_sisterOf_63 (by decide) ?_
    exact x_iret X hP hS hM dX8_sisterOf_64
  · replace hM := (if_pos c2).symm.trans hM
    refine lv_iconst (v := (-1)) hx hb dX8_sisterOf_8 (by decide) ?_
    exact x_iret X hP hS hM dX8_sisterOf_9

def mX8_comes (S : xS) (h0 : Nat) (p1 : Int32) (p2 : Int32) (p3 : Int32) : Option (Int32 × xS) := (mX8_isTable S p1).bind fun q1 => if (q1.1 = 0 : Prop) then (some ((-1), q1.2)) else ((mX8_isDay q1.2 p2).bind fun q3 => if (q3.1 = 0 : Prop) then (some ((-1), q3.2)) else ((dO Yc (gR q3.2 h0 4) 2).bind fun d5 => (mX2_dawnsUntil q3.2 d5 p1 p2 p3).bind fun q6 => some (q6.1, q6.2)))
set_option maxHeartbeats 4000000 in
set_option maxRecDepth 100000 in
theorem kX8_comes (l : Launch) (G : xG) (S : xS) (h0 : Nat) (p1 : Int32) (p2 : Int32) (p3 : Int32) (r : Int32) (S' : xS) (hk0 : xk Yc h0 = 8) (hM : mX8_comes S h0 p1 p2 p3 = some (r, S')) : xM l yX8_comes cX8_comes 4 (some .int) 5 124 G Yc [.ref (xad G h0), .int p1, .int p2, .int p3] S (xQi G Yc r S') := by
  refine x_start (own := RX8) (by decide +kernel) rfl (Nat.le_of_ble_eq_true rfl) ?_
  intro p e s m below meth c ls X hl hP hS
  obtain ⟨hx, hb, hml, hown, hts, hr, hlk, hK, hE, hJ⟩ := id X
  have hl : lv_has ls 4 [(0, .ref (xad G h0)), (1, .int p1), (2, .int p2), (3, .int p3)] := hl
  unfold mX8_comes at hM
  refine lv_iload_n hx hb dX8_comes_0 rfl (lv_at hl 1 rfl) ?_
  obtain ⟨q1, eq1, hM⟩ := xb hM
  refine x_goi (x_runS (rest := []) X (kX8_isTable l G S p1 q1.1 q1.2  eq1) qw187 okX8_isTable ⟨Nat.le_of_ble_eq_true rfl, Nat.le_of_ble_eq_true rfl⟩ hP hS rfl hl.1 rfl (Nat.le_of_ble_eq_true rfl) dX8_comes_1) hS (fun H locs hP hS => ?_)
  refine lv_if_eq (tgt := 14) hx hb dX8_comes_4 (by decide) (fun c2 => ?_) (fun c2 => ?_)
  · replace hM := (if_pos c2).symm.trans hM
    refine lv_iconst (v := (-1)) hx hb dX8_comes_14 (by decide) ?_
    exact x_iret X hP hS hM dX8_comes_15
  · replace hM := (if_neg c2).symm.trans hM
    refine lv_iload_n hx hb dX8_comes_7 rfl (lv_at hl 2 rfl) ?_
    obtain ⟨q3, eq3, hM⟩ := xb hM
    refine x_goi (x_runS (rest := []) X (kX8_isDay l G q1.2 p2 q3.1 q3.2  eq3) qw188 okX8_isDay ⟨Nat.le_of_ble_eq_true rfl, Nat.le_of_ble_eq_true rfl⟩ hP hS rfl hl.1 rfl (Nat.le_of_ble_eq_true rfl) dX8_comes_8) hS (fun H locs hP hS => ?_)
    refine lv_if_ne (tgt := 16) hx hb dX8_comes_11 (by decide) (fun c4 => ?_) (fun c4 => ?_)
    · replace hM := (if_neg c4).symm.trans hM
      refine lv_aload_n hx hb dX8_comes_16 rfl (lv_at hl 0 rfl) ?_
      obtain ⟨d5, ed5, hM⟩ := xb hM
      refine fdX8_4 X hP hk0 qw212 dX8_comes_17 ed5 ?_
      refine lv_iload_n hx hb dX8_comes_20 rfl (lv_at hl 1 rfl) ?_
      refine lv_iload_n hx hb dX8_comes_21 rfl (lv_at hl 2 rfl) ?_
      refine lv_iload_n hx hb dX8_comes_22 rfl (lv_at hl 3 rfl) ?_
      obtain ⟨q6, eq6, hM⟩ := xb hM
      refine x_goi (x_runV (rest := []) X (kX2_dawnsUntil l G q3.2 d5 p1 p2 p3 q6.1 q6.2 (dO_k ed5) eq6) qw213 okX2_dawnsUntil ⟨Nat.le_of_ble_eq_true rfl, Nat.le_of_ble_eq_true rfl⟩ (dO_k ed5) (by decide) rfl hP hS rfl hl.1 rfl (Nat.le_of_ble_eq_true rfl) dX8_comes_23) hS (fun H locs hP hS => ?_)
      exact x_iret X hP hS hM dX8_comes_26
    · replace hM := (if_pos c4).symm.trans hM
      refine lv_iconst (v := (-1)) hx hb dX8_comes_14 (by decide) ?_
      exact x_iret X hP hS hM dX8_comes_15

def mX8_odds (S : xS) (h0 : Nat) (p1 : Int32) (p2 : Int32) (p3 : Int32) (p4 : Int32) : Option (Int64 × xS) := (mX8_isTable S p1).bind fun q1 => if (q1.1 = 0 : Prop) then (some ((-1), q1.2)) else ((mX8_isDay q1.2 p2).bind fun q3 => if (q3.1 = 0 : Prop) then (some ((-1), q3.2)) else (if (p3 < 0 : Prop) then (some ((-1), q3.2)) else (if (15 < p3 : Prop) then (some ((-1), q3.2)) else (if (p4 < 0 : Prop) then (some ((-1), q3.2)) else (if (p4 ≤ 1 : Prop) then ((dO Yc (gR q3.2 h0 4) 2).bind fun d9 => (mX2_weightOfDay q3.2 d9 p1 p2 p3).bind fun q10 => (mX2_powerOfTen q10.2 p3).bind fun q11 => (mX2_commonDivisor q11.2 q10.1 q11.1).bind fun q12 => if ((lg_cmp q12.1 0) = 0 : Prop) then (some ((-1), q12.2)) else (if (p4 = 0 : Prop) then ((if q12.1 = 0 then none else some (q10.1 / q12.1, q12.2))) else ((if q12.1 = 0 then none else some (q11.1 / q12.1, q12.2))))) else (some ((-1), q3.2)))))))
set_option maxHeartbeats 4000000 in
set_option maxRecDepth 100000 in
theorem kX8_odds (l : Launch) (G : xG) (S : xS) (h0 : Nat) (p1 : Int32) (p2 : Int32) (p3 : Int32) (p4 : Int32) (r : Int64) (S' : xS) (hk0 : xk Yc h0 = 8) (hM : mX8_odds S h0 p1 p2 p3 p4 = some (r, S')) : xM l yX8_odds cX8_odds 11 (some .long) 6 154 G Yc [.ref (xad G h0), .int p1, .int p2, .int p3, .int p4] S (xQl G Yc r S') := by
  refine x_start (own := RX8) (by decide +kernel) rfl (Nat.le_of_ble_eq_true rfl) ?_
  intro p e s m below meth c ls X hl hP hS
  obtain ⟨hx, hb, hml, hown, hts, hr, hlk, hK, hE, hJ⟩ := id X
  have hl : lv_has ls 11 [(0, .ref (xad G h0)), (1, .int p1), (2, .int p2), (3, .int p3), (4, .int p4)] := hl
  unfold mX8_odds at hM
  refine lv_iload_n hx hb dX8_odds_0 rfl (lv_at hl 1 rfl) ?_
  obtain ⟨q1, eq1, hM⟩ := xb hM
  refine x_goi (x_runS (rest := []) X (kX8_isTable l G S p1 q1.1 q1.2  eq1) qw187 okX8_isTable ⟨Nat.le_of_ble_eq_true rfl, Nat.le_of_ble_eq_true rfl⟩ hP hS rfl hl.1 rfl (Nat.le_of_ble_eq_true rfl) dX8_odds_1) hS (fun H locs hP hS => ?_)
  refine lv_if_eq (tgt := 35) hx hb dX8_odds_4 (by decide) (fun c2 => ?_) (fun c2 => ?_)
  · replace hM := (if_pos c2).symm.trans hM
    refine x_ldc2 X qw214 dX8_odds_35 ?_
    exact x_lret X hP hS hM dX8_odds_38
  · replace hM := (if_neg c2).symm.trans hM
    refine lv_iload_n hx hb dX8_odds_7 rfl (lv_at hl 2 rfl) ?_
    obtain ⟨q3, eq3, hM⟩ := xb hM
    refine x_goi (x_runS (rest := []) X (kX8_isDay l G q1.2 p2 q3.1 q3.2  eq3) qw188 okX8_isDay ⟨Nat.le_of_ble_eq_true rfl, Nat.le_of_ble_eq_true rfl⟩ hP hS rfl hl.1 rfl (Nat.le_of_ble_eq_true rfl) dX8_odds_8) hS (fun H locs hP hS => ?_)
    refine lv_if_eq (tgt := 35) hx hb dX8_odds_11 (by decide) (fun c4 => ?_) (fun c4 => ?_)
    · replace hM := (if_pos c4).symm.trans hM
      refine x_ldc2 X qw214 dX8_odds_35 ?_
      exact x_lret X hP hS hM dX8_odds_38
    · replace hM := (if_neg c4).symm.trans hM
      refine lv_iload_n hx hb dX8_odds_14 rfl (lv_at hl 3 rfl) ?_
      refine lv_if_lt (tgt := 35) hx hb dX8_odds_15 (by decide) (fun c5 => ?_) (fun c5 => ?_)
      · replace hM := (if_pos c5).symm.trans hM
        refine x_ldc2 X qw214 dX8_odds_35 ?_
        exact x_lret X hP hS hM dX8_odds_38
      · replace hM := (if_neg c5).symm.trans hM
        refine lv_iload_n hx hb dX8_odds_18 rfl (lv_at hl 3 rfl) ?_
        refine lv_bipush (v := 15) hx hb dX8_odds_19 (by decide) ?_
        refine lv_icmp_gt (tgt := 35) hx hb dX8_odds_21 (by decide) (fun c6 => ?_) (fun c6 => ?_)
        · replace hM := (if_pos c6).symm.trans hM
          refine x_ldc2 X qw214 dX8_odds_35 ?_
          exact x_lret X hP hS hM dX8_odds_38
        · replace hM := (if_neg c6).symm.trans hM
          refine lv_iload hx hb dX8_odds_24 (lv_at hl 4 rfl) ?_
          refine lv_if_lt (tgt := 35) hx hb dX8_odds_26 (by decide) (fun c7 => ?_) (fun c7 => ?_)
          · replace hM := (if_pos c7).symm.trans hM
            refine x_ldc2 X qw214 dX8_odds_35 ?_
            exact x_lret X hP hS hM dX8_odds_38
          · replace hM := (if_neg c7).symm.trans hM
            refine lv_iload hx hb dX8_odds_29 (lv_at hl 4 rfl) ?_
            refine lv_iconst (v := 1) hx hb dX8_odds_31 (by decide) ?_
            refine lv_icmp_le (tgt := 39) hx hb dX8_odds_32 (by decide) (fun c8 => ?_) (fun c8 => ?_)
            · replace hM := (if_pos c8).symm.trans hM
              refine lv_aload_n hx hb dX8_odds_39 rfl (lv_at hl 0 rfl) ?_
              obtain ⟨d9, ed9, hM⟩ := xb hM
              refine fdX8_4 X hP hk0 qw212 dX8_odds_40 ed9 ?_
              refine lv_iload_n hx hb dX8_odds_43 rfl (lv_at hl 1 rfl) ?_
              refine lv_iload_n hx hb dX8_odds_44 rfl (lv_at hl 2 rfl) ?_
              refine lv_iload_n hx hb dX8_odds_45 rfl (lv_at hl 3 rfl) ?_
              obtain ⟨q10, eq10, hM⟩ := xb hM
              refine x_gol (x_runV (rest := []) X (kX2_weightOfDay l G q3.2 d9 p1 p2 p3 q10.1 q10.2 (dO_k ed9) eq10) qw215 okX2_weightOfDay ⟨Nat.le_of_ble_eq_true rfl, Nat.le_of_ble_eq_true rfl⟩ (dO_k ed9) (by decide) rfl hP hS rfl hl.1 rfl (Nat.le_of_ble_eq_true rfl) dX8_odds_46) hS (fun H locs hP hS => ?_)
              refine lv_lstore (lv' := [(5, .long q10.1), (0, .ref (xad G h0)), (1, .int p1), (2, .int p2), (3, .int p3), (4, .int p4)]) hx hb dX8_odds_49 hl (by decide) rfl (fun ls hl => ?_)
              refine lv_iload_n hx hb dX8_odds_51 rfl (lv_at hl 4 rfl) ?_
              obtain ⟨q11, eq11, hM⟩ := xb hM
              refine x_gol (x_runS (rest := []) X (kX2_powerOfTen l G q10.2 p3 q11.1 q11.2  eq11) qw216 okX2_powerOfTen ⟨Nat.le_of_ble_eq_true rfl, Nat.le_of_ble_eq_true rfl⟩ hP hS rfl hl.1 rfl (Nat.le_of_ble_eq_true rfl) dX8_odds_52) hS (fun H locs hP hS => ?_)
              refine lv_lstore (lv' := [(7, .long q11.1), (5, .long q10.1), (0, .ref (xad G h0)), (1, .int p1), (2, .int p2), (3, .int p3), (4, .int p4)]) hx hb dX8_odds_55 hl (by decide) rfl (fun ls hl => ?_)
              refine lv_lload hx hb dX8_odds_57 (lv_at hl 1 rfl) ?_
              refine lv_lload hx hb dX8_odds_59 (lv_at hl 0 rfl) ?_
              obtain ⟨q12, eq12, hM⟩ := xb hM
              refine x_gol (x_runS (rest := []) X (kX2_commonDivisor l G q11.2 q10.1 q11.1 q12.1 q12.2  eq12) qw217 okX2_commonDivisor ⟨Nat.le_of_ble_eq_true rfl, Nat.le_of_ble_eq_true rfl⟩ hP hS rfl hl.1 rfl (Nat.le_of_ble_eq_true rfl) dX8_odds_61) hS (fun H locs hP hS => ?_)
              refine lv_lstore (lv' := [(9, .long q12.1), (7, .long q11.1), (5, .long q10.1), (0, .ref (xad G h0)), (1, .int p1), (2, .int p2), (3, .int p3), (4, .int p4)]) hx hb dX8_odds_64 hl (by decide) rfl (fun ls hl => ?_)
              refine lv_lload hx hb dX8_odds_66 (lv_at hl 0 rfl) ?_
              refine lv_lconst (v := 0) hx hb dX8_odds_68 (by decide) ?_
              refine W.lcmp hx hb dX8_odds_69 ?_
              refine lv_if_ne (tgt := 77) hx hb dX8_odds_70 (by decide) (fun c13 => ?_) (fun c13 => ?_)
              · replace hM := (if_neg c13).symm.trans hM
                refine lv_iload hx hb dX8_odds_77 (lv_at hl 7 rfl) ?_
                refine lv_if_ne (tgt := 90) hx hb dX8_odds_79 (by decide) (fun c14 => ?_) (fun c14 => ?_)
                · replace hM := (if_neg c14).symm.trans hM
                  refine lv_lload hx hb dX8_odds_90 (lv_at hl 1 rfl) ?_
                  refine lv_lload hx hb dX8_odds_92 (lv_at hl 0 rfl) ?_
                  by_cases ec15 : q12.1 = 0
                  · replace hM := (if_pos ec15).symm.trans hM; cases hM
                  replace hM := (if_neg ec15).symm.trans hM
                  refine lv_ldiv hx hb dX8_odds_94 ec15 ?_
                  exact x_lret X hP hS hM dX8_odds_95
                · replace hM := (if_pos c14).symm.trans hM
                  refine lv_lload hx hb dX8_odds_82 (lv_at hl 2 rfl) ?_
                  refine lv_lload hx hb dX8_odds_84 (lv_at hl 0 rfl) ?_
                  by_cases ec16 : q12.1 = 0
                  · replace hM := (if_pos ec16).symm.trans hM; cases hM
                  replace hM := (if_neg ec16).symm.trans hM
                  refine lv_ldiv hx hb dX8_odds_86 ec16 ?_
                  refine lv_goto (tgt := 95) hx hb dX8_odds_87 (by decide) ?_
                  exact x_lret X hP hS hM dX8_odds_95
              · replace hM := (if_pos c13).symm.trans hM
                refine x_ldc2 X qw214 dX8_odds_73 ?_
                exact x_lret X hP hS hM dX8_odds_76
            · replace hM := (if_neg c8).symm.trans hM
              refine x_ldc2 X qw214 dX8_odds_35 ?_
              exact x_lret X hP hS hM dX8_odds_38

def mX8_apart (S : xS) (h0 : Nat) (p1 : Int32) : Option (Int32 × xS) := if (p1 < 0 : Prop) then (some ((-1000), S)) else (if (p1 ≤ 60 : Prop) then ((dO Yc (gR S h0 4) 2).bind fun d3 => (mX2_dayAfter S d3 0 p1).bind fun q4 => (dO Yc (gR q4.2 h0 4) 2).bind fun d5 => (mX2_dayAfter q4.2 d5 1 p1).bind fun q6 => some (q4.1 - q6.1, q6.2)) else (some ((-1000), S)))
set_option maxHeartbeats 4000000 in
set_option maxRecDepth 100000 in
theorem kX8_apart (l : Launch) (G : xG) (S : xS) (h0 : Nat) (p1 : Int32) (r : Int32) (S' : xS) (hk0 : xk Yc h0 = 8) (hM : mX8_apart S h0 p1 = some (r, S')) : xM l yX8_apart cX8_apart 2 (some .int) 5 123 G Yc [.ref (xad G h0), .int p1] S (xQi G Yc r S') := by
  refine x_start (own := RX8) (by decide +kernel) rfl (Nat.le_of_ble_eq_true rfl) ?_
  intro p e s m below meth c ls X hl hP hS
  obtain ⟨hx, hb, hml, hown, hts, hr, hlk, hK, hE, hJ⟩ := id X
  have hl : lv_has ls 2 [(0, .ref (xad G h0)), (1, .int p1)] := hl
  unfold mX8_apart at hM
  refine lv_iload_n hx hb dX8_apart_0 rfl (lv_at hl 1 rfl) ?_
  refine lv_if_lt (tgt := 10) hx hb dX8_apart_1 (by decide) (fun c1 => ?_) (fun c1 => ?_)
  · replace hM := (if_pos c1).symm.trans hM
    refine lv_sipush (v := (-1000)) hx hb dX8_apart_10 (by decide) ?_
    exact x_iret X hP hS hM dX8_apart_13
  · replace hM := (if_neg c1).symm.trans hM
    refine lv_iload_n hx hb dX8_apart_4 rfl (lv_at hl 1 rfl) ?_
    refine lv_bipush (v := 60) hx hb dX8_apart_5 (by decide) ?_
    refine lv_icmp_le (tgt := 14) hx hb dX8_apart_7 (by decide) (fun c2 => ?_) (fun c2 => ?_)
    · replace hM := (if_pos c2).symm.trans hM
      refine lv_aload_n hx hb dX8_apart_14 rfl (lv_at hl 0 rfl) ?_
      obtain ⟨d3, ed3, hM⟩ := xb hM
      refine fdX8_4 X hP hk0 qw212 dX8_apart_15 ed3 ?_
      refine lv_iconst (v := 0) hx hb dX8_apart_18 (by decide) ?_
      refine lv_iload_n hx hb dX8_apart_19 rfl (lv_at hl 1 rfl) ?_
      obtain ⟨q4, eq4, hM⟩ := xb hM
      refine x_goi (x_runV (rest := []) X (kX2_dayAfter l G S d3 0 p1 q4.1 q4.2 (dO_k ed3) eq4) qw218 okX2_dayAfter ⟨Nat.le_of_ble_eq_true rfl, Nat.le_of_ble_eq_true rfl⟩ (dO_k ed3) (by decide) rfl hP hS rfl hl.1 rfl (Nat.le_of_ble_eq_true rfl) dX8_apart_20) hS (fun H locs hP hS => ?_)
      refine lv_aload_n hx hb dX8_apart_23 rfl (lv_at hl 0 rfl) ?_
      obtain ⟨d5, ed5, hM⟩ := xb hM
      refine fdX8_4 X hP hk0 qw212 dX8_apart_24 ed5 ?_
      refine lv_iconst (v := 1) hx hb dX8_apart_27 (by decide) ?_
      refine lv_iload_n hx hb dX8_apart_28 rfl (lv_at hl 1 rfl) ?_
      obtain ⟨q6, eq6, hM⟩ := xb hM
      refine x_goi (x_runV (rest := [.int q4.1]) X (kX2_dayAfter l G q4.2 d5 1 p1 q6.1 q6.2 (dO_k ed5) eq6) qw218 okX2_dayAfter ⟨Nat.le_of_ble_eq_true rfl, Nat.le_of_ble_eq_true rfl⟩ (dO_k ed5) (by decide) rfl hP hS rfl hl.1 rfl (Nat.le_of_ble_eq_true rfl) dX8_apart_29) hS (fun H locs hP hS => ?_)
      refine lv_isub hx hb dX8_apart_32 ?_
      exact x_iret X hP hS hM dX8_apart_33
    · replace hM := (if_neg c2).symm.trans hM
      refine lv_sipush (v := (-1000)) hx hb dX8_apart_10 (by decide) ?_
      exact x_iret X hP hS hM dX8_apart_13

def lX8_flour_45 : Nat → xS → Nat → Int32 → Int32 → Int32 → Int32 → Int32 → Option (Int32 × xS)
  | 0, _, _, _, _, _, _, _ => none
  | n + 1, S, h0, v1, v3, v4, v5, v6 => if (v3 < v6 : Prop) then (some (v5, S)) else ((dO Yc (gR S h0 3) 3).bind fun d2 => (mX3_slicesAt S d2 v1 v6 v4).bind fun q3 => lX8_flour_45 n q3.2 h0 v1 v3 v4 (v5 + q3.1) (v6 + 1))
set_option maxHeartbeats 4000000 in
set_option maxRecDepth 100000 in
theorem wX8_flour_45 {p : Program} {l : Launch} {e : Env} {s : State} {m : MethodId} {args : Array Value} {below : List Frame} {meth : Method} {c : Code} {G : xG} {r : Int32} {S' : xS} (X : xX p s m args meth c cX8_flour 7 (some .int) RX8 G Yc) : ∀ (n : Nat), ∀ (S : xS) (h0 : Nat) (v1 : Int32) (v3 : Int32) (v4 : Int32) (v5 : Int32) (v6 : Int32) (H : Heap) (locs : List Loc) (ls : Array Slot), lX8_flour_45  n S h0 v1 v3 v4 v5 v6 = some (r, S') → xk Yc h0 = 8 → xP G Yc S H → va_S (xA G Yc) s.heap H locs → lv_has ls 7 [(0, .ref (xad G h0)), (1, .int v1), (3, .int v3), (4, .int v4), (5, .int v5), (6, .int v6)] → W p l e (xr 3 74) s m args below meth c H locs 0 0 (MQ below (xQi G Yc r S') args s 0 0 (xA G Yc)) (F0 m 45 ls []) := by
  obtain ⟨hx, hb, hml, hown, hts, hr, hlk, hK, hE, hJ⟩ := id X
  intro n
  induction n with
  | zero =>
    intro S h0 v1 v3 v4 v5 v6 H locs ls hM
    rw [lX8_flour_45.eq_1] at hM
    cases hM
  | succ n ih =>
    intro S h0 v1 v3 v4 v5 v6 H locs ls hM hk0 hP hS hl
    rw [lX8_flour_45.eq_2] at hM
    refine lv_iload hx hb dX8_flour_45 (lv_at hl 5 rfl) ?_
    refine lv_iload_n hx hb dX8_flour_47 rfl (lv_at hl 2 rfl) ?_
    refine lv_icmp_gt (tgt := 74) hx hb dX8_flour_48 (by decide) (fun c1 => ?_) (fun c1 => ?_)
    · replace hM := (if_pos c1).symm.trans hM
      refine lv_iload hx hb dX8_flour_74 (lv_at hl 4 rfl) ?_
      exact x_iret X hP hS hM dX8_flour_76
    · replace hM := (if_neg c1).symm.trans hM
      refine lv_iload hx hb dX8_flour_51 (lv_at hl 4 rfl) ?_
      refine lv_aload_n hx hb dX8_flour_53 rfl (lv_at hl 0 rfl) ?_
      obtain ⟨d2, ed2, hM⟩ := xb hM
      refine fdX8_3 X hP hk0 qw185 dX8_flour_54 ed2 ?_
      refine lv_iload_n hx hb dX8_flour_57 rfl (lv_at hl 1 rfl) ?_
      refine lv_iload hx hb dX8_flour_58 (lv_at hl 5 rfl) ?_
      refine lv_iload hx hb dX8_flour_60 (lv_at hl 3 rfl) ?_
      obtain ⟨q3, eq3, hM⟩ := xb hM
      refine x_goi (x_runV (rest := [.int v5]) X (kX3_slicesAt l G S d2 v1 v6 v4 q3.1 q3.2 (dO_k ed2) eq3) qw190 okX3_slicesAt ⟨Nat.le_of_ble_eq_true rfl, Nat.le_of_ble_eq_true rfl⟩ (dO_k ed2) (by decide) rfl hP hS rfl hl.1 rfl (Nat.le_of_ble_eq_true rfl) dX8_flour_62) hS (fun H locs hP hS => ?_)
      refine lv_iadd hx hb dX8_flour_65 ?_
      refine lv_istore (lv' := [(5, .int (v5 + q3.1)), (0, .ref (xad G h0)), (1, .int v1), (3, .int v3), (4, .int v4), (6, .int v6)]) hx hb dX8_flour_66 hl (by decide) rfl (fun ls hl => ?_)
      refine lv_iinc (v := v6 + 1) (lv' := [(6, .int (v6 + 1)), (5, .int (v5 + q3.1)), (0, .ref (xad G h0)), (1, .int v1), (3, .int v3), (4, .int v4)]) hx hb dX8_flour_68 hl (k := 5) rfl (by first | rfl | exact congrArg (fun z => v6 + z) (by decide)) (by decide) rfl (fun ls hl => ?_)
      refine lv_goto (tgt := 45) hx hb dX8_flour_71 (by decide) ?_
      exact ih q3.2 h0 v1 v3 v4 (v5 + q3.1) (v6 + 1) _ _ _ hM hk0 hP hS (lv_sub hl [2, 3, 4, 5, 1, 0] rfl)
def mX8_flour (S : xS) (h0 : Nat) (p1 : Int32) (p2 : Int32) (p3 : Int32) : Option (Int32 × xS) := (mX8_isTable S p1).bind fun q1 => if (q1.1 = 0 : Prop) then (some ((-1), q1.2)) else ((mX8_isDay q1.2 p2).bind fun q3 => if (q3.1 = 0 : Prop) then (some ((-1), q3.2)) else ((mX8_isDay q3.2 p3).bind fun q5 => if (q5.1 = 0 : Prop) then (some ((-1), q5.2)) else (if (p2 ≤ p3 : Prop) then ((dO Yc (gR q5.2 h0 0) 1).bind fun d8 => (mX1_get q5.2 d8 12).bind fun q9 => lX8_flour_45  5000 q9.2 h0 p1 p3 q9.1 0 p2) else (some ((-1), q5.2)))))
set_option maxHeartbeats 4000000 in
set_option maxRecDepth 100000 in
theorem kX8_flour (l : Launch) (G : xG) (S : xS) (h0 : Nat) (p1 : Int32) (p2 : Int32) (p3 : Int32) (r : Int32) (S' : xS) (hk0 : xk Yc h0 = 8) (hM : mX8_flour S h0 p1 p2 p3 = some (r, S')) : xM l yX8_flour cX8_flour 7 (some .int) 3 74 G Yc [.ref (xad G h0), .int p1, .int p2, .int p3] S (xQi G Yc r S') := by
  refine x_start (own := RX8) (by decide +kernel) rfl (Nat.le_of_ble_eq_true rfl) ?_
  intro p e s m below meth c ls X hl hP hS
  obtain ⟨hx, hb, hml, hown, hts, hr, hlk, hK, hE, hJ⟩ := id X
  have hl : lv_has ls 7 [(0, .ref (xad G h0)), (1, .int p1), (2, .int p2), (3, .int p3)] := hl
  unfold mX8_flour at hM
  refine lv_iload_n hx hb dX8_flour_0 rfl (lv_at hl 1 rfl) ?_
  obtain ⟨q1, eq1, hM⟩ := xb hM
  refine x_goi (x_runS (rest := []) X (kX8_isTable l G S p1 q1.1 q1.2  eq1) qw187 okX8_isTable ⟨Nat.le_of_ble_eq_true rfl, Nat.le_of_ble_eq_true rfl⟩ hP hS rfl hl.1 rfl (Nat.le_of_ble_eq_true rfl) dX8_flour_1) hS (fun H locs hP hS => ?_)
  refine lv_if_eq (tgt := 26) hx hb dX8_flour_4 (by decide) (fun c2 => ?_) (fun c2 => ?_)
  · replace hM := (if_pos c2).symm.trans hM
    refine lv_iconst (v := (-1)) hx hb dX8_flour_26 (by decide) ?_
    exact x_iret X hP hS hM dX8_flour_27
  · replace hM := (if_neg c2).symm.trans hM
    refine lv_iload_n hx hb dX8_flour_7 rfl (lv_at hl 2 rfl) ?_
    obtain ⟨q3, eq3, hM⟩ := xb hM
    refine x_goi (x_runS (rest := []) X (kX8_isDay l G q1.2 p2 q3.1 q3.2  eq3) qw188 okX8_isDay ⟨Nat.le_of_ble_eq_true rfl, Nat.le_of_ble_eq_true rfl⟩ hP hS rfl hl.1 rfl (Nat.le_of_ble_eq_true rfl) dX8_flour_8) hS (fun H locs hP hS => ?_)
    refine lv_if_eq (tgt := 26) hx hb dX8_flour_11 (by decide) (fun c4 => ?_) (fun c4 => ?_)
    · replace hM := (if_pos c4).symm.trans hM
      refine lv_iconst (v := (-1)) hx hb dX8_flour_26 (by decide) ?_
      exact x_iret X hP hS hM dX8_flour_27
    · replace hM := (if_neg c4).symm.trans hM
      refine lv_iload_n hx hb dX8_flour_14 rfl (lv_at hl 3 rfl) ?_
      obtain ⟨q5, eq5, hM⟩ := xb hM
      refine x_goi (x_runS (rest := []) X (kX8_isDay l G q3.2 p3 q5.1 q5.2  eq5) qw188 okX8_isDay ⟨Nat.le_of_ble_eq_true rfl, Nat.le_of_ble_eq_true rfl⟩ hP hS rfl hl.1 rfl (Nat.le_of_ble_eq_true rfl) dX8_flour_15) hS (fun H locs hP hS => ?_)
      refine lv_if_eq (tgt := 26) hx hb dX8_flour_18 (by decide) (fun c6 => ?_) (fun c6 => ?_)
      · replace hM := (if_pos c6).symm.trans hM
        refine lv_iconst (v := (-1)) hx hb dX8_flour_26 (by decide) ?_
        exact x_iret X hP hS hM dX8_flour_27
      · replace hM := (if_neg c6).symm.trans hM
        refine lv_iload_n hx hb dX8_flour_21 rfl (lv_at hl 2 rfl) ?_
        refine lv_iload_n hx hb dX8_flour_22 rfl (lv_at hl 3 rfl) ?_
        refine lv_icmp_le (tgt := 28) hx hb dX8_flour_23 (by decide) (fun c7 => ?_) (fun c7 => ?_)
        · replace hM := (if_pos c7).symm.trans hM
          refine lv_aload_n hx hb dX8_flour_28 rfl (lv_at hl 0 rfl) ?_
          obtain ⟨d8, ed8, hM⟩ := xb hM
          refine fdX8_0 X hP hk0 qw169 dX8_flour_29 ed8 ?_
          refine lv_bipush (v := 12) hx hb dX8_flour_32 (by decide) ?_
          obtain ⟨q9, eq9, hM⟩ := xb hM
          refine x_goi (x_runV (rest := []) X (kX1_get l G q5.2 d8 12 q9.1 q9.2 (dO_k ed8) eq9) qw189 okX1_get ⟨Nat.le_of_ble_eq_true rfl, Nat.le_of_ble_eq_true rfl⟩ (dO_k ed8) (by decide) rfl hP hS rfl hl.1 rfl (Nat.le_of_ble_eq_true rfl) dX8_flour_34) hS (fun H locs hP hS => ?_)
          refine lv_istore (lv' := [(4, .int q9.1), (0, .ref (xad G h0)), (1, .int p1), (2, .int p2), (3, .int p3)]) hx hb dX8_flour_37 hl (by decide) rfl (fun ls hl => ?_)
          refine lv_iconst (v := 0) hx hb dX8_flour_39 (by decide) ?_
          refine lv_istore (lv' := [(5, .int 0), (4, .int q9.1), (0, .ref (xad G h0)), (1, .int p1), (2, .int p2), (3, .int p3)]) hx hb dX8_flour_40 hl (by decide) rfl (fun ls hl => ?_)
          refine lv_iload_n hx hb dX8_flour_42 rfl (lv_at hl 4 rfl) ?_
          refine lv_istore (lv' := [(6, .int p2), (5, .int 0), (4, .int q9.1), (0, .ref (xad G h0)), (1, .int p1), (2, .int p2), (3, .int p3)]) hx hb dX8_flour_43 hl (by decide) rfl (fun ls hl => ?_)
          exact wX8_flour_45 X  5000 q9.2 h0 p1 p3 q9.1 0 p2 _ _ _ hM hk0 hP hS (lv_sub hl [3, 4, 6, 2, 1, 0] rfl)
        · replace hM := (if_neg c7).symm.trans hM
          refine lv_iconst (v := (-1)) hx hb dX8_flour_26 (by decide) ?_
          exact x_iret X hP hS hM dX8_flour_27

def jX8_saint_44 (S : xS) (h0 : Nat) (v1 : Int32) (v2 : Int32) (v3 : Int32) (v4 : Int32) : Option (Int32 × xS) := (dO Yc (gR S h0 4) 2).bind fun d1 => (mX2_fewestChanges S d1 v1 v2 v3).bind fun q2 => if (q2.1 = (-1) : Prop) then (some (q2.1, q2.2)) else (if (v4 = (-1) : Prop) then (some (q2.1, q2.2)) else ((dO Yc (gR q2.2 h0 4) 2).bind fun d5 => (mX2_bestSeat q2.2 d5 v4).bind fun q6 => some (q6.1, q6.2)))
set_option maxHeartbeats 4000000 in
set_option maxRecDepth 100000 in
theorem wX8_saint_44 {p : Program} {l : Launch} {e : Env} {s : State} {m : MethodId} {args : Array Value} {below : List Frame} {meth : Method} {c : Code} {G : xG} {r : Int32} {S' : xS} (X : xX p s m args meth c cX8_saint 6 (some .int) RX8 G Yc) : ∀ (S : xS) (h0 : Nat) (v1 : Int32) (v2 : Int32) (v3 : Int32) (v4 : Int32) (H : Heap) (locs : List Loc) (ls : Array Slot), jX8_saint_44  S h0 v1 v2 v3 v4 = some (r, S') → xk Yc h0 = 8 → xP G Yc S H → va_S (xA G Yc) s.heap H locs → lv_has ls 6 [(0, .ref (xad G h0)), (1, .int v1), (2, .int v2), (3, .int v3), (4, .int v4)] → W p l e (xr 6 152) s m args below meth c H locs 0 0 (MQ below (xQi G Yc r S') args s 0 0 (xA G Yc)) (F0 m 44 ls []) := by
  obtain ⟨hx, hb, hml, hown, hts, hr, hlk, hK, hE, hJ⟩ := id X
  intro S h0 v1 v2 v3 v4 H locs ls hM hk0 hP hS hl
  unfold jX8_saint_44 at hM
  refine lv_aload_n hx hb dX8_saint_44 rfl (lv_at hl 0 rfl) ?_
  obtain ⟨d1, ed1, hM⟩ := xb hM
  refine fdX8_4 X hP hk0 qw212 dX8_saint_45 ed1 ?_
  refine lv_iload_n hx hb dX8_saint_48 rfl (lv_at hl 1 rfl) ?_
  refine lv_iload_n hx hb dX8_saint_49 rfl (lv_at hl 2 rfl) ?_
  refine lv_iload_n hx hb dX8_saint_50 rfl (lv_at hl 3 rfl) ?_
  obtain ⟨q2, eq2, hM⟩ := xb hM
  refine x_goi (x_runV (rest := []) X (kX2_fewestChanges l G S d1 v1 v2 v3 q2.1 q2.2 (dO_k ed1) eq2) qw219 okX2_fewestChanges ⟨Nat.le_of_ble_eq_true rfl, Nat.le_of_ble_eq_true rfl⟩ (dO_k ed1) (by decide) rfl hP hS rfl hl.1 rfl (Nat.le_of_ble_eq_true rfl) dX8_saint_51) hS (fun H locs hP hS => ?_)
  refine lv_istore (lv' := [(5, .int q2.1), (0, .ref (xad G h0)), (1, .int v1), (2, .int v2), (3, .int v3), (4, .int v4)]) hx hb dX8_saint_54 hl (by decide) rfl (fun ls hl => ?_)
  refine lv_iload hx hb dX8_saint_56 (lv_at hl 0 rfl) ?_
  refine lv_iconst (v := (-1)) hx hb dX8_saint_58 (by decide) ?_
  refine lv_icmp_eq (tgt := 68) hx hb dX8_saint_59 (by decide) (fun c3 => ?_) (fun c3 => ?_)
  · replace hM := (if_pos c3).symm.trans hM
    refine lv_iload hx hb dX8_saint_68 (lv_at hl 0 rfl) ?_
    exact x_iret X hP hS hM dX8_saint_70
  · replace hM := (if_neg c3).symm.trans hM
    refine lv_iload hx hb dX8_saint_62 (lv_at hl 5 rfl) ?_
    refine lv_iconst (v := (-1)) hx hb dX8_saint_64 (by decide) ?_
    refine lv_icmp_ne (tgt := 71) hx hb dX8_saint_65 (by decide) (fun c4 => ?_) (fun c4 => ?_)
    · replace hM := (if_neg c4).symm.trans hM
      refine lv_aload_n hx hb dX8_saint_71 rfl (lv_at hl 1 rfl) ?_
      obtain ⟨d5, ed5, hM⟩ := xb hM
      refine fdX8_4 X hP hk0 qw212 dX8_saint_72 ed5 ?_
      refine lv_iload hx hb dX8_saint_75 (lv_at hl 5 rfl) ?_
      obtain ⟨q6, eq6, hM⟩ := xb hM
      refine x_goi (x_runV (rest := []) X (kX2_bestSeat l G q2.2 d5 v4 q6.1 q6.2 (dO_k ed5) eq6) qw220 okX2_bestSeat ⟨Nat.le_of_ble_eq_true rfl, Nat.le_of_ble_eq_true rfl⟩ (dO_k ed5) (by decide) rfl hP hS rfl hl.1 rfl (Nat.le_of_ble_eq_true rfl) dX8_saint_77) hS (fun H locs hP hS => ?_)
      exact x_iret X hP hS hM dX8_saint_80
    · replace hM := (if_pos c4).symm.trans hM
      refine lv_iload hx hb dX8_saint_68 (lv_at hl 0 rfl) ?_
      exact x_iret X hP hS hM dX8_saint_70
def mX8_saint (S : xS) (h0 : Nat) (p1 : Int32) (p2 : Int32) (p3 : Int32) (p4 : Int32) : Option (Int32 × xS) := (mX8_isTable S p1).bind fun q1 => if (q1.1 = 0 : Prop) then (some ((-1), q1.2)) else ((mX8_isDay q1.2 p2).bind fun q3 => if (q3.1 = 0 : Prop) then (some ((-1), q3.2)) else (if (p3 < 1 : Prop) then (some ((-1), q3.2)) else (if (p3 ≤ 30 : Prop) then (if (p4 = (-1) : Prop) then (jX8_saint_44  q3.2 h0 p1 p2 p3 p4) else ((mX8_isSister q3.2 h0 p4).bind fun q8 => if (q8.1 = 0 : Prop) then (some ((-1), q8.2)) else (jX8_saint_44  q8.2 h0 p1 p2 p3 p4))) else (some ((-1), q3.2)))))
set_option maxHeartbeats 4000000 in
set_option maxRecDepth 100000 in
theorem kX8_saint (l : Launch) (G : xG) (S : xS) (h0 : Nat) (p1 : Int32) (p2 : Int32) (p3 : Int32) (p4 : Int32) (r : Int32) (S' : xS) (hk0 : xk Yc h0 = 8) (hM : mX8_saint S h0 p1 p2 p3 p4 = some (r, S')) : xM l yX8_saint cX8_saint 6 (some .int) 6 152 G Yc [.ref (xad G h0), .int p1, .int p2, .int p3, .int p4] S (xQi G Yc r S') := by
  refine x_start (own := RX8) (by decide +kernel) rfl (Nat.le_of_ble_eq_true rfl) ?_
  intro p e s m below meth c ls X hl hP hS
  obtain ⟨hx, hb, hml, hown, hts, hr, hlk, hK, hE, hJ⟩ := id X
  have hl : lv_has ls 6 [(0, .ref (xad G h0)), (1, .int p1), (2, .int p2), (3, .int p3), (4, .int p4)] := hl
  unfold mX8_saint at hM
  refine lv_iload_n hx hb dX8_saint_0 rfl (lv_at hl 1 rfl) ?_
  obtain ⟨q1, eq1, hM⟩ := xb hM
  refine x_goi (x_runS (rest := []) X (kX8_isTable l G S p1 q1.1 q1.2  eq1) qw187 okX8_isTable ⟨Nat.le_of_ble_eq_true rfl, Nat.le_of_ble_eq_true rfl⟩ hP hS rfl hl.1 rfl (Nat.le_of_ble_eq_true rfl) dX8_saint_1) hS (fun H locs hP hS => ?_)
  refine lv_if_eq (tgt := 25) hx hb dX8_saint_4 (by decide) (fun c2 => ?_) (fun c2 => ?_)
  · replace hM := (if_pos c2).symm.trans hM
    refine lv_iconst (v := (-1)) hx hb dX8_saint_25 (by decide) ?_
    exact x_iret X hP hS hM dX8_saint_26
  · replace hM := (if_neg c2).symm.trans hM
    refine lv_iload_n hx hb dX8_saint_7 rfl (lv_at hl 2 rfl) ?_
    obtain ⟨q3, eq3, hM⟩ := xb hM
    refine x_goi (x_runS (rest := []) X (kX8_isDay l G q1.2 p2 q3.1 q3.2  eq3) qw188 okX8_isDay ⟨Nat.le_of_ble_eq_true rfl, Nat.le_of_ble_eq_true rfl⟩ hP hS rfl hl.1 rfl (Nat.le_of_ble_eq_true rfl) dX8_saint_8) hS (fun H locs hP hS => ?_)
    refine lv_if_eq (tgt := 25) hx hb dX8_saint_11 (by decide) (fun c4 => ?_) (fun c4 => ?_)
    · replace hM := (if_pos c4).symm.trans hM
      refine lv_iconst (v := (-1)) hx hb dX8_saint_25 (by decide) ?_
      exact x_iret X hP hS hM dX8_saint_26
    · replace hM := (if_neg c4).symm.trans hM
      refine lv_iload_n hx hb dX8_saint_14 rfl (lv_at hl 3 rfl) ?_
      refine lv_iconst (v := 1) hx hb dX8_saint_15 (by decide) ?_
      refine lv_icmp_lt (tgt := 25) hx hb dX8_saint_16 (by decide) (fun c5 => ?_) (fun c5 => ?_)
      · replace hM := (if_pos c5).symm.trans hM
        refine lv_iconst (v := (-1)) hx hb dX8_saint_25 (by decide) ?_
        exact x_iret X hP hS hM dX8_saint_26
      · replace hM := (if_neg c5).symm.trans hM
        refine lv_iload_n hx hb dX8_saint_19 rfl (lv_at hl 3 rfl) ?_
        refine lv_bipush (v := 30) hx hb dX8_saint_20 (by decide) ?_
        refine lv_icmp_le (tgt := 27) hx hb dX8_saint_22 (by decide) (fun c6 => ?_) (fun c6 => ?_)
        · replace hM := (if_pos c6).symm.trans hM
          refine lv_iload hx hb dX8_saint_27 (lv_at hl 4 rfl) ?_
          refine lv_iconst (v := (-1)) hx hb dX8_saint_29 (by decide) ?_
          refine lv_icmp_eq (tgt := 44) hx hb dX8_saint_30 (by decide) (fun c7 => ?_) (fun c7 => ?_)
          · replace hM := (if_pos c7).symm.trans hM
            exact wX8_saint_44 X  q3.2 h0 p1 p2 p3 p4 _ _ _ hM hk0 hP hS (lv_sub hl [0, 1, 2, 3, 4] rfl)
          · replace hM := (if_neg c7).symm.trans hM
            refine lv_aload_n hx hb dX8_saint_33 rfl (lv_at hl 0 rfl) ?_
            refine lv_iload hx hb dX8_saint_34 (lv_at hl 4 rfl) ?_
            obtain ⟨q8, eq8, hM⟩ := xb hM
            refine x_goi (x_runV (rest := []) X (kX8_isSister l G q3.2 h0 p4 q8.1 q8.2 hk0 eq8) qw192 okX8_isSister ⟨Nat.le_of_ble_eq_true rfl, Nat.le_of_ble_eq_true rfl⟩ hk0 (by decide) rfl hP hS rfl hl.1 rfl (Nat.le_of_ble_eq_true rfl) dX8_saint_36) hS (fun H locs hP hS => ?_)
            refine lv_if_ne (tgt := 44) hx hb dX8_saint_39 (by decide) (fun c9 => ?_) (fun c9 => ?_)
            · replace hM := (if_neg c9).symm.trans hM
              exact wX8_saint_44 X  q8.2 h0 p1 p2 p3 p4 _ _ _ hM hk0 hP hS (lv_sub hl [0, 1, 2, 3, 4] rfl)
            · replace hM := (if_pos c9).symm.trans hM
              refine lv_iconst (v := (-1)) hx hb dX8_saint_42 (by decide) ?_
              exact x_iret X hP hS hM dX8_saint_43
        · replace hM := (if_neg c6).symm.trans hM
          refine lv_iconst (v := (-1)) hx hb dX8_saint_25 (by decide) ?_
          exact x_iret X hP hS hM dX8_saint_26

def mX8_seen (S : xS) (h0 : Nat) (p1 : Int32) : Option (Int32 × xS) := if (p1 = (-1) : Prop) then ((dO Yc (gR S h0 0) 1).bind fun d15 => xlet (pI S d15 10 0) fun S16 => some (0, S16)) else (if (p1 < 0 : Prop) then (some ((-2), S)) else (if (60 < p1 : Prop) then (some ((-2), S)) else ((dO Yc (gR S h0 0) 1).bind fun d4 => if ((gI S d4 10) < 0 : Prop) then (some ((-2), S)) else ((dO Yc (gR S h0 0) 1).bind fun d6 => if ((gI S d6 10) < 8 : Prop) then ((dO Yc (gR S h0 0) 1).bind fun d8 => (dO Yc (gR S d8 9) 10).bind fun d9 => (dO Yc (gR S h0 0) 1).bind fun d10 => (sI Yc S d9 (gI S d10 10) p1).bind fun S11 => (dO Yc (gR S11 h0 0) 1).bind fun d12 => xlet (pI S11 d12 10 ((gI S11 d12 10) + 1)) fun S13 => (dO Yc (gR S13 h0 0) 1).bind fun d14 => some (gI S13 d14 10, S13)) else (some ((-2), S))))))
set_option maxHeartbeats 4000000 in
set_option maxRecDepth 100000 in
theorem kX8_seen (l : Launch) (G : xG) (S : xS) (h0 : Nat) (p1 : Int32) (r : Int32) (S' : xS) (hk0 : xk Yc h0 = 8) (hM : mX8_seen S h0 p1 = some (r, S')) : xM l yX8_seen cX8_seen 2 (some .int) 0 0 G Yc [.ref (xad G h0), .int p1] S (xQi G Yc r S') := by
  refine x_start (own := RX8) (by decide +kernel) rfl (Nat.le_of_ble_eq_true rfl) ?_
  intro p e s m below meth c ls X hl hP hS
  obtain ⟨hx, hb, hml, hown, hts, hr, hlk, hK, hE, hJ⟩ := id X
  have hl : lv_has ls 2 [(0, .ref (xad G h0)), (1, .int p1)] := hl
  unfold mX8_seen at hM
  refine lv_iload_n hx hb dX8_seen_0 rfl (lv_at hl 1 rfl) ?_
  refine lv_iconst (v := (-1)) hx hb dX8_seen_1 (by decide) ?_
  refine lv_icmp_ne (tgt := 15) hx hb dX8_seen_2 (by decide) (fun c1 => ?_) (fun c1 => ?_)
  · replace hM := (if_neg c1).symm.trans hM
    refine lv_iload_n hx hb dX8_seen_15 rfl (lv_at hl 1 rfl) ?_
    refine lv_if_lt (tgt := 47) hx hb dX8_seen_16 (by decide) (fun c2 => ?_) (fun c2 => ?_)
    · replace hM := (if_pos c2).symm.trans hM
      refine lv_bipush (v := (-2)) hx hb dX8_seen_47 (by decide) ?_
      exact x_iret X hP hS hM dX8_seen_49
    · replace hM := (if_neg c2).symm.trans hM
      refine lv_iload_n hx hb dX8_seen_19 rfl (lv_at hl 1 rfl) ?_
      refine lv_bipush (v := 60) hx hb dX8_seen_20 (by decide) ?_
      refine lv_icmp_gt (tgt := 47) hx hb dX8_seen_22 (by decide) (fun c3 => ?_) (fun c3 => ?_)
      · replace hM := (if_pos c3).symm.trans hM
        refine lv_bipush (v := (-2)) hx hb dX8_seen_47 (by decide) ?_
        exact x_iret X hP hS hM dX8_seen_49
      · replace hM := (if_neg c3).symm.trans hM
        refine lv_aload_n hx hb dX8_seen_25 rfl (lv_at hl 0 rfl) ?_
        obtain ⟨d4, ed4, hM⟩ := xb hM
        refine fdX8_0 X hP hk0 qw169 dX8_seen_26 ed4 ?_
        refine fgX1_10 X hP (dO_k ed4) qw221 dX8_seen_29 ?_
        refine lv_if_lt (tgt := 47) hx hb dX8_seen_32 (by decide) (fun c5 => ?_) (fun c5 => ?_)
        · replace hM := (if_pos c5).symm.trans hM
          refine lv_bipush (v := (-2)) hx hb dX8_seen_47 (by decide) ?_
          exact x_iret X hP hS hM dX8_seen_49
        · replace hM := (if_neg c5).symm.trans hM
          refine lv_aload_n hx hb dX8_seen_35 rfl (lv_at hl 0 rfl) ?_
          obtain ⟨d6, ed6, hM⟩ := xb hM
          refine fdX8_0 X hP hk0 qw169 dX8_seen_36 ed6 ?_
          refine fgX1_10 X hP (dO_k ed6) qw221 dX8_seen_39 ?_
          refine lv_bipush (v := 8) hx hb dX8_seen_42 (by decide) ?_
          refine lv_icmp_lt (tgt := 50) hx hb dX8_seen_44 (by decide) (fun c7 => ?_) (fun c7 => ?_)
          · replace hM := (if_pos c7).symm.trans hM
            refine lv_aload_n hx hb dX8_seen_50 rfl (lv_at hl 0 rfl) ?_
            obtain ⟨d8, ed8, hM⟩ := xb hM
            refine fdX8_0 X hP hk0 qw169 dX8_seen_51 ed8 ?_
            obtain ⟨d9, ed9, hM⟩ := xb hM
            refine fdX1_9 X hP (dO_k ed8) qw222 dX8_seen_54 ed9 ?_
            refine lv_aload_n hx hb dX8_seen_57 rfl (lv_at hl 0 rfl) ?_
            obtain ⟨d10, ed10, hM⟩ := xb hM
            refine fdX8_0 X hP hk0 qw169 dX8_seen_58 ed10 ?_
            refine fgX1_10 X hP (dO_k ed10) qw221 dX8_seen_61 ?_
            refine lv_iload_n hx hb dX8_seen_64 rfl (lv_at hl 1 rfl) ?_
            obtain ⟨S11, eS11, hM⟩ := xb hM
            refine x_iast X hP hS (dO_k ed9) eS11 dX8_seen_65 (fun H locs hP hS => ?_)
            refine lv_aload_n hx hb dX8_seen_66 rfl (lv_at hl 0 rfl) ?_
            obtain ⟨d12, ed12, hM⟩ := xb hM
            refine fdX8_0 X hP hk0 qw169 dX8_seen_67 ed12 ?_
            refine lv_dup hx hb dX8_seen_70 rfl ?_
            refine fgX1_10 X hP (dO_k ed12) qw221 dX8_seen_71 ?_
            refine lv_iconst (v := 1) hx hb dX8_seen_74 (by decide) ?_
            refine lv_iadd hx hb dX8_seen_75 ?_
            obtain ⟨S13, eS13, hM⟩ := xlet_ex hM
            refine fpX1_10 X hP hS (dO_k ed12) qw221 dX8_seen_76 eS13 (fun H locs hP hS => ?_)
            refine lv_aload_n hx hb dX8_seen_79 rfl (lv_at hl 0 rfl) ?_
            obtain ⟨d14, ed14, hM⟩ := xb hM
            refine fdX8_0 X hP hk0 qw169 dX8_seen_80 ed14 ?_
            refine fgX1_10 X hP (dO_k ed14) qw221 dX8_seen_83 ?_
            exact x_iret X hP hS hM dX8_seen_86
          · replace hM := (if_neg c7).symm.trans hM
            refine lv_bipush (v := (-2)) hx hb dX8_seen_47 (by decide) ?_
            exact x_iret X hP hS hM dX8_seen_49
  · replace hM := (if_pos c1).symm.trans hM
    refine lv_aload_n hx hb dX8_seen_5 rfl (lv_at hl 0 rfl) ?_
    obtain ⟨d15, ed15, hM⟩ := xb hM
    refine fdX8_0 X hP hk0 qw169 dX8_seen_6 ed15 ?_
    refine lv_iconst (v := 0) hx hb dX8_seen_9 (by decide) ?_
    obtain ⟨S16, eS16, hM⟩ := xlet_ex hM
    refine fpX1_10 X hP hS (dO_k ed15) qw221 dX8_seen_10 eS16 (fun H locs hP hS => ?_)
    refine lv_iconst (v := 0) hx hb dX8_seen_13 (by decide) ?_
    exact x_iret X hP hS hM dX8_seen_14

def mX8_who (S : xS) (h0 : Nat) (p1 : Int32) (p2 : Int32) (p3 : Int32) : Option (Int32 × xS) := (mX8_isTable S p1).bind fun q1 => if (q1.1 = 0 : Prop) then (some ((-1), q1.2)) else ((mX8_isDay q1.2 p2).bind fun q3 => if (q3.1 = 0 : Prop) then (some ((-1), q3.2)) else (if ((-1) ≤ p3 : Prop) then ((dO Yc (gR q3.2 h0 4) 2).bind fun d6 => (mX2_nibblers q3.2 d6 p1 p2 p3).bind fun q7 => some (q7.1, q7.2)) else (some ((-1), q3.2))))
set_option maxHeartbeats 4000000 in
set_option maxRecDepth 100000 in
theorem kX8_who (l : Launch) (G : xG) (S : xS) (h0 : Nat) (p1 : Int32) (p2 : Int32) (p3 : Int32) (r : Int32) (S' : xS) (hk0 : xk Yc h0 = 8) (hM : mX8_who S h0 p1 p2 p3 = some (r, S')) : xM l yX8_who cX8_who 4 (some .int) 5 126 G Yc [.ref (xad G h0), .int p1, .int p2, .int p3] S (xQi G Yc r S') := by
  refine x_start (own := RX8) (by decide +kernel) rfl (Nat.le_of_ble_eq_true rfl) ?_
  intro p e s m below meth c ls X hl hP hS
  obtain ⟨hx, hb, hml, hown, hts, hr, hlk, hK, hE, hJ⟩ := id X
  have hl : lv_has ls 4 [(0, .ref (xad G h0)), (1, .int p1), (2, .int p2), (3, .int p3)] := hl
  unfold mX8_who at hM
  refine lv_iload_n hx hb dX8_who_0 rfl (lv_at hl 1 rfl) ?_
  obtain ⟨q1, eq1, hM⟩ := xb hM
  refine x_goi (x_runS (rest := []) X (kX8_isTable l G S p1 q1.1 q1.2  eq1) qw187 okX8_isTable ⟨Nat.le_of_ble_eq_true rfl, Nat.le_of_ble_eq_true rfl⟩ hP hS rfl hl.1 rfl (Nat.le_of_ble_eq_true rfl) dX8_who_1) hS (fun H locs hP hS => ?_)
  refine lv_if_eq (tgt := 19) hx hb dX8_who_4 (by decide) (fun c2 => ?_) (fun c2 => ?_)
  · replace hM := (if_pos c2).symm.trans hM
    refine lv_iconst (v := (-1)) hx hb dX8_who_19 (by decide) ?_
    exact x_iret X hP hS hM dX8_who_20
  · replace hM := (if_neg c2).symm.trans hM
    refine lv_iload_n hx hb dX8_who_7 rfl (lv_at hl 2 rfl) ?_
    obtain ⟨q3, eq3, hM⟩ := xb hM
    refine x_goi (x_runS (rest := []) X (kX8_isDay l G q1.2 p2 q3.1 q3.2  eq3) qw188 okX8_isDay ⟨Nat.le_of_ble_eq_true rfl, Nat.le_of_ble_eq_true rfl⟩ hP hS rfl hl.1 rfl (Nat.le_of_ble_eq_true rfl) dX8_who_8) hS (fun H locs hP hS => ?_)
    refine lv_if_eq (tgt := 19) hx hb dX8_who_11 (by decide) (fun c4 => ?_) (fun c4 => ?_)
    · replace hM := (if_pos c4).symm.trans hM
      refine lv_iconst (v := (-1)) hx hb dX8_who_19 (by decide) ?_
      exact x_iret X hP hS hM dX8_who_20
    · replace hM := (if_neg c4).symm.trans hM
      refine lv_iload_n hx hb dX8_who_14 rfl (lv_at hl 3 rfl) ?_
      refine lv_iconst (v := (-1)) hx hb dX8_who_15 (by decide) ?_
      refine lv_icmp_ge (tgt := 21) hx hb dX8_who_16 (by decide) (fun c5 => ?_) (fun c5 => ?_)
      · replace hM := (if_pos c5).symm.trans hM
        refine lv_aload_n hx hb dX8_who_21 rfl (lv_at hl 0 rfl) ?_
        obtain ⟨d6, ed6, hM⟩ := xb hM
        refine fdX8_4 X hP hk0 qw212 dX8_who_22 ed6 ?_
        refine lv_iload_n hx hb dX8_who_25 rfl (lv_at hl 1 rfl) ?_
        refine lv_iload_n hx hb dX8_who_26 rfl (lv_at hl 2 rfl) ?_
        refine lv_iload_n hx hb dX8_who_27 rfl (lv_at hl 3 rfl) ?_
        obtain ⟨q7, eq7, hM⟩ := xb hM
        refine x_goi (x_runV (rest := []) X (kX2_nibblers l G q3.2 d6 p1 p2 p3 q7.1 q7.2 (dO_k ed6) eq7) qw223 okX2_nibblers ⟨Nat.le_of_ble_eq_true rfl, Nat.le_of_ble_eq_true rfl⟩ (dO_k ed6) (by decide) rfl hP hS rfl hl.1 rfl (Nat.le_of_ble_eq_true rfl) dX8_who_28) hS (fun H locs hP hS => ?_)
        exact x_iret X hP hS hM dX8_who_31
      · replace hM := (if_neg c5).symm.trans hM
        refine lv_iconst (v := (-1)) hx hb dX8_who_19 (by decide) ?_
        exact x_iret X hP hS hM dX8_who_20

def mX8_image (S : xS) (h0 : Nat) : Option (Int32 × xS) := (dO Yc (gR S h0 1) 1).bind fun d1 => (dO Yc (gR S h0 0) 1).bind fun d2 => (mX1_copyFrom S d1 d2).bind fun S3 => (dO Yc (gR S3 h0 0) 1).bind fun d4 => (mX1_get S3 d4 12).bind fun q5 => some (q5.1, q5.2)
set_option maxHeartbeats 4000000 in
set_option maxRecDepth 100000 in
theorem kX8_image (l : Launch) (G : xG) (S : xS) (h0 : Nat) (r : Int32) (S' : xS) (hk0 : xk Yc h0 = 8) (hM : mX8_image S h0 = some (r, S')) : xM l yX8_image cX8_image 1 (some .int) 2 81 G Yc [.ref (xad G h0)] S (xQi G Yc r S') := by
  refine x_start (own := RX8) (by decide +kernel) rfl (Nat.le_of_ble_eq_true rfl) ?_
  intro p e s m below meth c ls X hl hP hS
  obtain ⟨hx, hb, hml, hown, hts, hr, hlk, hK, hE, hJ⟩ := id X
  have hl : lv_has ls 1 [(0, .ref (xad G h0))] := hl
  unfold mX8_image at hM
  refine lv_aload_n hx hb dX8_image_0 rfl (lv_at hl 0 rfl) ?_
  obtain ⟨d1, ed1, hM⟩ := xb hM
  refine fdX8_1 X hP hk0 qw224 dX8_image_1 ed1 ?_
  refine lv_aload_n hx hb dX8_image_4 rfl (lv_at hl 0 rfl) ?_
  obtain ⟨d2, ed2, hM⟩ := xb hM
  refine fdX8_0 X hP hk0 qw169 dX8_image_5 ed2 ?_
  obtain ⟨S3, eS3, hM⟩ := xb hM
  refine x_gov (x_runV (rest := []) X (kX1_copyFrom l G S d1 d2 S3 (dO_k ed1) (dO_k ed2) eS3) qw225 okX1_copyFrom ⟨Nat.le_of_ble_eq_true rfl, Nat.le_of_ble_eq_true rfl⟩ (dO_k ed1) (by decide) rfl hP hS rfl hl.1 rfl (Nat.le_of_ble_eq_true rfl) dX8_image_8) hS (fun H locs hP hS => ?_)
  refine lv_aload_n hx hb dX8_image_11 rfl (lv_at hl 0 rfl) ?_
  obtain ⟨d4, ed4, hM⟩ := xb hM
  refine fdX8_0 X hP hk0 qw169 dX8_image_12 ed4 ?_
  refine lv_bipush (v := 12) hx hb dX8_image_15 (by decide) ?_
  obtain ⟨q5, eq5, hM⟩ := xb hM
  refine x_goi (x_runV (rest := []) X (kX1_get l G S3 d4 12 q5.1 q5.2 (dO_k ed4) eq5) qw189 okX1_get ⟨Nat.le_of_ble_eq_true rfl, Nat.le_of_ble_eq_true rfl⟩ (dO_k ed4) (by decide) rfl hP hS rfl hl.1 rfl (Nat.le_of_ble_eq_true rfl) dX8_image_17) hS (fun H locs hP hS => ?_)
  exact x_iret X hP hS hM dX8_image_20

def mX8_back (S : xS) (h0 : Nat) : Option (Int32 × xS) := (dO Yc (gR S h0 0) 1).bind fun d1 => (dO Yc (gR S h0 1) 1).bind fun d2 => (mX1_copyFrom S d1 d2).bind fun S3 => (dO Yc (gR S3 h0 3) 3).bind fun d4 => (dO Yc (gR S3 h0 0) 1).bind fun d5 => (mX8_textAt S3 h0 (gI S3 d5 8)).bind fun q6 => xlet (pR q6.2 d4 3 q6.1) fun S7 => (dO Yc (gR S7 h0 0) 1).bind fun d8 => (mX1_get S7 d8 12).bind fun q9 => some (q9.1, q9.2)
set_option maxHeartbeats 4000000 in
set_option maxRecDepth 100000 in
theorem kX8_back (l : Launch) (G : xG) (S : xS) (h0 : Nat) (r : Int32) (S' : xS) (hk0 : xk Yc h0 = 8) (hM : mX8_back S h0 = some (r, S')) : xM l yX8_back cX8_back 1 (some .int) 2 81 G Yc [.ref (xad G h0)] S (xQi G Yc r S') := by
  refine x_start (own := RX8) (by decide +kernel) rfl (Nat.le_of_ble_eq_true rfl) ?_
  intro p e s m below meth c ls X hl hP hS
  obtain ⟨hx, hb, hml, hown, hts, hr, hlk, hK, hE, hJ⟩ := id X
  have hl : lv_has ls 1 [(0, .ref (xad G h0))] := hl
  unfold mX8_back at hM
  refine lv_aload_n hx hb dX8_back_0 rfl (lv_at hl 0 rfl) ?_
  obtain ⟨d1, ed1, hM⟩ := xb hM
  refine fdX8_0 X hP hk0 qw169 dX8_back_1 ed1 ?_
  refine lv_aload_n hx hb dX8_back_4 rfl (lv_at hl 0 rfl) ?_
  obtain ⟨d2, ed2, hM⟩ := xb hM
  refine fdX8_1 X hP hk0 qw224 dX8_back_5 ed2 ?_
  obtain ⟨S3, eS3, hM⟩ := xb hM
  refine x_gov (x_runV (rest := []) X (kX1_copyFrom l G S d1 d2 S3 (dO_k ed1) (dO_k ed2) eS3) qw225 okX1_copyFrom ⟨Nat.le_of_ble_eq_true rfl, Nat.le_of_ble_eq_true rfl⟩ (dO_k ed1) (by decide) rfl hP hS rfl hl.1 rfl (Nat.le_of_ble_eq_true rfl) dX8_back_8) hS (fun H locs hP hS => ?_)
  refine lv_aload_n hx hb dX8_back_11 rfl (lv_at hl 0 rfl) ?_
  obtain ⟨d4, ed4, hM⟩ := xb hM
  refine fdX8_3 X hP hk0 qw185 dX8_back_12 ed4 ?_
  refine lv_aload_n hx hb dX8_back_15 rfl (lv_at hl 0 rfl) ?_
  refine lv_aload_n hx hb dX8_back_16 rfl (lv_at hl 0 rfl) ?_
  obtain ⟨d5, ed5, hM⟩ := xb hM
  refine fdX8_0 X hP hk0 qw169 dX8_back_17 ed5 ?_
  refine fgX1_8 X hP (dO_k ed5) qw184 dX8_back_20 ?_
  obtain ⟨q6, eq6, hM⟩ := xb hM
  refine x_goq (x_runV (rest := [.ref (xad G d4)]) X (kX8_textAt l G S3 h0 (gI S3 d5 8) q6.1 q6.2 hk0 eq6) qw178 okX8_textAt ⟨Nat.le_of_ble_eq_true rfl, Nat.le_of_ble_eq_true rfl⟩ hk0 (by decide) rfl hP hS rfl hl.1 rfl (Nat.le_of_ble_eq_true rfl) dX8_back_23) hS (fun H locs hP hS => ?_)
  obtain ⟨S7, eS7, hM⟩ := xlet_ex hM
  refine fpX3_3 X hP hS (v := q6.1) (dO_k ed4) qw186 dX8_back_26 eS7 (fun H locs hP hS => ?_)
  refine lv_aload_n hx hb dX8_back_29 rfl (lv_at hl 0 rfl) ?_
  obtain ⟨d8, ed8, hM⟩ := xb hM
  refine fdX8_0 X hP hk0 qw169 dX8_back_30 ed8 ?_
  refine lv_bipush (v := 12) hx hb dX8_back_33 (by decide) ?_
  obtain ⟨q9, eq9, hM⟩ := xb hM
  refine x_goi (x_runV (rest := []) X (kX1_get l G S7 d8 12 q9.1 q9.2 (dO_k ed8) eq9) qw189 okX1_get ⟨Nat.le_of_ble_eq_true rfl, Nat.le_of_ble_eq_true rfl⟩ (dO_k ed8) (by decide) rfl hP hS rfl hl.1 rfl (Nat.le_of_ble_eq_true rfl) dX8_back_35) hS (fun H locs hP hS => ?_)
  exact x_iret X hP hS hM dX8_back_38

def mX8_about (S : xS) (h0 : Nat) (p1 : Int32) : Option (Int32 × xS) := if (p1 : Int32) = 0 then ((dO Yc (gR S h0 0) 1).bind fun d2 => some (gI S d2 5, S)) else (if (p1 : Int32) = 1 then ((dO Yc (gR S h0 0) 1).bind fun d4 => (mX1_get S d4 12).bind fun q5 => some (q5.1, q5.2)) else (if (p1 : Int32) = 2 then ((dO Yc (gR S h0 0) 1).bind fun d7 => some (gI S d7 6, S)) else (if (p1 : Int32) = 3 then ((dO Yc (gR S h0 0) 1).bind fun d9 => (mX1_get S d9 13).bind fun q10 => some (q10.1, q10.2)) else (if (p1 : Int32) = 4 then ((dO Yc (gR S h0 0) 1).bind fun d12 => some (gI S d12 7, S)) else (if (p1 : Int32) = 5 then ((dO Yc (gR S h0 0) 1).bind fun d14 => some (gI S d14 8, S)) else (if (p1 : Int32) = 6 then ((dO Yc (gR S h0 0) 1).bind fun d16 => some (gI S d16 3, S)) else (if (p1 : Int32) = 7 then ((dO Yc (gR S h0 0) 1).bind fun d18 => some (gI S d18 10, S)) else (if (p1 : Int32) = 8 then ((dO Yc (gR S h0 5) 7).bind fun d20 => some (gI S d20 1, S)) else (some ((-2), S))))))))))
set_option maxHeartbeats 4000000 in
set_option maxRecDepth 100000 in
theorem kX8_about (l : Launch) (G : xG) (S : xS) (h0 : Nat) (p1 : Int32) (r : Int32) (S' : xS) (hk0 : xk Yc h0 = 8) (hM : mX8_about S h0 p1 = some (r, S')) : xM l yX8_about cX8_about 2 (some .int) 1 21 G Yc [.ref (xad G h0), .int p1] S (xQi G Yc r S') := by
  refine x_start (own := RX8) (by decide +kernel) rfl (Nat.le_of_ble_eq_true rfl) ?_
  intro p e s m below meth c ls X hl hP hS
  obtain ⟨hx, hb, hml, hown, hts, hr, hlk, hK, hE, hJ⟩ := id X
  have hl : lv_has ls 2 [(0, .ref (xad G h0)), (1, .int p1)] := hl
  unfold mX8_about at hM
  refine lv_iload_n hx hb dX8_about_0 rfl (lv_at hl 1 rfl) ?_
  by_cases c1 : p1 = 0
  · replace hM := (if_pos c1).symm.trans hM
    refine x_tabIn (tgt := 52) (off := 51) hx hb dX8_about_1 c1 (by decide) (by decide) (by decide) (by decide) ?_
    refine lv_aload_n hx hb dX8_about_52 rfl (lv_at hl 0 rfl) ?_
    obtain ⟨d2, ed2, hM⟩ := xb hM
    refine fdX8_0 X hP hk0 qw169 dX8_about_53 ed2 ?_
    refine fgX1_5 X hP (dO_k ed2) qw191 dX8_about_56 ?_
    exact x_iret X hP hS hM dX8_about_59
  replace hM := (if_neg c1).symm.trans hM
  by_cases c3 : p1 = 1
  · replace hM := (if_pos c3).symm.trans hM
    refine x_tabIn (tgt := 60) (off := 59) hx hb dX8_about_1 c3 (by decide) (by decide) (by decide) (by decide) ?_
    refine lv_aload_n hx hb dX8_about_60 rfl (lv_at hl 0 rfl) ?_
    obtain ⟨d4, ed4, hM⟩ := xb hM
    refine fdX8_0 X hP hk0 qw169 dX8_about_61 ed4 ?_
    refine lv_bipush (v := 12) hx hb dX8_about_64 (by decide) ?_
    obtain ⟨q5, eq5, hM⟩ := xb hM
    refine x_goi (x_runV (rest := []) X (kX1_get l G S d4 12 q5.1 q5.2 (dO_k ed4) eq5) qw189 okX1_get ⟨Nat.le_of_ble_eq_true rfl, Nat.le_of_ble_eq_true rfl⟩ (dO_k ed4) (by decide) rfl hP hS rfl hl.1 rfl (Nat.le_of_ble_eq_true rfl) dX8_about_66) hS (fun H locs hP hS => ?_)
    exact x_iret X hP hS hM dX8_about_69
  replace hM := (if_neg c3).symm.trans hM
  by_cases c6 : p1 = 2
  · replace hM := (if_pos c6).symm.trans hM
    refine x_tabIn (tgt := 70) (off := 69) hx hb dX8_about_1 c6 (by decide) (by decide) (by decide) (by decide) ?_
    refine lv_aload_n hx hb dX8_about_70 rfl (lv_at hl 0 rfl) ?_
    obtain ⟨d7, ed7, hM⟩ := xb hM
    refine fdX8_0 X hP hk0 qw169 dX8_about_71 ed7 ?_
    refine fgX1_6 X hP (dO_k ed7) qw171 dX8_about_74 ?_
    exact x_iret X hP hS hM dX8_about_77
  replace hM := (if_neg c6).symm.trans hM
  by_cases c8 : p1 = 3
  · replace hM := (if_pos c8).symm.trans hM
    refine x_tabIn (tgt := 78) (off := 77) hx hb dX8_about_1 c8 (by decide) (by decide) (by decide) (by decide) ?_
    refine lv_aload_n hx hb dX8_about_78 rfl (lv_at hl 0 rfl) ?_
    obtain ⟨d9, ed9, hM⟩ := xb hM
    refine fdX8_0 X hP hk0 qw169 dX8_about_79 ed9 ?_
    refine lv_bipush (v := 13) hx hb dX8_about_82 (by decide) ?_
    obtain ⟨q10, eq10, hM⟩ := xb hM
    refine x_goi (x_runV (rest := []) X (kX1_get l G S d9 13 q10.1 q10.2 (dO_k ed9) eq10) qw189 okX1_get ⟨Nat.le_of_ble_eq_true rfl, Nat.le_of_ble_eq_true rfl⟩ (dO_k ed9) (by decide) rfl hP hS rfl hl.1 rfl (Nat.le_of_ble_eq_true rfl) dX8_about_84) hS (fun H locs hP hS => ?_)
    exact x_iret X hP hS hM dX8_about_87
  replace hM := (if_neg c8).symm.trans hM
  by_cases c11 : p1 = 4
  · replace hM := (if_pos c11).symm.trans hM
    refine x_tabIn (tgt := 88) (off := 87) hx hb dX8_about_1 c11 (by decide) (by decide) (by decide) (by decide) ?_
    refine lv_aload_n hx hb dX8_about_88 rfl (lv_at hl 0 rfl) ?_
    obtain ⟨d12, ed12, hM⟩ := xb hM
    refine fdX8_0 X hP hk0 qw169 dX8_about_89 ed12 ?_
    refine fgX1_7 X hP (dO_k ed12) qw177 dX8_about_92 ?_
    exact x_iret X hP hS hM dX8_about_95
  replace hM := (if_neg c11).symm.trans hM
  by_cases c13 : p1 = 5
  · replace hM := (if_pos c13).symm.trans hM
    refine x_tabIn (tgt := 96) (off := 95) hx hb dX8_about_1 c13 (by decide) (by decide) (by decide) (by decide) ?_
    refine lv_aload_n hx hb dX8_about_96 rfl (lv_at hl 0 rfl) ?_
    obtain ⟨d14, ed14, hM⟩ := xb hM
    refine fdX8_0 X hP hk0 qw169 dX8_about_97 ed14 ?_
    refine fgX1_8 X hP (dO_k ed14) qw184 dX8_about_100 ?_
    exact x_iret X hP hS hM dX8_about_103
  replace hM := (if_neg c13).symm.trans hM
  by_cases c15 : p1 = 6
  · replace hM := (if_pos c15).symm.trans hM
    refine x_tabIn (tgt := 104) (off := 103) hx hb dX8_about_1 c15 (by decide) (by decide) (by decide) (by decide) ?_
    refine lv_aload_n hx hb dX8_about_104 rfl (lv_at hl 0 rfl) ?_
    obtain ⟨d16, ed16, hM⟩ := xb hM
    refine fdX8_0 X hP hk0 qw169 dX8_about_105 ed16 ?_
    refine fgX1_3 X hP (dO_k ed16) qw226 dX8_about_108 ?_
    exact x_iret X hP hS hM dX8_about_111
  replace hM := (if_neg c15).symm.trans hM
  by_cases c17 : p1 = 7
  · replace hM := (if_pos c17).symm.trans hM
    refine x_tabIn (tgt := 112) (off := 111) hx hb dX8_about_1 c17 (by decide) (by decide) (by decide) (by decide) ?_
    refine lv_aload_n hx hb dX8_about_112 rfl (lv_at hl 0 rfl) ?_
    obtain ⟨d18, ed18, hM⟩ := xb hM
    refine fdX8_0 X hP hk0 qw169 dX8_about_113 ed18 ?_
    refine fgX1_10 X hP (dO_k ed18) qw221 dX8_about_116 ?_
    exact x_iret X hP hS hM dX8_about_119
  replace hM := (if_neg c17).symm.trans hM
  by_cases c19 : p1 = 8
  · replace hM := (if_pos c19).symm.trans hM
    refine x_tabIn (tgt := 120) (off := 119) hx hb dX8_about_1 c19 (by decide) (by decide) (by decide) (by decide) ?_
    refine lv_aload_n hx hb dX8_about_120 rfl (lv_at hl 0 rfl) ?_
    obtain ⟨d20, ed20, hM⟩ := xb hM
    refine fdX8_5 X hP hk0 qw173 dX8_about_121 ed20 ?_
    refine fgX7_1 X hP (dO_k ed20) qw174 dX8_about_124 ?_
    exact x_iret X hP hS hM dX8_about_127
  replace hM := (if_neg c19).symm.trans hM
  have gc1 : ¬ (p1 : Int32).toInt = 0 := xne c1
  have gc3 : ¬ (p1 : Int32).toInt = 1 := xne c3
  have gc6 : ¬ (p1 : Int32).toInt = 2 := xne c6
  have gc8 : ¬ (p1 : Int32).toInt = 3 := xne c8
  have gc11 : ¬ (p1 : Int32).toInt = 4 := xne c11
  have gc13 : ¬ (p1 : Int32).toInt = 5 := xne c13
  have gc15 : ¬ (p1 : Int32).toInt = 6 := xne c15
  have gc17 : ¬ (p1 : Int32).toInt = 7 := xne c17
  have gc19 : ¬ (p1 : Int32).toInt = 8 := xne c19
  refine lv_tableOut (tgt := 128) hx hb dX8_about_1 (by omega) (by decide) ?_
  refine lv_bipush (v := (-2)) hx hb dX8_about_128 (by decide) ?_
  exact x_iret X hP hS hM dX8_about_130

def lX9_copy_2 : Nat → xS → Nat → Nat → Int32 → Option xS
  | 0, _, _, _, _ => none
  | n + 1, S, h0, h1, v2 => if (486 ≤ v2 : Prop) then (some S) else ((aI Ym S h0 v2).bind fun x2 => (sI Ym S h1 v2 x2).bind fun S3 => lX9_copy_2 n S3 h0 h1 (v2 + 1))
set_option maxHeartbeats 4000000 in
set_option maxRecDepth 100000 in
theorem wX9_copy_2 {p : Program} {l : Launch} {e : Env} {s : State} {m : MethodId} {args : Array Value} {below : List Frame} {meth : Method} {c : Code} {G : xG} {S' : xS} (X : xX p s m args meth c cX9_copy 3 none RX9 G Ym) : ∀ (n : Nat), ∀ (S : xS) (h0 : Nat) (h1 : Nat) (v2 : Int32) (H : Heap) (locs : List Loc) (ls : Array Slot), lX9_copy_2  n S h0 h1 v2 = some S' → xk Ym h0 = 10 → xk Ym h1 = 10 → xP G Ym S H → va_S (xA G Ym) s.heap H locs → lv_has ls 3 [(0, .ref (xad G h0)), (1, .ref (xad G h1)), (2, .int v2)] → W p l e (xr 0 0) s m args below meth c H locs 0 0 (MQ below (xQv G Ym S') args s 0 0 (xA G Ym)) (F0 m 2 ls []) := by
  obtain ⟨hx, hb, hml, hown, hts, hr, hlk, hK, hE, hJ⟩ := id X
  intro n
  induction n with
  | zero =>
    intro S h0 h1 v2 H locs ls hM
    rw [lX9_copy_2.eq_1] at hM
    cases hM
  | succ n ih =>
    intro S h0 h1 v2 H locs ls hM hk0 hk1 hP hS hl
    rw [lX9_copy_2.eq_2] at hM
    refine lv_iload_n hx hb dX9_copy_2 rfl (lv_at hl 2 rfl) ?_
    refine lv_sipush (v := 486) hx hb dX9_copy_3 (by decide) ?_
    refine lv_icmp_ge (tgt := 21) hx hb dX9_copy_6 (by decide) (fun c1 => ?_) (fun c1 => ?_)
    · replace hM := (if_pos c1).symm.trans hM
      exact x_vret X hP hS hM dX9_copy_21
    · replace hM := (if_neg c1).symm.trans hM
      refine lv_aload_n hx hb dX9_copy_9 rfl (lv_at hl 1 rfl) ?_
      refine lv_iload_n hx hb dX9_copy_10 rfl (lv_at hl 2 rfl) ?_
      refine lv_aload_n hx hb dX9_copy_11 rfl (lv_at hl 0 rfl) ?_
      refine lv_iload_n hx hb dX9_copy_12 rfl (lv_at hl 2 rfl) ?_
      obtain ⟨x2, ex2, hM⟩ := xb hM
      refine x_iald X hP hk0 ex2 dX9_copy_13 ?_
      obtain ⟨S3, eS3, hM⟩ := xb hM
      refine x_iast X hP hS hk1 eS3 dX9_copy_14 (fun H locs hP hS => ?_)
      refine lv_iinc (v := v2 + 1) (lv' := [(2, .int (v2 + 1)), (0, .ref (xad G h0)), (1, .ref (xad G h1))]) hx hb dX9_copy_15 hl (k := 2) rfl (by first | rfl | exact congrArg (fun z => v2 + z) (by decide)) (by decide) rfl (fun ls hl => ?_)
      refine lv_goto (tgt := 2) hx hb dX9_copy_18 (by decide) ?_
      exact ih S3 h0 h1 (v2 + 1) _ _ _ hM hk0 hk1 hP hS (lv_sub hl [1, 2, 0] rfl)
def mX9_copy (S : xS) (h0 : Nat) (h1 : Nat) : Option xS := lX9_copy_2  5000 S h0 h1 0
set_option maxHeartbeats 4000000 in
set_option maxRecDepth 100000 in
theorem kX9_copy (l : Launch) (G : xG) (S : xS) (h0 : Nat) (h1 : Nat) (S' : xS) (hk0 : xk Ym h0 = 10) (hk1 : xk Ym h1 = 10) (hM : mX9_copy S h0 h1 = some S') : xM l yX9_copy cX9_copy 3 none 0 0 G Ym [.ref (xad G h0), .ref (xad G h1)] S (xQv G Ym S') := by
  refine x_start (own := RX9) (by decide +kernel) rfl (Nat.le_of_ble_eq_true rfl) ?_
  intro p e s m below meth c ls X hl hP hS
  obtain ⟨hx, hb, hml, hown, hts, hr, hlk, hK, hE, hJ⟩ := id X
  have hl : lv_has ls 3 [(0, .ref (xad G h0)), (1, .ref (xad G h1))] := hl
  unfold mX9_copy at hM
  refine lv_iconst (v := 0) hx hb dX9_copy_0 (by decide) ?_
  refine lv_istore_n (lv' := [(2, .int 0), (0, .ref (xad G h0)), (1, .ref (xad G h1))]) hx hb dX9_copy_1 rfl hl (by decide) rfl (fun ls hl => ?_)
  exact wX9_copy_2 X  5000 S h0 h1 0 _ _ _ hM hk0 hk1 hP hS (lv_sub hl [1, 2, 0] rfl)

def mX9_isIn (S : xS) (p0 : Int32) (p1 : Int32) (p2 : Int32) : Option (Int32 × xS) := if (p0 < p1 : Prop) then (some (0, S)) else (if (p2 < p0 : Prop) then (some (0, S)) else (some (1, S)))
set_option maxHeartbeats 4000000 in
set_option maxRecDepth 100000 in
theorem kX9_isIn (l : Launch) (G : xG) (S : xS) (p0 : Int32) (p1 : Int32) (p2 : Int32) (r : Int32) (S' : xS) (hM : mX9_isIn S p0 p1 p2 = some (r, S')) : xM l yX9_isIn cX9_isIn 3 (some .boolean) 0 0 G Ym [.int p0, .int p1, .int p2] S (xQi G Ym r S') := by
  refine x_start (own := RX9) (by decide +kernel) rfl (Nat.le_of_ble_eq_true rfl) ?_
  intro p e s m below meth c ls X hl hP hS
  obtain ⟨hx, hb, hml, hown, hts, hr, hlk, hK, hE, hJ⟩ := id X
  have hl : lv_has ls 3 [(0, .int p0), (1, .int p1), (2, .int p2)] := hl
  unfold mX9_isIn at hM
  refine lv_iload_n hx hb dX9_isIn_0 rfl (lv_at hl 0 rfl) ?_
  refine lv_iload_n hx hb dX9_isIn_1 rfl (lv_at hl 1 rfl) ?_
  refine lv_icmp_lt (tgt := 14) hx hb dX9_isIn_2 (by decide) (fun c1 => ?_) (fun c1 => ?_)
  · replace hM := (if_pos c1).symm.trans hM
    refine lv_iconst (v := 0) hx hb dX9_isIn_14 (by decide) ?_
    exact x_zret X hP hS (Or.inl rfl) hM dX9_isIn_15
  · replace hM := (if_neg c1).symm.trans hM
    refine lv_iload_n hx hb dX9_isIn_5 rfl (lv_at hl 0 rfl) ?_
    refine lv_iload_n hx hb dX9_isIn_6 rfl (lv_at hl 2 rfl) ?_
    refine lv_icmp_gt (tgt := 14) hx hb dX9_isIn_7 (by decide) (fun c2 => ?_) (fun c2 => ?_)
    · replace hM := (if_pos c2).symm.trans hM
      refine lv_iconst (v := 0) hx hb dX9_isIn_14 (by decide) ?_
      exact x_zret X hP hS (Or.inl rfl) hM dX9_isIn_15
    · replace hM := (if_neg c2).symm.trans hM
      refine lv_iconst (v := 1) hx hb dX9_isIn_10 (by decide) ?_
      refine lv_goto (tgt := 15) hx hb dX9_isIn_11 (by decide) ?_
      exact x_zret X hP hS (Or.inr rfl) hM dX9_isIn_15

def mX9_between (S : xS) (p0 : Int64) (p2 : Int32) (p3 : Int32) : Option (Int32 × xS) := if (0 ≤ (lg_cmp p0 ((p2 : Int32).toInt64)) : Prop) then (if ((lg_cmp p0 ((p3 : Int32).toInt64)) ≤ 0 : Prop) then (some ((p0 : Int64).toInt32, S)) else (some (p3, S))) else (some (p2, S))
set_option maxHeartbeats 4000000 in
set_option maxRecDepth 100000 in
theorem kX9_between (l : Launch) (G : xG) (S : xS) (p0 : Int64) (p2 : Int32) (p3 : Int32) (r : Int32) (S' : xS) (hM : mX9_between S p0 p2 p3 = some (r, S')) : xM l yX9_between cX9_between 4 (some .int) 0 0 G Ym [.long p0, .int p2, .int p3] S (xQi G Ym r S') := by
  refine x_start (own := RX9) (by decide +kernel) rfl (Nat.le_of_ble_eq_true rfl) ?_
  intro p e s m below meth c ls X hl hP hS
  obtain ⟨hx, hb, hml, hown, hts, hr, hlk, hK, hE, hJ⟩ := id X
  have hl : lv_has ls 4 [(0, .long p0), (2, .int p2), (3, .int p3)] := hl
  unfold mX9_between at hM
  refine lv_lload_n hx hb dX9_between_0 rfl (lv_at hl 0 rfl) ?_
  refine lv_iload_n hx hb dX9_between_1 rfl (lv_at hl 1 rfl) ?_
  refine lv_i2l hx hb dX9_between_2 rfl ?_
  refine W.lcmp hx hb dX9_between_3 ?_
  refine lv_if_ge (tgt := 11) hx hb dX9_between_4 (by decide) (fun c1 => ?_) (fun c1 => ?_)
  · replace hM := (if_pos c1).symm.trans hM
    refine lv_lload_n hx hb dX9_between_11 rfl (lv_at hl 0 rfl) ?_
    refine lv_iload_n hx hb dX9_between_12 rfl (lv_at hl 2 rfl) ?_
    refine lv_i2l hx hb dX9_between_13 rfl ?_
    refine W.lcmp hx hb dX9_between_14 ?_
    refine lv_if_le (tgt := 22) hx hb dX9_between_15 (by decide) (fun c2 => ?_) (fun c2 => ?_)
    · replace hM := (if_pos c2).symm.trans hM
      refine lv_lload_n hx hb dX9_between_22 rfl (lv_at hl 0 rfl) ?_
      refine lv_l2i hx hb dX9_between_23 rfl ?_
      exact x_iret X hP hS hM dX9_between_24
    · replace hM := (if_neg c2).symm.trans hM
      refine lv_iload_n hx hb dX9_between_18 rfl (lv_at hl 2 rfl) ?_
      refine lv_goto (tgt := 24) hx hb dX9_between_19 (by decide) ?_
      exact x_iret X hP hS hM dX9_between_24
  · replace hM := (if_neg c1).symm.trans hM
    refine lv_iload_n hx hb dX9_between_7 rfl (lv_at hl 1 rfl) ?_
    refine lv_goto (tgt := 24) hx hb dX9_between_8 (by decide) ?_
    exact x_iret X hP hS hM dX9_between_24

def mX9_has (S : xS) (p0 : Int32) (p1 : Int32) : Option (Int32 × xS) := if (((p0 >>> (p1 &&& 31)) &&& 1) = 1 : Prop) then (some (1, S)) else (some (0, S))
set_option maxHeartbeats 4000000 in
set_option maxRecDepth 100000 in
theorem kX9_has (l : Launch) (G : xG) (S : xS) (p0 : Int32) (p1 : Int32) (r : Int32) (S' : xS) (hM : mX9_has S p0 p1 = some (r, S')) : xM l yX9_has cX9_has 2 (some .boolean) 0 0 G Ym [.int p0, .int p1] S (xQi G Ym r S') := by
  refine x_start (own := RX9) (by decide +kernel) rfl (Nat.le_of_ble_eq_true rfl) ?_
  intro p e s m below meth c ls X hl hP hS
  obtain ⟨hx, hb, hml, hown, hts, hr, hlk, hK, hE, hJ⟩ := id X
  have hl : lv_has ls 2 [(0, .int p0), (1, .int p1)] := hl
  unfold mX9_has at hM
  refine lv_iload_n hx hb dX9_has_0 rfl (lv_at hl 0 rfl) ?_
  refine lv_iload_n hx hb dX9_has_1 rfl (lv_at hl 1 rfl) ?_
  refine lv_ishr hx hb dX9_has_2 ?_
  refine lv_iconst (v := 1) hx hb dX9_has_3 (by decide) ?_
  refine lv_iand hx hb dX9_has_4 ?_
  refine lv_iconst (v := 1) hx hb dX9_has_5 (by decide) ?_
  refine lv_icmp_ne (tgt := 13) hx hb dX9_has_6 (by decide) (fun c1 => ?_) (fun c1 => ?_)
  · replace hM := (if_neg c1).symm.trans hM
    refine lv_iconst (v := 0) hx hb dX9_has_13 (by decide) ?_
    exact x_zret X hP hS (Or.inl rfl) hM dX9_has_14
  · replace hM := (if_pos c1).symm.trans hM
    refine lv_iconst (v := 1) hx hb dX9_has_9 (by decide) ?_
    refine lv_goto (tgt := 14) hx hb dX9_has_10 (by decide) ?_
    exact x_zret X hP hS (Or.inr rfl) hM dX9_has_14

def mX9_isSister (S : xS) (h0 : Nat) (p1 : Int32) : Option (Int32 × xS) := (dO Ym (gR S h0 0) 10).bind fun d1 => (aI Ym S d1 0).bind fun x2 => (mX9_isIn S p1 0 (x2 - 1)).bind fun q3 => (zk q3.1).bind fun z4 => some (q3.1, q3.2)
set_option maxHeartbeats 4000000 in
set_option maxRecDepth 100000 in
theorem kX9_isSister (l : Launch) (G : xG) (S : xS) (h0 : Nat) (p1 : Int32) (r : Int32) (S' : xS) (hk0 : xk Ym h0 = 9) (hM : mX9_isSister S h0 p1 = some (r, S')) : xM l yX9_isSister cX9_isSister 2 (some .boolean) 1 22 G Ym [.ref (xad G h0), .int p1] S (xQi G Ym r S') := by
  refine x_start (own := RX9) (by decide +kernel) rfl (Nat.le_of_ble_eq_true rfl) ?_
  intro p e s m below meth c ls X hl hP hS
  obtain ⟨hx, hb, hml, hown, hts, hr, hlk, hK, hE, hJ⟩ := id X
  have hl : lv_has ls 2 [(0, .ref (xad G h0)), (1, .int p1)] := hl
  unfold mX9_isSister at hM
  refine lv_iload_n hx hb dX9_isSister_0 rfl (lv_at hl 1 rfl) ?_
  refine lv_iconst (v := 0) hx hb dX9_isSister_1 (by decide) ?_
  refine lv_aload_n hx hb dX9_isSister_2 rfl (lv_at hl 0 rfl) ?_
  obtain ⟨d1, ed1, hM⟩ := xb hM
  refine fdX9_0 X hP hk0 qw227 dX9_isSister_3 ed1 ?_
  refine lv_iconst (v := 0) hx hb dX9_isSister_6 (by decide) ?_
  obtain ⟨x2, ex2, hM⟩ := xb hM
  refine x_iald X hP (dO_k ed1) ex2 dX9_isSister_7 ?_
  refine lv_iconst (v := 1) hx hb dX9_isSister_8 (by decide) ?_
  refine lv_isub hx hb dX9_isSister_9 ?_
  obtain ⟨q3, eq3, hM⟩ := xb hM
  refine x_goi (x_runS (rest := []) X (kX9_isIn l G S p1 0 (x2 - 1) q3.1 q3.2  eq3) qw228 okX9_isIn ⟨Nat.le_of_ble_eq_true rfl, Nat.le_of_ble_eq_true rfl⟩ hP hS rfl hl.1 rfl (Nat.le_of_ble_eq_true rfl) dX9_isSister_10) hS (fun H locs hP hS => ?_)
  obtain ⟨z4, ez4, hM⟩ := xb hM
  exact x_zret X hP hS (zk_v ez4).2 hM dX9_isSister_13

def mX9_isTable (S : xS) (p0 : Int32) : Option (Int32 × xS) := (mX9_isIn S p0 0 1).bind fun q1 => (zk q1.1).bind fun z2 => some (q1.1, q1.2)
set_option maxHeartbeats 4000000 in
set_option maxRecDepth 100000 in
theorem kX9_isTable (l : Launch) (G : xG) (S : xS) (p0 : Int32) (r : Int32) (S' : xS) (hM : mX9_isTable S p0 = some (r, S')) : xM l yX9_isTable cX9_isTable 1 (some .boolean) 1 22 G Ym [.int p0] S (xQi G Ym r S') := by
  refine x_start (own := RX9) (by decide +kernel) rfl (Nat.le_of_ble_eq_true rfl) ?_
  intro p e s m below meth c ls X hl hP hS
  obtain ⟨hx, hb, hml, hown, hts, hr, hlk, hK, hE, hJ⟩ := id X
  have hl : lv_has ls 1 [(0, .int p0)] := hl
  unfold mX9_isTable at hM
  refine lv_iload_n hx hb dX9_isTable_0 rfl (lv_at hl 0 rfl) ?_
  refine lv_iconst (v := 0) hx hb dX9_isTable_1 (by decide) ?_
  refine lv_iconst (v := 1) hx hb dX9_isTable_2 (by decide) ?_
  obtain ⟨q1, eq1, hM⟩ := xb hM
  refine x_goi (x_runS (rest := []) X (kX9_isIn l G S p0 0 1 q1.1 q1.2  eq1) qw228 okX9_isIn ⟨Nat.le_of_ble_eq_true rfl, Nat.le_of_ble_eq_true rfl⟩ hP hS rfl hl.1 rfl (Nat.le_of_ble_eq_true rfl) dX9_isTable_3) hS (fun H locs hP hS => ?_)
  obtain ⟨z2, ez2, hM⟩ := xb hM
  exact x_zret X hP hS (zk_v ez2).2 hM dX9_isTable_6

def mX9_isDay (S : xS) (p0 : Int32) : Option (Int32 × xS) := (mX9_isIn S p0 0 999).bind fun q1 => (zk q1.1).bind fun z2 => some (q1.1, q1.2)
set_option maxHeartbeats 4000000 in
set_option maxRecDepth 100000 in
theorem kX9_isDay (l : Launch) (G : xG) (S : xS) (p0 : Int32) (r : Int32) (S' : xS) (hM : mX9_isDay S p0 = some (r, S')) : xM l yX9_isDay cX9_isDay 1 (some .boolean) 1 22 G Ym [.int p0] S (xQi G Ym r S') := by
  refine x_start (own := RX9) (by decide +kernel) rfl (Nat.le_of_ble_eq_true rfl) ?_
  intro p e s m below meth c ls X hl hP hS
  obtain ⟨hx, hb, hml, hown, hts, hr, hlk, hK, hE, hJ⟩ := id X
  have hl : lv_has ls 1 [(0, .int p0)] := hl
  unfold mX9_isDay at hM
  refine lv_iload_n hx hb dX9_isDay_0 rfl (lv_at hl 0 rfl) ?_
  refine lv_iconst (v := 0) hx hb dX9_isDay_1 (by decide) ?_
  refine lv_sipush (v := 999) hx hb dX9_isDay_2 (by decide) ?_
  obtain ⟨q1, eq1, hM⟩ := xb hM
  refine x_goi (x_runS (rest := []) X (kX9_isIn l G S p0 0 999 q1.1 q1.2  eq1) qw228 okX9_isIn ⟨Nat.le_of_ble_eq_true rfl, Nat.le_of_ble_eq_true rfl⟩ hP hS rfl hl.1 rfl (Nat.le_of_ble_eq_true rfl) dX9_isDay_5) hS (fun H locs hP hS => ?_)
  obtain ⟨z2, ez2, hM⟩ := xb hM
  exact x_zret X hP hS (zk_v ez2).2 hM dX9_isDay_8

def mX9_seatOf (S : xS) (h0 : Nat) (p1 : Int32) : Option (Int32 × xS) := (dO Ym (gR S h0 0) 10).bind fun d1 => (aI Ym S d1 ((16 + (2 * p1)) + 1)).bind fun x2 => some (x2, S)
set_option maxHeartbeats 4000000 in
set_option maxRecDepth 100000 in
theorem kX9_seatOf (l : Launch) (G : xG) (S : xS) (h0 : Nat) (p1 : Int32) (r : Int32) (S' : xS) (hk0 : xk Ym h0 = 9) (hM : mX9_seatOf S h0 p1 = some (r, S')) : xM l yX9_seatOf cX9_seatOf 2 (some .int) 0 0 G Ym [.ref (xad G h0), .int p1] S (xQi G Ym r S') := by
  refine x_start (own := RX9) (by decide +kernel) rfl (Nat.le_of_ble_eq_true rfl) ?_
  intro p e s m below meth c ls X hl hP hS
  obtain ⟨hx, hb, hml, hown, hts, hr, hlk, hK, hE, hJ⟩ := id X
  have hl : lv_has ls 2 [(0, .ref (xad G h0)), (1, .int p1)] := hl
  unfold mX9_seatOf at hM
  refine lv_aload_n hx hb dX9_seatOf_0 rfl (lv_at hl 0 rfl) ?_
  obtain ⟨d1, ed1, hM⟩ := xb hM
  refine fdX9_0 X hP hk0 qw227 dX9_seatOf_1 ed1 ?_
  refine lv_bipush (v := 16) hx hb dX9_seatOf_4 (by decide) ?_
  refine lv_iconst (v := 2) hx hb dX9_seatOf_6 (by decide) ?_
  refine lv_iload_n hx hb dX9_seatOf_7 rfl (lv_at hl 1 rfl) ?_
  refine lv_imul hx hb dX9_seatOf_8 ?_
  refine lv_iadd hx hb dX9_seatOf_9 ?_
  refine lv_iconst (v := 1) hx hb dX9_seatOf_10 (by decide) ?_
  refine lv_iadd hx hb dX9_seatOf_11 ?_
  obtain ⟨x2, ex2, hM⟩ := xb hM
  refine x_iald X hP (dO_k ed1) ex2 dX9_seatOf_12 ?_
  exact x_iret X hP hS hM dX9_seatOf_13

def mX9_sister (S : xS) (h0 : Nat) (p1 : Int32) : Option (Int32 × xS) := (mX9_isIn S p1 0 9).bind fun q1 => if (q1.1 = 0 : Prop) then (some ((-1), q1.2)) else ((dO Ym (gR q1.2 h0 0) 10).bind fun d3 => (aI Ym q1.2 d3 0).bind fun x4 => if (x4 = 6 : Prop) then (some ((-1), q1.2)) else ((dO Ym (gR q1.2 h0 0) 10).bind fun d6 => (dO Ym (gR q1.2 h0 0) 10).bind fun d7 => (aI Ym q1.2 d7 0).bind fun x8 => (sI Ym q1.2 d6 (16 + (2 * x8)) p1).bind fun S9 => (dO Ym (gR S9 h0 0) 10).bind fun d10 => (dO Ym (gR S9 h0 0) 10).bind fun d11 => (aI Ym S9 d11 0).bind fun x12 => (sI Ym S9 d10 ((16 + (2 * x12)) + 1) 2).bind fun S13 => (dO Ym (gR S13 h0 0) 10).bind fun d14 => (aI Ym S13 d14 0).bind fun x15 => (sI Ym S13 d14 0 (x15 + 1)).bind fun S16 => (dO Ym (gR S16 h0 0) 10).bind fun d17 => (aI Ym S16 d17 0).bind fun x18 => some (x18 - 1, S16)))
set_option maxHeartbeats 4000000 in
set_option maxRecDepth 100000 in
theorem kX9_sister (l : Launch) (G : xG) (S : xS) (h0 : Nat) (p1 : Int32) (r : Int32) (S' : xS) (hk0 : xk Ym h0 = 9) (hM : mX9_sister S h0 p1 = some (r, S')) : xM l yX9_sister cX9_sister 2 (some .int) 1 22 G Ym [.ref (xad G h0), .int p1] S (xQi G Ym r S') := by
  refine x_start (own := RX9) (by decide +kernel) rfl (Nat.le_of_ble_eq_true rfl) ?_
  intro p e s m below meth c ls X hl hP hS
  obtain ⟨hx, hb, hml, hown, hts, hr, hlk, hK, hE, hJ⟩ := id X
  have hl : lv_has ls 2 [(0, .ref (xad G h0)), (1, .int p1)] := hl
  unfold mX9_sister at hM
  refine lv_iload_n hx hb dX9_sister_0 rfl (lv_at hl 1 rfl) ?_
  refine lv_iconst (v := 0) hx hb dX9_sister_1 (by decide) ?_
  refine lv_bipush (v := 9) hx hb dX9_sister_2 (by decide) ?_
  obtain ⟨q1, eq1, hM⟩ := xb hM
  refine x_goi (x_runS (rest := []) X (kX9_isIn l G S p1 0 9 q1.1 q1.2  eq1) qw228 okX9_isIn ⟨Nat.le_of_ble_eq_true rfl, Nat.le_of_ble_eq_true rfl⟩ hP hS rfl hl.1 rfl (Nat.le_of_ble_eq_true rfl) dX9_sister_4) hS (fun H locs hP hS => ?_)
  refine lv_if_eq (tgt := 21) hx hb dX9_sister_7 (by decide) (fun c2 => ?_) (fun c2 => ?_)
  · replace hM := (if_pos c2).symm.trans hM
    refine lv_iconst (v := (-1)) hx hb dX9_sister_21 (by decide) ?_
    exact x_iret X hP hS hM dX9_sister_22
  · replace hM := (if_neg c2).symm.trans hM
    refine lv_aload_n hx hb dX9_sister_10 rfl (lv_at hl 0 rfl) ?_
    obtain ⟨d3, ed3, hM⟩ := xb hM
    refine fdX9_0 X hP hk0 qw227 dX9_sister_11 ed3 ?_
    refine lv_iconst (v := 0) hx hb dX9_sister_14 (by decide) ?_
    obtain ⟨x4, ex4, hM⟩ := xb hM
    refine x_iald X hP (dO_k ed3) ex4 dX9_sister_15 ?_
    refine lv_bipush (v := 6) hx hb dX9_sister_16 (by decide) ?_
    refine lv_icmp_ne (tgt := 23) hx hb dX9_sister_18 (by decide) (fun c5 => ?_) (fun c5 => ?_)
    · replace hM := (if_neg c5).symm.trans hM
      refine lv_aload_n hx hb dX9_sister_23 rfl (lv_at hl 0 rfl) ?_
      obtain ⟨d6, ed6, hM⟩ := xb hM
      refine fdX9_0 X hP hk0 qw227 dX9_sister_24 ed6 ?_
      refine lv_bipush (v := 16) hx hb dX9_sister_27 (by decide) ?_
      refine lv_iconst (v := 2) hx hb dX9_sister_29 (by decide) ?_
      refine lv_aload_n hx hb dX9_sister_30 rfl (lv_at hl 0 rfl) ?_
      obtain ⟨d7, ed7, hM⟩ := xb hM
      refine fdX9_0 X hP hk0 qw227 dX9_sister_31 ed7 ?_
      refine lv_iconst (v := 0) hx hb dX9_sister_34 (by decide) ?_
      obtain ⟨x8, ex8, hM⟩ := xb hM
      refine x_iald X hP (dO_k ed7) ex8 dX9_sister_35 ?_
      refine lv_imul hx hb dX9_sister_36 ?_
      refine lv_iadd hx hb dX9_sister_37 ?_
      refine lv_iload_n hx hb dX9_sister_38 rfl (lv_at hl 1 rfl) ?_
      obtain ⟨S9, eS9, hM⟩ := xb hM
      refine x_iast X hP hS (dO_k ed6) eS9 dX9_sister_39 (fun H locs hP hS => ?_)
      refine lv_aload_n hx hb dX9_sister_40 rfl (lv_at hl 0 rfl) ?_
      obtain ⟨d10, ed10, hM⟩ := xb hM
      refine fdX9_0 X hP hk0 qw227 dX9_sister_41 ed10 ?_
      refine lv_bipush (v := 16) hx hb dX9_sister_44 (by decide) ?_
      refine lv_iconst (v := 2) hx hb dX9_sister_46 (by decide) ?_
      refine lv_aload_n hx hb dX9_sister_47 rfl (lv_at hl 0 rfl) ?_
      obtain ⟨d11, ed11, hM⟩ := xb hM
      refine fdX9_0 X hP hk0 qw227 dX9_sister_48 ed11 ?_
      refine lv_iconst (v := 0) hx hb dX9_sister_51 (by decide) ?_
      obtain ⟨x12, ex12, hM⟩ := xb hM
      refine x_iald X hP (dO_k ed11) ex12 dX9_sister_52 ?_
      refine lv_imul hx hb dX9_sister_53 ?_
      refine lv_iadd hx hb dX9_sister_54 ?_
      refine lv_iconst (v := 1) hx hb dX9_sister_55 (by decide) ?_
      refine lv_iadd hx hb dX9_sister_56 ?_
      refine lv_iconst (v := 2) hx hb dX9_sister_57 (by decide) ?_
      obtain ⟨S13, eS13, hM⟩ := xb hM
      refine x_iast X hP hS (dO_k ed10) eS13 dX9_sister_58 (fun H locs hP hS => ?_)
      refine lv_aload_n hx hb dX9_sister_59 rfl (lv_at hl 0 rfl) ?_
      obtain ⟨d14, ed14, hM⟩ := xb hM
      refine fdX9_0 X hP hk0 qw227 dX9_sister_60 ed14 ?_
      refine lv_iconst (v := 0) hx hb dX9_sister_63 (by decide) ?_
      refine lv_dup2_11 hx hb dX9_sister_64 rfl rfl ?_
      obtain ⟨x15, ex15, hM⟩ := xb hM
      refine x_iald X hP (dO_k ed14) ex15 dX9_sister_65 ?_
      refine lv_iconst (v := 1) hx hb dX9_sister_66 (by decide) ?_
      refine lv_iadd hx hb dX9_sister_67 ?_
      obtain ⟨S16, eS16, hM⟩ := xb hM
      refine x_iast X hP hS (dO_k ed14) eS16 dX9_sister_68 (fun H locs hP hS => ?_)
      refine lv_aload_n hx hb dX9_sister_69 rfl (lv_at hl 0 rfl) ?_
      obtain ⟨d17, ed17, hM⟩ := xb hM
      refine fdX9_0 X hP hk0 qw227 dX9_sister_70 ed17 ?_
      refine lv_iconst (v := 0) hx hb dX9_sister_73 (by decide) ?_
      obtain ⟨x18, ex18, hM⟩ := xb hM
      refine x_iald X hP (dO_k ed17) ex18 dX9_sister_74 ?_
      refine lv_iconst (v := 1) hx hb dX9_sister_75 (by decide) ?_
      refine lv_isub hx hb dX9_sister_76 ?_
      exact x_iret X hP hS hM dX9_sister_77
    · replace hM := (if_pos c5).symm.trans hM
      refine lv_iconst (v := (-1)) hx hb dX9_sister_21 (by decide) ?_
      exact x_iret X hP hS hM dX9_sister_22

def mX9_mice (S : xS) (h0 : Nat) (p1 : Int32) : Option (Int32 × xS) := (mX9_isIn S p1 0 10).bind fun q1 => if (q1.1 = 0 : Prop) then (some (0, q1.2)) else ((dO Ym (gR q1.2 h0 0) 10).bind fun d3 => (sI Ym q1.2 d3 2 p1).bind fun S4 => some (1, S4))
set_option maxHeartbeats 4000000 in
set_option maxRecDepth 100000 in
theorem kX9_mice (l : Launch) (G : xG) (S : xS) (h0 : Nat) (p1 : Int32) (r : Int32) (S' : xS) (hk0 : xk Ym h0 = 9) (hM : mX9_mice S h0 p1 = some (r, S')) : xM l yX9_mice cX9_mice 2 (some .boolean) 1 22 G Ym [.ref (xad G h0), .int p1] S (xQi G Ym r S') := by
  refine x_start (own := RX9) (by decide +kernel) rfl (Nat.le_of_ble_eq_true rfl) ?_
  intro p e s m below meth c ls X hl hP hS
  obtain ⟨hx, hb, hml, hown, hts, hr, hlk, hK, hE, hJ⟩ := id X
  have hl : lv_has ls 2 [(0, .ref (xad G h0)), (1, .int p1)] := hl
  unfold mX9_mice at hM
  refine lv_iload_n hx hb dX9_mice_0 rfl (lv_at hl 1 rfl) ?_
  refine lv_iconst (v := 0) hx hb dX9_mice_1 (by decide) ?_
  refine lv_bipush (v := 10) hx hb dX9_mice_2 (by decide) ?_
  obtain ⟨q1, eq1, hM⟩ := xb hM
  refine x_goi (x_runS (rest := []) X (kX9_isIn l G S p1 0 10 q1.1 q1.2  eq1) qw228 okX9_isIn ⟨Nat.le_of_ble_eq_true rfl, Nat.le_of_ble_eq_true rfl⟩ hP hS rfl hl.1 rfl (Nat.le_of_ble_eq_true rfl) dX9_mice_4) hS (fun H locs hP hS => ?_)
  refine lv_if_ne (tgt := 12) hx hb dX9_mice_7 (by decide) (fun c2 => ?_) (fun c2 => ?_)
  · replace hM := (if_neg c2).symm.trans hM
    refine lv_aload_n hx hb dX9_mice_12 rfl (lv_at hl 0 rfl) ?_
    obtain ⟨d3, ed3, hM⟩ := xb hM
    refine fdX9_0 X hP hk0 qw227 dX9_mice_13 ed3 ?_
    refine lv_iconst (v := 2) hx hb dX9_mice_16 (by decide) ?_
    refine lv_iload_n hx hb dX9_mice_17 rfl (lv_at hl 1 rfl) ?_
    obtain ⟨S4, eS4, hM⟩ := xb hM
    refine x_iast X hP hS (dO_k ed3) eS4 dX9_mice_18 (fun H locs hP hS => ?_)
    refine lv_iconst (v := 1) hx hb dX9_mice_19 (by decide) ?_
    exact x_zret X hP hS (Or.inr rfl) hM dX9_mice_20
  · replace hM := (if_pos c2).symm.trans hM
    refine lv_iconst (v := 0) hx hb dX9_mice_10 (by decide) ?_
    exact x_zret X hP hS (Or.inl rfl) hM dX9_mice_11

def mX9_seed (S : xS) (h0 : Nat) (p1 : Int32) : Option (Int32 × xS) := (mX9_isIn S p1 0 9999).bind fun q1 => if (q1.1 = 0 : Prop) then (some (0, q1.2)) else ((dO Ym (gR q1.2 h0 0) 10).bind fun d3 => (sI Ym q1.2 d3 3 ((p1 * 3) + 11)).bind fun S4 => some (1, S4))
set_option maxHeartbeats 4000000 in
set_option maxRecDepth 100000 in
theorem kX9_seed (l : Launch) (G : xG) (S : xS) (h0 : Nat) (p1 : Int32) (r : Int32) (S' : xS) (hk0 : xk Ym h0 = 9) (hM : mX9_seed S h0 p1 = some (r, S')) : xM l yX9_seed cX9_seed 2 (some .boolean) 1 22 G Ym [.ref (xad G h0), .int p1] S (xQi G Ym r S') := by
  refine x_start (own := RX9) (by decide +kernel) rfl (Nat.le_of_ble_eq_true rfl) ?_
  intro p e s m below meth c ls X hl hP hS
  obtain ⟨hx, hb, hml, hown, hts, hr, hlk, hK, hE, hJ⟩ := id X
  have hl : lv_has ls 2 [(0, .ref (xad G h0)), (1, .int p1)] := hl
  unfold mX9_seed at hM
  refine lv_iload_n hx hb dX9_seed_0 rfl (lv_at hl 1 rfl) ?_
  refine lv_iconst (v := 0) hx hb dX9_seed_1 (by decide) ?_
  refine lv_sipush (v := 9999) hx hb dX9_seed_2 (by decide) ?_
  obtain ⟨q1, eq1, hM⟩ := xb hM
  refine x_goi (x_runS (rest := []) X (kX9_isIn l G S p1 0 9999 q1.1 q1.2  eq1) qw228 okX9_isIn ⟨Nat.le_of_ble_eq_true rfl, Nat.le_of_ble_eq_true rfl⟩ hP hS rfl hl.1 rfl (Nat.le_of_ble_eq_true rfl) dX9_seed_5) hS (fun H locs hP hS => ?_)
  refine lv_if_ne (tgt := 13) hx hb dX9_seed_8 (by decide) (fun c2 => ?_) (fun c2 => ?_)
  · replace hM := (if_neg c2).symm.trans hM
    refine lv_aload_n hx hb dX9_seed_13 rfl (lv_at hl 0 rfl) ?_
    obtain ⟨d3, ed3, hM⟩ := xb hM
    refine fdX9_0 X hP hk0 qw227 dX9_seed_14 ed3 ?_
    refine lv_iconst (v := 3) hx hb dX9_seed_17 (by decide) ?_
    refine lv_iload_n hx hb dX9_seed_18 rfl (lv_at hl 1 rfl) ?_
    refine lv_iconst (v := 3) hx hb dX9_seed_19 (by decide) ?_
    refine lv_imul hx hb dX9_seed_20 ?_
    refine lv_bipush (v := 11) hx hb dX9_seed_21 (by decide) ?_
    refine lv_iadd hx hb dX9_seed_23 ?_
    obtain ⟨S4, eS4, hM⟩ := xb hM
    refine x_iast X hP hS (dO_k ed3) eS4 dX9_seed_24 (fun H locs hP hS => ?_)
    refine lv_iconst (v := 1) hx hb dX9_seed_25 (by decide) ?_
    exact x_zret X hP hS (Or.inr rfl) hM dX9_seed_26
  · replace hM := (if_pos c2).symm.trans hM
    refine lv_iconst (v := 0) hx hb dX9_seed_11 (by decide) ?_
    exact x_zret X hP hS (Or.inl rfl) hM dX9_seed_12

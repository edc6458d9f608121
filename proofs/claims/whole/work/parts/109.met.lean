def jX9_parsed_67 (S : xS) (h0 : Nat) : Option (Int32 × xS) := (mX9_settle S h0 1).bind fun S1 => some (0, S1)
set_option maxHeartbeats 4000000 in
set_option maxRecDepth 100000 in
theorem wX9_parsed_67 {p : Program} {l : Launch} {e : Env} {s : State} {m : MethodId} {args : Array Value} {below : List Frame} {meth : Method} {c : Code} {G : xG} {r : Int32} {S' : xS} (X : xX p s m args meth c cX9_parsed 4 (some .int) RX9 G Ym) : ∀ (S : xS) (h0 : Nat) (H : Heap) (locs : List Loc) (ls : Array Slot), jX9_parsed_67  S h0 = some (r, S') → xk Ym h0 = 9 → xP G Ym S H → va_S (xA G Ym) s.heap H locs → lv_has ls 4 [(0, .ref (xad G h0))] → W p l e (xr 5 113) s m args below meth c H locs 0 0 (MQ below (xQi G Ym r S') args s 0 0 (xA G Ym)) (F0 m 67 ls []) := by
  obtain ⟨hx, hb, hml, hown, hts, hr, hlk, hK, hE, hJ⟩ := id X
  intro S h0 H locs ls hM hk0 hP hS hl
  unfold jX9_parsed_67 at hM
  refine lv_aload_n hx hb dX9_parsed_67 rfl (lv_at hl 0 rfl) ?_
  refine lv_iconst (v := 1) hx hb dX9_parsed_68 (by decide) ?_
  obtain ⟨S1, eS1, hM⟩ := xb hM
  refine x_gov (x_runV (rest := []) X (kX9_settle l G S h0 1 S1 hk0 eS1) qw252 okX9_settle ⟨Nat.le_of_ble_eq_true rfl, Nat.le_of_ble_eq_true rfl⟩ hk0 (by decide) rfl hP hS rfl hl.1 rfl (Nat.le_of_ble_eq_true rfl) dX9_parsed_69) hS (fun H locs hP hS => ?_)
  refine lv_iconst (v := 0) hx hb dX9_parsed_72 (by decide) ?_
  exact x_iret X hP hS hM dX9_parsed_73
def lX9_parsed_12 : Nat → xS → Nat → Int32 → Int32 → Option (Int32 × xS)
  | 0, _, _, _, _ => none
  | n + 1, S, h0, v1, v2 => if (v2 = 0 : Prop) then ((mX9_marker S h0).bind fun q2 => if (0 ≤ q2.1 : Prop) then (some (1, q2.2)) else (if (v1 = 0 : Prop) then (jX9_parsed_67  q2.2 h0) else ((mX9_isCompared q2.2 h0).bind fun q5 => if (q5.1 = 0 : Prop) then (some (1, q5.2)) else (jX9_parsed_67  q5.2 h0)))) else (if ((gI S h0 19) = 0 : Prop) then ((mX9_beginOne S h0 v1).bind fun q8 => if (q8.1 = 0 : Prop) then (lX9_parsed_12 n q8.2 h0 v1 v2) else (some (q8.1, q8.2))) else ((mX9_behindOne S h0 v1).bind fun q10 => lX9_parsed_12 n q10.2 h0 v1 q10.1))
set_option maxHeartbeats 4000000 in
set_option maxRecDepth 100000 in
theorem wX9_parsed_12 {p : Program} {l : Launch} {e : Env} {s : State} {m : MethodId} {args : Array Value} {below : List Frame} {meth : Method} {c : Code} {G : xG} {r : Int32} {S' : xS} (X : xX p s m args meth c cX9_parsed 4 (some .int) RX9 G Ym) : ∀ (n : Nat), ∀ (S : xS) (h0 : Nat) (v1 : Int32) (v2 : Int32) (H : Heap) (locs : List Loc) (ls : Array Slot), lX9_parsed_12  n S h0 v1 v2 = some (r, S') → xk Ym h0 = 9 → xP G Ym S H → va_S (xA G Ym) s.heap H locs → lv_has ls 4 [(0, .ref (xad G h0)), (1, .int v1), (2, .int v2)] → W p l e (xr 5 113) s m args below meth c H locs 0 0 (MQ below (xQi G Ym r S') args s 0 0 (xA G Ym)) (F0 m 12 ls []) := by
  obtain ⟨hx, hb, hml, hown, hts, hr, hlk, hK, hE, hJ⟩ := id X
  intro n
  induction n with
  | zero =>
    intro S h0 v1 v2 H locs ls hM
    rw [lX9_parsed_12.eq_1] at hM
    cases hM
  | succ n ih =>
    intro S h0 v1 v2 H locs ls hM hk0 hP hS hl
    rw [lX9_parsed_12.eq_2] at hM
    refine lv_iload_n hx hb dX9_parsed_12 rfl (lv_at hl 2 rfl) ?_
    refine lv_if_eq (tgt := 47) hx hb dX9_parsed_13 (by decide) (fun c1 => ?_) (fun c1 => ?_)
    · replace hM := (if_pos c1).symm.trans hM
      refine lv_aload_n hx hb dX9_parsed_47 rfl (lv_at hl 0 rfl) ?_
      obtain ⟨q2, eq2, hM⟩ := xb hM
      refine x_goi (x_runV (rest := []) X (kX9_marker l G S h0 q2.1 q2.2 hk0 eq2) qw253 okX9_marker ⟨Nat.le_of_ble_eq_true rfl, Nat.le_of_ble_eq_true rfl⟩ hk0 (by decide) rfl hP hS rfl hl.1 rfl (Nat.le_of_ble_eq_true rfl) dX9_parsed_48) hS (fun H locs hP hS => ?_)
      refine lv_if_ge (tgt := 65) hx hb dX9_parsed_51 (by decide) (fun c3 => ?_) (fun c3 => ?_)
      · replace hM := (if_pos c3).symm.trans hM
        refine lv_iconst (v := 1) hx hb dX9_parsed_65 (by decide) ?_
        exact x_iret X hP hS hM dX9_parsed_66
      · replace hM := (if_neg c3).symm.trans hM
        refine lv_iload_n hx hb dX9_parsed_54 rfl (lv_at hl 1 rfl) ?_
        refine lv_if_eq (tgt := 67) hx hb dX9_parsed_55 (by decide) (fun c4 => ?_) (fun c4 => ?_)
        · replace hM := (if_pos c4).symm.trans hM
          exact wX9_parsed_67 X  q2.2 h0 _ _ _ hM hk0 hP hS (lv_sub hl [0] rfl)
        · replace hM := (if_neg c4).symm.trans hM
          refine lv_aload_n hx hb dX9_parsed_58 rfl (lv_at hl 0 rfl) ?_
          obtain ⟨q5, eq5, hM⟩ := xb hM
          refine x_goi (x_runV (rest := []) X (kX9_isCompared l G q2.2 h0 q5.1 q5.2 hk0 eq5) qw268 okX9_isCompared ⟨Nat.le_of_ble_eq_true rfl, Nat.le_of_ble_eq_true rfl⟩ hk0 (by decide) rfl hP hS rfl hl.1 rfl (Nat.le_of_ble_eq_true rfl) dX9_parsed_59) hS (fun H locs hP hS => ?_)
          refine lv_if_ne (tgt := 67) hx hb dX9_parsed_62 (by decide) (fun c6 => ?_) (fun c6 => ?_)
          · replace hM := (if_neg c6).symm.trans hM
            exact wX9_parsed_67 X  q5.2 h0 _ _ _ hM hk0 hP hS (lv_sub hl [0] rfl)
          · replace hM := (if_pos c6).symm.trans hM
            refine lv_iconst (v := 1) hx hb dX9_parsed_65 (by decide) ?_
            exact x_iret X hP hS hM dX9_parsed_66
    · replace hM := (if_neg c1).symm.trans hM
      refine lv_aload_n hx hb dX9_parsed_16 rfl (lv_at hl 0 rfl) ?_
      refine fgX9_19 X hP hk0 qw251 dX9_parsed_17 ?_
      refine lv_if_eq (tgt := 32) hx hb dX9_parsed_20 (by decide) (fun c7 => ?_) (fun c7 => ?_)
      · replace hM := (if_pos c7).symm.trans hM
        refine lv_aload_n hx hb dX9_parsed_32 rfl (lv_at hl 0 rfl) ?_
        refine lv_iload_n hx hb dX9_parsed_33 rfl (lv_at hl 1 rfl) ?_
        obtain ⟨q8, eq8, hM⟩ := xb hM
        refine x_goi (x_runV (rest := []) X (kX9_beginOne l G S h0 v1 q8.1 q8.2 hk0 eq8) qw272 okX9_beginOne ⟨Nat.le_of_ble_eq_true rfl, Nat.le_of_ble_eq_true rfl⟩ hk0 (by decide) rfl hP hS rfl hl.1 rfl (Nat.le_of_ble_eq_true rfl) dX9_parsed_34) hS (fun H locs hP hS => ?_)
        refine lv_istore_n (lv' := [(3, .int q8.1), (0, .ref (xad G h0)), (1, .int v1), (2, .int v2)]) hx hb dX9_parsed_37 rfl hl (by decide) rfl (fun ls hl => ?_)
        refine lv_iload_n hx hb dX9_parsed_38 rfl (lv_at hl 0 rfl) ?_
        refine lv_if_eq (tgt := 44) hx hb dX9_parsed_39 (by decide) (fun c9 => ?_) (fun c9 => ?_)
        · replace hM := (if_pos c9).symm.trans hM
          refine lv_goto (tgt := 12) hx hb dX9_parsed_44 (by decide) ?_
          exact ih q8.2 h0 v1 v2 _ _ _ hM hk0 hP hS (lv_sub hl [1, 2, 3] rfl)
        · replace hM := (if_neg c9).symm.trans hM
          refine lv_iload_n hx hb dX9_parsed_42 rfl (lv_at hl 0 rfl) ?_
          exact x_iret X hP hS hM dX9_parsed_43
      · replace hM := (if_neg c7).symm.trans hM
        refine lv_aload_n hx hb dX9_parsed_23 rfl (lv_at hl 0 rfl) ?_
        refine lv_iload_n hx hb dX9_parsed_24 rfl (lv_at hl 1 rfl) ?_
        obtain ⟨q10, eq10, hM⟩ := xb hM
        refine x_goi (x_runV (rest := []) X (kX9_behindOne l G S h0 v1 q10.1 q10.2 hk0 eq10) qw273 okX9_behindOne ⟨Nat.le_of_ble_eq_true rfl, Nat.le_of_ble_eq_true rfl⟩ hk0 (by decide) rfl hP hS rfl hl.1 rfl (Nat.le_of_ble_eq_true rfl) dX9_parsed_25) hS (fun H locs hP hS => ?_)
        refine lv_istore_n (lv' := [(2, .int q10.1), (0, .ref (xad G h0)), (1, .int v1)]) hx hb dX9_parsed_28 rfl hl (by decide) rfl (fun ls hl => ?_)
        refine lv_goto (tgt := 12) hx hb dX9_parsed_29 (by decide) ?_
        exact ih q10.2 h0 v1 q10.1 _ _ _ hM hk0 hP hS (lv_sub hl [1, 2, 0] rfl)
def mX9_parsed (S : xS) (h0 : Nat) (p1 : Int32) : Option (Int32 × xS) := xlet (pI S h0 17 0) fun S1 => xlet (pI S1 h0 19 0) fun S2 => lX9_parsed_12  5000 S2 h0 p1 1
set_option maxHeartbeats 4000000 in
set_option maxRecDepth 100000 in
theorem kX9_parsed (l : Launch) (G : xG) (S : xS) (h0 : Nat) (p1 : Int32) (r : Int32) (S' : xS) (hk0 : xk Ym h0 = 9) (hM : mX9_parsed S h0 p1 = some (r, S')) : xM l yX9_parsed cX9_parsed 4 (some .int) 5 113 G Ym [.ref (xad G h0), .int p1] S (xQi G Ym r S') := by
  refine x_start (own := RX9) (by decide +kernel) rfl (Nat.le_of_ble_eq_true rfl) ?_
  intro p e s m below meth c ls X hl hP hS
  obtain ⟨hx, hb, hml, hown, hts, hr, hlk, hK, hE, hJ⟩ := id X
  have hl : lv_has ls 4 [(0, .ref (xad G h0)), (1, .int p1)] := hl
  unfold mX9_parsed at hM
  refine lv_aload_n hx hb dX9_parsed_0 rfl (lv_at hl 0 rfl) ?_
  refine lv_iconst (v := 0) hx hb dX9_parsed_1 (by decide) ?_
  obtain ⟨S1, eS1, hM⟩ := xlet_ex hM
  refine fpX9_17 X hP hS hk0 qw247 dX9_parsed_2 eS1 (fun H locs hP hS => ?_)
  refine lv_aload_n hx hb dX9_parsed_5 rfl (lv_at hl 0 rfl) ?_
  refine lv_iconst (v := 0) hx hb dX9_parsed_6 (by decide) ?_
  obtain ⟨S2, eS2, hM⟩ := xlet_ex hM
  refine fpX9_19 X hP hS (Or.inl rfl) hk0 qw251 dX9_parsed_7 eS2 (fun H locs hP hS => ?_)
  refine lv_iconst (v := 1) hx hb dX9_parsed_10 (by decide) ?_
  refine lv_istore_n (lv' := [(2, .int 1), (0, .ref (xad G h0)), (1, .int p1)]) hx hb dX9_parsed_11 rfl hl (by decide) rfl (fun ls hl => ?_)
  exact wX9_parsed_12 X  5000 S2 h0 p1 1 _ _ _ hM hk0 hP hS (lv_sub hl [1, 2, 0] rfl)

def mX9_sortOf (S : xS) (h0 : Nat) : Option (Int32 × xS) := (mX9_w6 S 115 108 105 99 101 115).bind fun q1 => (mX9_isWord q1.2 h0 q1.1).bind fun q2 => if (q2.1 = 0 : Prop) then ((mX9_w4 q2.2 101 97 116 115).bind fun q4 => (mX9_isWord q4.2 h0 q4.1).bind fun q5 => if (q5.1 = 0 : Prop) then ((mX9_w4 q5.2 115 101 97 116).bind fun q7 => (mX9_isWord q7.2 h0 q7.1).bind fun q8 => if (q8.1 = 0 : Prop) then ((mX9_w4 q8.2 104 105 100 101).bind fun q10 => (mX9_isWord q10.2 h0 q10.1).bind fun q11 => if (q11.1 = 0 : Prop) then ((mX9_w4 q11.2 103 105 118 101).bind fun q13 => (mX9_isWord q13.2 h0 q13.1).bind fun q14 => if (q14.1 = 0 : Prop) then ((mX9_w4 q14.2 112 97 115 115).bind fun q16 => (mX9_isWord q16.2 h0 q16.1).bind fun q17 => if (q17.1 = 0 : Prop) then (some ((-1), q17.2)) else (some (5, q17.2))) else (some (4, q14.2))) else (some (3, q11.2))) else (some (2, q8.2))) else (some (1, q5.2))) else (some (0, q2.2))
set_option maxHeartbeats 4000000 in
set_option maxRecDepth 100000 in
theorem kX9_sortOf (l : Launch) (G : xG) (S : xS) (h0 : Nat) (r : Int32) (S' : xS) (hk0 : xk Ym h0 = 9) (hM : mX9_sortOf S h0 = some (r, S')) : xM l yX9_sortOf cX9_sortOf 1 (some .int) 3 71 G Ym [.ref (xad G h0)] S (xQi G Ym r S') := by
  refine x_start (own := RX9) (by decide +kernel) rfl (Nat.le_of_ble_eq_true rfl) ?_
  intro p e s m below meth c ls X hl hP hS
  obtain ⟨hx, hb, hml, hown, hts, hr, hlk, hK, hE, hJ⟩ := id X
  have hl : lv_has ls 1 [(0, .ref (xad G h0))] := hl
  unfold mX9_sortOf at hM
  refine lv_aload_n hx hb dX9_sortOf_0 rfl (lv_at hl 0 rfl) ?_
  refine lv_bipush (v := 115) hx hb dX9_sortOf_1 (by decide) ?_
  refine lv_bipush (v := 108) hx hb dX9_sortOf_3 (by decide) ?_
  refine lv_bipush (v := 105) hx hb dX9_sortOf_5 (by decide) ?_
  refine lv_bipush (v := 99) hx hb dX9_sortOf_7 (by decide) ?_
  refine lv_bipush (v := 101) hx hb dX9_sortOf_9 (by decide) ?_
  refine lv_bipush (v := 115) hx hb dX9_sortOf_11 (by decide) ?_
  obtain ⟨q1, eq1, hM⟩ := xb hM
  refine x_gol (x_runS (rest := [.ref (xad G h0)]) X (kX9_w6 l G S 115 108 105 99 101 115 q1.1 q1.2  eq1) qw258 okX9_w6 ⟨Nat.le_of_ble_eq_true rfl, Nat.le_of_ble_eq_true rfl⟩ hP hS rfl hl.1 rfl (Nat.le_of_ble_eq_true rfl) dX9_sortOf_13) hS (fun H locs hP hS => ?_)
  obtain ⟨q2, eq2, hM⟩ := xb hM
  refine x_goi (x_runV (rest := []) X (kX9_isWord l G q1.2 h0 q1.1 q2.1 q2.2 hk0 eq2) qw265 okX9_isWord ⟨Nat.le_of_ble_eq_true rfl, Nat.le_of_ble_eq_true rfl⟩ hk0 (by decide) rfl hP hS rfl hl.1 rfl (Nat.le_of_ble_eq_true rfl) dX9_sortOf_16) hS (fun H locs hP hS => ?_)
  refine lv_if_eq (tgt := 24) hx hb dX9_sortOf_19 (by decide) (fun c3 => ?_) (fun c3 => ?_)
  · replace hM := (if_pos c3).symm.trans hM
    refine lv_aload_n hx hb dX9_sortOf_24 rfl (lv_at hl 0 rfl) ?_
    refine lv_bipush (v := 101) hx hb dX9_sortOf_25 (by decide) ?_
    refine lv_bipush (v := 97) hx hb dX9_sortOf_27 (by decide) ?_
    refine lv_bipush (v := 116) hx hb dX9_sortOf_29 (by decide) ?_
    refine lv_bipush (v := 115) hx hb dX9_sortOf_31 (by decide) ?_
    obtain ⟨q4, eq4, hM⟩ := xb hM
    refine x_gol (x_runS (rest := [.ref (xad G h0)]) X (kX9_w4 l G q2.2 101 97 116 115 q4.1 q4.2  eq4) qw257 okX9_w4 ⟨Nat.le_of_ble_eq_true rfl, Nat.le_of_ble_eq_true rfl⟩ hP hS rfl hl.1 rfl (Nat.le_of_ble_eq_true rfl) dX9_sortOf_33) hS (fun H locs hP hS => ?_)
    obtain ⟨q5, eq5, hM⟩ := xb hM
    refine x_goi (x_runV (rest := []) X (kX9_isWord l G q4.2 h0 q4.1 q5.1 q5.2 hk0 eq5) qw265 okX9_isWord ⟨Nat.le_of_ble_eq_true rfl, Nat.le_of_ble_eq_true rfl⟩ hk0 (by decide) rfl hP hS rfl hl.1 rfl (Nat.le_of_ble_eq_true rfl) dX9_sortOf_36) hS (fun H locs hP hS => ?_)
    refine lv_if_eq (tgt := 44) hx hb dX9_sortOf_39 (by decide) (fun c6 => ?_) (fun c6 => ?_)
    · replace hM := (if_pos c6).symm.trans hM
      refine lv_aload_n hx hb dX9_sortOf_44 rfl (lv_at hl 0 rfl) ?_
      refine lv_bipush (v := 115) hx hb dX9_sortOf_45 (by decide) ?_
      refine lv_bipush (v := 101) hx hb dX9_sortOf_47 (by decide) ?_
      refine lv_bipush (v := 97) hx hb dX9_sortOf_49 (by decide) ?_
      refine lv_bipush (v := 116) hx hb dX9_sortOf_51 (by decide) ?_
      obtain ⟨q7, eq7, hM⟩ := xb hM
      refine x_gol (x_runS (rest := [.ref (xad G h0)]) X (kX9_w4 l G q5.2 115 101 97 116 q7.1 q7.2  eq7) qw257 okX9_w4 ⟨Nat.le_of_ble_eq_true rfl, Nat.le_of_ble_eq_true rfl⟩ hP hS rfl hl.1 rfl (Nat.le_of_ble_eq_true rfl) dX9_sortOf_53) hS (fun H locs hP hS => ?_)
      obtain ⟨q8, eq8, hM⟩ := xb hM
      refine x_goi (x_runV (rest := []) X (kX9_isWord l G q7.2 h0 q7.1 q8.1 q8.2 hk0 eq8) qw265 okX9_isWord ⟨Nat.le_of_ble_eq_true rfl, Nat.le_of_ble_eq_true rfl⟩ hk0 (by decide) rfl hP hS rfl hl.1 rfl (Nat.le_of_ble_eq_true rfl) dX9_sortOf_56) hS (fun H locs hP hS => ?_)
      refine lv_if_eq (tgt := 64) hx hb dX9_sortOf_59 (by decide) (fun c9 => ?_) (fun c9 => ?_)
      · replace hM := (if_pos c9).symm.trans hM
        refine lv_aload_n hx hb dX9_sortOf_64 rfl (lv_at hl 0 rfl) ?_
        refine lv_bipush (v := 104) hx hb dX9_sortOf_65 (by decide) ?_
        refine lv_bipush (v := 105) hx hb dX9_sortOf_67 (by decide) ?_
        refine lv_bipush (v := 100) hx hb dX9_sortOf_69 (by decide) ?_
        refine lv_bipush (v := 101) hx hb dX9_sortOf_71 (by decide) ?_
        obtain ⟨q10, eq10, hM⟩ := xb hM
        refine x_gol (x_runS (rest := [.ref (xad G h0)]) X (kX9_w4 l G q8.2 104 105 100 101 q10.1 q10.2  eq10) qw257 okX9_w4 ⟨Nat.le_of_ble_eq_true rfl, Nat.le_of_ble_eq_true rfl⟩ hP hS rfl hl.1 rfl (Nat.le_of_ble_eq_true rfl) dX9_sortOf_73) hS (fun H locs hP hS => ?_)
        obtain ⟨q11, eq11, hM⟩ := xb hM
        refine x_goi (x_runV (rest := []) X (kX9_isWord l G q10.2 h0 q10.1 q11.1 q11.2 hk0 eq11) qw265 okX9_isWord ⟨Nat.le_of_ble_eq_true rfl, Nat.le_of_ble_eq_true rfl⟩ hk0 (by decide) rfl hP hS rfl hl.1 rfl (Nat.le_of_ble_eq_true rfl) dX9_sortOf_76) hS (fun H locs hP hS => ?_)
        refine lv_if_eq (tgt := 84) hx hb dX9_sortOf_79 (by decide) (fun c12 => ?_) (fun c12 => ?_)
        · replace hM := (if_pos c12).symm.trans hM
          refine lv_aload_n hx hb dX9_sortOf_84 rfl (lv_at hl 0 rfl) ?_
          refine lv_bipush (v := 103) hx hb dX9_sortOf_85 (by decide) ?_
          refine lv_bipush (v := 105) hx hb dX9_sortOf_87 (by decide) ?_
          refine lv_bipush (v := 118) hx hb dX9_sortOf_89 (by decide) ?_
          refine lv_bipush (v := 101) hx hb dX9_sortOf_91 (by decide) ?_
          obtain ⟨q13, eq13, hM⟩ := xb hM
          refine x_gol (x_runS (rest := [.ref (xad G h0)]) X (kX9_w4 l G q11.2 103 105 118 101 q13.1 q13.2  eq13) qw257 okX9_w4 ⟨Nat.le_of_ble_eq_true rfl, Nat.le_of_ble_eq_true rfl⟩ hP hS rfl hl.1 rfl (Nat.le_of_ble_eq_true rfl) dX9_sortOf_93) hS (fun H locs hP hS => ?_)
          obtain ⟨q14, eq14, hM⟩ := xb hM
          refine x_goi (x_runV (rest := []) X (kX9_isWord l G q13.2 h0 q13.1 q14.1 q14.2 hk0 eq14) qw265 okX9_isWord ⟨Nat.le_of_ble_eq_true rfl, Nat.le_of_ble_eq_true rfl⟩ hk0 (by decide) rfl hP hS rfl hl.1 rfl (Nat.le_of_ble_eq_true rfl) dX9_sortOf_96) hS (fun H locs hP hS => ?_)
          refine lv_if_eq (tgt := 106) hx hb dX9_sortOf_99 (by decide) (fun c15 => ?_) (fun c15 => ?_)
          · replace hM := (if_pos c15).symm.trans hM
            refine lv_aload_n hx hb dX9_sortOf_106 rfl (lv_at hl 0 rfl) ?_
            refine lv_bipush (v := 112) hx hb dX9_sortOf_107 (by decide) ?_
            refine lv_bipush (v := 97) hx hb dX9_sortOf_109 (by decide) ?_
            refine lv_bipush (v := 115) hx hb dX9_sortOf_111 (by decide) ?_
            refine lv_bipush (v := 115) hx hb dX9_sortOf_113 (by decide) ?_
            obtain ⟨q16, eq16, hM⟩ := xb hM
            refine x_gol (x_runS (rest := [.ref (xad G h0)]) X (kX9_w4 l G q14.2 112 97 115 115 q16.1 q16.2  eq16) qw257 okX9_w4 ⟨Nat.le_of_ble_eq_true rfl, Nat.le_of_ble_eq_true rfl⟩ hP hS rfl hl.1 rfl (Nat.le_of_ble_eq_true rfl) dX9_sortOf_115) hS (fun H locs hP hS => ?_)
            obtain ⟨q17, eq17, hM⟩ := xb hM
            refine x_goi (x_runV (rest := []) X (kX9_isWord l G q16.2 h0 q16.1 q17.1 q17.2 hk0 eq17) qw265 okX9_isWord ⟨Nat.le_of_ble_eq_true rfl, Nat.le_of_ble_eq_true rfl⟩ hk0 (by decide) rfl hP hS rfl hl.1 rfl (Nat.le_of_ble_eq_true rfl) dX9_sortOf_118) hS (fun H locs hP hS => ?_)
            refine lv_if_eq (tgt := 128) hx hb dX9_sortOf_121 (by decide) (fun c18 => ?_) (fun c18 => ?_)
            · replace hM := (if_pos c18).symm.trans hM
              refine lv_iconst (v := (-1)) hx hb dX9_sortOf_128 (by decide) ?_
              exact x_iret X hP hS hM dX9_sortOf_129
            · replace hM := (if_neg c18).symm.trans hM
              refine lv_iconst (v := 5) hx hb dX9_sortOf_124 (by decide) ?_
              refine lv_goto (tgt := 129) hx hb dX9_sortOf_125 (by decide) ?_
              exact x_iret X hP hS hM dX9_sortOf_129
          · replace hM := (if_neg c15).symm.trans hM
            refine lv_iconst (v := 4) hx hb dX9_sortOf_102 (by decide) ?_
            refine lv_goto (tgt := 129) hx hb dX9_sortOf_103 (by decide) ?_
            exact x_iret X hP hS hM dX9_sortOf_129
        · replace hM := (if_neg c12).symm.trans hM
          refine lv_iconst (v := 3) hx hb dX9_sortOf_82 (by decide) ?_
          exact x_iret X hP hS hM dX9_sortOf_83
      · replace hM := (if_neg c9).symm.trans hM
        refine lv_iconst (v := 2) hx hb dX9_sortOf_62 (by decide) ?_
        exact x_iret X hP hS hM dX9_sortOf_63
    · replace hM := (if_neg c6).symm.trans hM
      refine lv_iconst (v := 1) hx hb dX9_sortOf_42 (by decide) ?_
      exact x_iret X hP hS hM dX9_sortOf_43
  · replace hM := (if_neg c3).symm.trans hM
    refine lv_iconst (v := 0) hx hb dX9_sortOf_22 (by decide) ?_
    exact x_iret X hP hS hM dX9_sortOf_23

def mX9_figure (S : xS) (h0 : Nat) (p1 : Int32) (p2 : Int32) (p3 : Int32) : Option (Int32 × xS) := if ((gI S h0 9) = 1 : Prop) then ((mX9_isIn S (gI S h0 10) p2 p3).bind fun q2 => if (q2.1 = 0 : Prop) then (some (2, q2.2)) else ((dO Ym (gR q2.2 h0 2) 10).bind fun d4 => (sI Ym q2.2 d4 p1 (gI q2.2 h0 10)).bind fun S5 => (mX9_nextToken S5 h0).bind fun S6 => some (0, S6))) else (some (1, S))
set_option maxHeartbeats 4000000 in
set_option maxRecDepth 100000 in
theorem kX9_figure (l : Launch) (G : xG) (S : xS) (h0 : Nat) (p1 : Int32) (p2 : Int32) (p3 : Int32) (r : Int32) (S' : xS) (hk0 : xk Ym h0 = 9) (hM : mX9_figure S h0 p1 p2 p3 = some (r, S')) : xM l yX9_figure cX9_figure 4 (some .int) 3 64 G Ym [.ref (xad G h0), .int p1, .int p2, .int p3] S (xQi G Ym r S') := by
  refine x_start (own := RX9) (by decide +kernel) rfl (Nat.le_of_ble_eq_true rfl) ?_
  intro p e s m below meth c ls X hl hP hS
  obtain ⟨hx, hb, hml, hown, hts, hr, hlk, hK, hE, hJ⟩ := id X
  have hl : lv_has ls 4 [(0, .ref (xad G h0)), (1, .int p1), (2, .int p2), (3, .int p3)] := hl
  unfold mX9_figure at hM
  refine lv_aload_n hx hb dX9_figure_0 rfl (lv_at hl 0 rfl) ?_
  refine fgX9_9 X hP hk0 qw237 dX9_figure_1 ?_
  refine lv_iconst (v := 1) hx hb dX9_figure_4 (by decide) ?_
  refine lv_icmp_eq (tgt := 10) hx hb dX9_figure_5 (by decide) (fun c1 => ?_) (fun c1 => ?_)
  · replace hM := (if_pos c1).symm.trans hM
    refine lv_aload_n hx hb dX9_figure_10 rfl (lv_at hl 0 rfl) ?_
    refine fgX9_10 X hP hk0 qw239 dX9_figure_11 ?_
    refine lv_iload_n hx hb dX9_figure_14 rfl (lv_at hl 2 rfl) ?_
    refine lv_iload_n hx hb dX9_figure_15 rfl (lv_at hl 3 rfl) ?_
    obtain ⟨q2, eq2, hM⟩ := xb hM
    refine x_goi (x_runS (rest := []) X (kX9_isIn l G S (gI S h0 10) p2 p3 q2.1 q2.2  eq2) qw228 okX9_isIn ⟨Nat.le_of_ble_eq_true rfl, Nat.le_of_ble_eq_true rfl⟩ hP hS rfl hl.1 rfl (Nat.le_of_ble_eq_true rfl) dX9_figure_16) hS (fun H locs hP hS => ?_)
    refine lv_if_ne (tgt := 24) hx hb dX9_figure_19 (by decide) (fun c3 => ?_) (fun c3 => ?_)
    · replace hM := (if_neg c3).symm.trans hM
      refine lv_aload_n hx hb dX9_figure_24 rfl (lv_at hl 0 rfl) ?_
      obtain ⟨d4, ed4, hM⟩ := xb hM
      refine fdX9_2 X hP hk0 qw243 dX9_figure_25 ed4 ?_
      refine lv_iload_n hx hb dX9_figure_28 rfl (lv_at hl 1 rfl) ?_
      refine lv_aload_n hx hb dX9_figure_29 rfl (lv_at hl 0 rfl) ?_
      refine fgX9_10 X hP hk0 qw239 dX9_figure_30 ?_
      obtain ⟨S5, eS5, hM⟩ := xb hM
      refine x_iast X hP hS (dO_k ed4) eS5 dX9_figure_33 (fun H locs hP hS => ?_)
      refine lv_aload_n hx hb dX9_figure_34 rfl (lv_at hl 0 rfl) ?_
      obtain ⟨S6, eS6, hM⟩ := xb hM
      refine x_gov (x_runV (rest := []) X (kX9_nextToken l G S5 h0 S6 hk0 eS6) qw256 okX9_nextToken ⟨Nat.le_of_ble_eq_true rfl, Nat.le_of_ble_eq_true rfl⟩ hk0 (by decide) rfl hP hS rfl hl.1 rfl (Nat.le_of_ble_eq_true rfl) dX9_figure_35) hS (fun H locs hP hS => ?_)
      refine lv_iconst (v := 0) hx hb dX9_figure_38 (by decide) ?_
      exact x_iret X hP hS hM dX9_figure_39
    · replace hM := (if_pos c3).symm.trans hM
      refine lv_iconst (v := 2) hx hb dX9_figure_22 (by decide) ?_
      exact x_iret X hP hS hM dX9_figure_23
  · replace hM := (if_neg c1).symm.trans hM
    refine lv_iconst (v := 1) hx hb dX9_figure_8 (by decide) ?_
    exact x_iret X hP hS hM dX9_figure_9

def jX9_line_43 (S : xS) (h0 : Nat) (v1 : Int32) (v2 : Int32) (t0 : Int32) : Option (Int32 × xS) := if (t0 = 0 : Prop) then (if ((gI S h0 9) = 2 : Prop) then (if ((lg_cmp (gJ S h0 11) 24948) = 0 : Prop) then ((mX9_nextToken S h0).bind fun S4 => if (v1 = 2 : Prop) then ((mX9_figure S4 h0 (v2 + 2) 0 2).bind fun q7 => some (q7.1, q7.2)) else ((mX9_figure S4 h0 (v2 + 2) 0 1).bind fun q6 => some (q6.1, q6.2))) else (some (1, S))) else (some (1, S))) else (some (t0, S))
set_option maxHeartbeats 4000000 in
set_option maxRecDepth 100000 in
theorem wX9_line_43 {p : Program} {l : Launch} {e : Env} {s : State} {m : MethodId} {args : Array Value} {below : List Frame} {meth : Method} {c : Code} {G : xG} {r : Int32} {S' : xS} (X : xX p s m args meth c cX9_line 4 (some .int) RX9 G Ym) : ∀ (S : xS) (h0 : Nat) (v1 : Int32) (v2 : Int32) (t0 : Int32) (H : Heap) (locs : List Loc) (ls : Array Slot), jX9_line_43  S h0 v1 v2 t0 = some (r, S') → xk Ym h0 = 9 → xP G Ym S H → va_S (xA G Ym) s.heap H locs → lv_has ls 4 [(0, .ref (xad G h0)), (1, .int v1), (2, .int v2)] → W p l e (xr 4 87) s m args below meth c H locs 0 0 (MQ below (xQi G Ym r S') args s 0 0 (xA G Ym)) (F0 m 43 ls [.int t0]) := by
  obtain ⟨hx, hb, hml, hown, hts, hr, hlk, hK, hE, hJ⟩ := id X
  intro S h0 v1 v2 t0 H locs ls hM hk0 hP hS hl
  unfold jX9_line_43 at hM
  refine lv_istore_n (lv' := [(3, .int t0), (0, .ref (xad G h0)), (1, .int v1), (2, .int v2)]) hx hb dX9_line_43 rfl hl (by decide) rfl (fun ls hl => ?_)
  refine lv_iload_n hx hb dX9_line_44 rfl (lv_at hl 0 rfl) ?_
  refine lv_if_eq (tgt := 50) hx hb dX9_line_45 (by decide) (fun c1 => ?_) (fun c1 => ?_)
  · replace hM := (if_pos c1).symm.trans hM
    refine lv_aload_n hx hb dX9_line_50 rfl (lv_at hl 1 rfl) ?_
    refine fgX9_9 X hP hk0 qw237 dX9_line_51 ?_
    refine lv_iconst (v := 2) hx hb dX9_line_54 (by decide) ?_
    refine lv_icmp_ne (tgt := 69) hx hb dX9_line_55 (by decide) (fun c2 => ?_) (fun c2 => ?_)
    · replace hM := (if_neg c2).symm.trans hM
      refine lv_iconst (v := 1) hx hb dX9_line_69 (by decide) ?_
      exact x_iret X hP hS hM dX9_line_70
    · replace hM := (if_pos c2).symm.trans hM
      refine lv_aload_n hx hb dX9_line_58 rfl (lv_at hl 1 rfl) ?_
      refine fgX9_11 X hP hk0 qw238 dX9_line_59 ?_
      refine x_ldc2 X qw275 dX9_line_62 ?_
      refine W.lcmp hx hb dX9_line_65 ?_
      refine lv_if_eq (tgt := 71) hx hb dX9_line_66 (by decide) (fun c3 => ?_) (fun c3 => ?_)
      · replace hM := (if_pos c3).symm.trans hM
        refine lv_aload_n hx hb dX9_line_71 rfl (lv_at hl 1 rfl) ?_
        obtain ⟨S4, eS4, hM⟩ := xb hM
        refine x_gov (x_runV (rest := []) X (kX9_nextToken l G S h0 S4 hk0 eS4) qw256 okX9_nextToken ⟨Nat.le_of_ble_eq_true rfl, Nat.le_of_ble_eq_true rfl⟩ hk0 (by decide) rfl hP hS rfl hl.1 rfl (Nat.le_of_ble_eq_true rfl) dX9_line_72) hS (fun H locs hP hS => ?_)
        refine lv_aload_n hx hb dX9_line_75 rfl (lv_at hl 1 rfl) ?_
        refine lv_iload_n hx hb dX9_line_76 rfl (lv_at hl 3 rfl) ?_
        refine lv_iconst (v := 2) hx hb dX9_line_77 (by decide) ?_
        refine lv_iadd hx hb dX9_line_78 ?_
        refine lv_iconst (v := 0) hx hb dX9_line_79 (by decide) ?_
        refine lv_iload_n hx hb dX9_line_80 rfl (lv_at hl 2 rfl) ?_
        refine lv_iconst (v := 2) hx hb dX9_line_81 (by decide) ?_
        refine lv_icmp_ne (tgt := 89) hx hb dX9_line_82 (by decide) (fun c5 => ?_) (fun c5 => ?_)
        · replace hM := (if_neg c5).symm.trans hM
          refine lv_iconst (v := 1) hx hb dX9_line_89 (by decide) ?_
          obtain ⟨q6, eq6, hM⟩ := xb hM
          refine x_goi (x_runV (rest := []) X (kX9_figure l G S4 h0 (v2 + 2) 0 1 q6.1 q6.2 hk0 eq6) qw274 okX9_figure ⟨Nat.le_of_ble_eq_true rfl, Nat.le_of_ble_eq_true rfl⟩ hk0 (by decide) rfl hP hS rfl hl.1 rfl (Nat.le_of_ble_eq_true rfl) dX9_line_90) hS (fun H locs hP hS => ?_)
          exact x_iret X hP hS hM dX9_line_93
        · replace hM := (if_pos c5).symm.trans hM
          refine lv_iconst (v := 2) hx hb dX9_line_85 (by decide) ?_
          refine lv_goto (tgt := 90) hx hb dX9_line_86 (by decide) ?_
          obtain ⟨q7, eq7, hM⟩ := xb hM
          refine x_goi (x_runV (rest := []) X (kX9_figure l G S4 h0 (v2 + 2) 0 2 q7.1 q7.2 hk0 eq7) qw274 okX9_figure ⟨Nat.le_of_ble_eq_true rfl, Nat.le_of_ble_eq_true rfl⟩ hk0 (by decide) rfl hP hS rfl hl.1 rfl (Nat.le_of_ble_eq_true rfl) dX9_line_90) hS (fun H locs hP hS => ?_)
          exact x_iret X hP hS hM dX9_line_93
      · replace hM := (if_neg c3).symm.trans hM
        refine lv_iconst (v := 1) hx hb dX9_line_69 (by decide) ?_
        exact x_iret X hP hS hM dX9_line_70
  · replace hM := (if_neg c1).symm.trans hM
    refine lv_iload_n hx hb dX9_line_48 rfl (lv_at hl 0 rfl) ?_
    exact x_iret X hP hS hM dX9_line_49
def mX9_line (S : xS) (h0 : Nat) (p1 : Int32) (p2 : Int32) : Option (Int32 × xS) := if (p1 = 5 : Prop) then ((mX9_figure S h0 (p2 + 1) 1 99).bind fun q5 => some (q5.1, q5.2)) else (if (p1 = 2 : Prop) then ((mX9_figure S h0 (p2 + 1) 0 5).bind fun q4 => jX9_line_43  q4.2 h0 p1 p2 q4.1) else ((mX9_figure S h0 (p2 + 1) 1 9).bind fun q3 => jX9_line_43  q3.2 h0 p1 p2 q3.1))
set_option maxHeartbeats 4000000 in
set_option maxRecDepth 100000 in
theorem kX9_line (l : Launch) (G : xG) (S : xS) (h0 : Nat) (p1 : Int32) (p2 : Int32) (r : Int32) (S' : xS) (hk0 : xk Ym h0 = 9) (hM : mX9_line S h0 p1 p2 = some (r, S')) : xM l yX9_line cX9_line 4 (some .int) 4 87 G Ym [.ref (xad G h0), .int p1, .int p2] S (xQi G Ym r S') := by
  refine x_start (own := RX9) (by decide +kernel) rfl (Nat.le_of_ble_eq_true rfl) ?_
  intro p e s m below meth c ls X hl hP hS
  obtain ⟨hx, hb, hml, hown, hts, hr, hlk, hK, hE, hJ⟩ := id X
  have hl : lv_has ls 4 [(0, .ref (xad G h0)), (1, .int p1), (2, .int p2)] := hl
  unfold mX9_line at hM
  refine lv_iload_n hx hb dX9_line_0 rfl (lv_at hl 1 rfl) ?_
  refine lv_iconst (v := 5) hx hb dX9_line_1 (by decide) ?_
  refine lv_icmp_ne (tgt := 16) hx hb dX9_line_2 (by decide) (fun c1 => ?_) (fun c1 => ?_)
  · replace hM := (if_neg c1).symm.trans hM
    refine lv_iload_n hx hb dX9_line_16 rfl (lv_at hl 1 rfl) ?_
    refine lv_iconst (v := 2) hx hb dX9_line_17 (by decide) ?_
    refine lv_icmp_ne (tgt := 33) hx hb dX9_line_18 (by decide) (fun c2 => ?_) (fun c2 => ?_)
    · replace hM := (if_neg c2).symm.trans hM
      refine lv_aload_n hx hb dX9_line_33 rfl (lv_at hl 0 rfl) ?_
      refine lv_iload_n hx hb dX9_line_34 rfl (lv_at hl 2 rfl) ?_
      refine lv_iconst (v := 1) hx hb dX9_line_35 (by decide) ?_
      refine lv_iadd hx hb dX9_line_36 ?_
      refine lv_iconst (v := 1) hx hb dX9_line_37 (by decide) ?_
      refine lv_bipush (v := 9) hx hb dX9_line_38 (by decide) ?_
      obtain ⟨q3, eq3, hM⟩ := xb hM
      refine x_goi (x_runV (rest := []) X (kX9_figure l G S h0 (p2 + 1) 1 9 q3.1 q3.2 hk0 eq3) qw274 okX9_figure ⟨Nat.le_of_ble_eq_true rfl, Nat.le_of_ble_eq_true rfl⟩ hk0 (by decide) rfl hP hS rfl hl.1 rfl (Nat.le_of_ble_eq_true rfl) dX9_line_40) hS (fun H locs hP hS => ?_)
      exact wX9_line_43 X  q3.2 h0 p1 p2 q3.1 _ _ _ hM hk0 hP hS (lv_sub hl [0, 1, 2] rfl)
    · replace hM := (if_pos c2).symm.trans hM
      refine lv_aload_n hx hb dX9_line_21 rfl (lv_at hl 0 rfl) ?_
      refine lv_iload_n hx hb dX9_line_22 rfl (lv_at hl 2 rfl) ?_
      refine lv_iconst (v := 1) hx hb dX9_line_23 (by decide) ?_
      refine lv_iadd hx hb dX9_line_24 ?_
      refine lv_iconst (v := 0) hx hb dX9_line_25 (by decide) ?_
      refine lv_iconst (v := 5) hx hb dX9_line_26 (by decide) ?_
      obtain ⟨q4, eq4, hM⟩ := xb hM
      refine x_goi (x_runV (rest := []) X (kX9_figure l G S h0 (p2 + 1) 0 5 q4.1 q4.2 hk0 eq4) qw274 okX9_figure ⟨Nat.le_of_ble_eq_true rfl, Nat.le_of_ble_eq_true rfl⟩ hk0 (by decide) rfl hP hS rfl hl.1 rfl (Nat.le_of_ble_eq_true rfl) dX9_line_27) hS (fun H locs hP hS => ?_)
      refine lv_goto (tgt := 43) hx hb dX9_line_30 (by decide) ?_
      exact wX9_line_43 X  q4.2 h0 p1 p2 q4.1 _ _ _ hM hk0 hP hS (lv_sub hl [0, 1, 2] rfl)
  · replace hM := (if_pos c1).symm.trans hM
    refine lv_aload_n hx hb dX9_line_5 rfl (lv_at hl 0 rfl) ?_
    refine lv_iload_n hx hb dX9_line_6 rfl (lv_at hl 2 rfl) ?_
    refine lv_iconst (v := 1) hx hb dX9_line_7 (by decide) ?_
    refine lv_iadd hx hb dX9_line_8 ?_
    refine lv_iconst (v := 1) hx hb dX9_line_9 (by decide) ?_
    refine lv_bipush (v := 99) hx hb dX9_line_10 (by decide) ?_
    obtain ⟨q5, eq5, hM⟩ := xb hM
    refine x_goi (x_runV (rest := []) X (kX9_figure l G S h0 (p2 + 1) 1 99 q5.1 q5.2 hk0 eq5) qw274 okX9_figure ⟨Nat.le_of_ble_eq_true rfl, Nat.le_of_ble_eq_true rfl⟩ hk0 (by decide) rfl hP hS rfl hl.1 rfl (Nat.le_of_ble_eq_true rfl) dX9_line_12) hS (fun H locs hP hS => ?_)
    exact x_iret X hP hS hM dX9_line_15

def jX9_clause_155 (S : xS) (h0 : Nat) : Option (Int32 × xS) := (dO Ym (gR S h0 2) 10).bind fun d1 => (aI Ym S d1 (gI S h0 12)).bind fun x2 => (sI Ym S d1 (gI S h0 12) (x2 + 1)).bind fun S3 => if ((gI S3 h0 9) = 59 : Prop) then ((mX9_nextToken S3 h0).bind fun S5 => some (0, S5)) else (some (1, S3))
set_option maxHeartbeats 4000000 in
set_option maxRecDepth 100000 in
theorem wX9_clause_155 {p : Program} {l : Launch} {e : Env} {s : State} {m : MethodId} {args : Array Value} {below : List Frame} {meth : Method} {c : Code} {G : xG} {r : Int32} {S' : xS} (X : xX p s m args meth c cX9_clause 6 (some .int) RX9 G Ym) : ∀ (S : xS) (h0 : Nat) (H : Heap) (locs : List Loc) (ls : Array Slot), jX9_clause_155  S h0 = some (r, S') → xk Ym h0 = 9 → xP G Ym S H → va_S (xA G Ym) s.heap H locs → lv_has ls 6 [(0, .ref (xad G h0))] → W p l e (xr 6 136) s m args below meth c H locs 0 0 (MQ below (xQi G Ym r S') args s 0 0 (xA G Ym)) (F0 m 155 ls []) := by
  obtain ⟨hx, hb, hml, hown, hts, hr, hlk, hK, hE, hJ⟩ := id X
  intro S h0 H locs ls hM hk0 hP hS hl
  unfold jX9_clause_155 at hM
  refine lv_aload_n hx hb dX9_clause_155 rfl (lv_at hl 0 rfl) ?_
  obtain ⟨d1, ed1, hM⟩ := xb hM
  refine fdX9_2 X hP hk0 qw243 dX9_clause_156 ed1 ?_
  refine lv_aload_n hx hb dX9_clause_159 rfl (lv_at hl 0 rfl) ?_
  refine fgX9_12 X hP hk0 qw244 dX9_clause_160 ?_
  refine lv_dup2_11 hx hb dX9_clause_163 rfl rfl ?_
  obtain ⟨x2, ex2, hM⟩ := xb hM
  refine x_iald X hP (dO_k ed1) ex2 dX9_clause_164 ?_
  refine lv_iconst (v := 1) hx hb dX9_clause_165 (by decide) ?_
  refine lv_iadd hx hb dX9_clause_166 ?_
  obtain ⟨S3, eS3, hM⟩ := xb hM
  refine x_iast X hP hS (dO_k ed1) eS3 dX9_clause_167 (fun H locs hP hS => ?_)
  refine lv_aload_n hx hb dX9_clause_168 rfl (lv_at hl 0 rfl) ?_
  refine fgX9_9 X hP hk0 qw237 dX9_clause_169 ?_
  refine lv_bipush (v := 59) hx hb dX9_clause_172 (by decide) ?_
  refine lv_icmp_eq (tgt := 179) hx hb dX9_clause_174 (by decide) (fun c4 => ?_) (fun c4 => ?_)
  · replace hM := (if_pos c4).symm.trans hM
    refine lv_aload_n hx hb dX9_clause_179 rfl (lv_at hl 0 rfl) ?_
    obtain ⟨S5, eS5, hM⟩ := xb hM
    refine x_gov (x_runV (rest := []) X (kX9_nextToken l G S3 h0 S5 hk0 eS5) qw256 okX9_nextToken ⟨Nat.le_of_ble_eq_true rfl, Nat.le_of_ble_eq_true rfl⟩ hk0 (by decide) rfl hP hS rfl hl.1 rfl (Nat.le_of_ble_eq_true rfl) dX9_clause_180) hS (fun H locs hP hS => ?_)
    refine lv_iconst (v := 0) hx hb dX9_clause_183 (by decide) ?_
    exact x_iret X hP hS hM dX9_clause_184
  · replace hM := (if_neg c4).symm.trans hM
    refine lv_iconst (v := 1) hx hb dX9_clause_177 (by decide) ?_
    exact x_iret X hP hS hM dX9_clause_178
def jX9_clause_118 (S : xS) (h0 : Nat) (v1 : Int32) (v3 : Int32) (v4 : Int32) (t0 : Int32) : Option (Int32 × xS) := if (t0 = 0 : Prop) then (if (2 ≤ v1 : Prop) then (jX9_clause_155  S h0) else ((dO Ym (gR S h0 2) 10).bind fun d3 => (sI Ym S d3 (v3 + 1) v4).bind fun S4 => (dO Ym (gR S4 h0 2) 10).bind fun d5 => (sI Ym S4 d5 (v3 + 2) (gI S4 h0 14)).bind fun S6 => jX9_clause_155  S6 h0)) else (some (t0, S))
set_option maxHeartbeats 4000000 in
set_option maxRecDepth 100000 in
theorem wX9_clause_118 {p : Program} {l : Launch} {e : Env} {s : State} {m : MethodId} {args : Array Value} {below : List Frame} {meth : Method} {c : Code} {G : xG} {r : Int32} {S' : xS} (X : xX p s m args meth c cX9_clause 6 (some .int) RX9 G Ym) : ∀ (S : xS) (h0 : Nat) (v1 : Int32) (v3 : Int32) (v4 : Int32) (t0 : Int32) (H : Heap) (locs : List Loc) (ls : Array Slot), jX9_clause_118  S h0 v1 v3 v4 t0 = some (r, S') → xk Ym h0 = 9 → xP G Ym S H → va_S (xA G Ym) s.heap H locs → lv_has ls 6 [(0, .ref (xad G h0)), (1, .int v1), (3, .int v3), (4, .int v4)] → W p l e (xr 6 136) s m args below meth c H locs 0 0 (MQ below (xQi G Ym r S') args s 0 0 (xA G Ym)) (F0 m 118 ls [.int t0]) := by
  obtain ⟨hx, hb, hml, hown, hts, hr, hlk, hK, hE, hJ⟩ := id X
  intro S h0 v1 v3 v4 t0 H locs ls hM hk0 hP hS hl
  unfold jX9_clause_118 at hM
  refine lv_istore (lv' := [(5, .int t0), (0, .ref (xad G h0)), (1, .int v1), (3, .int v3), (4, .int v4)]) hx hb dX9_clause_118 hl (by decide) rfl (fun ls hl => ?_)
  refine lv_iload hx hb dX9_clause_120 (lv_at hl 0 rfl) ?_
  refine lv_if_eq (tgt := 128) hx hb dX9_clause_122 (by decide) (fun c1 => ?_) (fun c1 => ?_)
  · replace hM := (if_pos c1).symm.trans hM
    refine lv_iload_n hx hb dX9_clause_128 rfl (lv_at hl 2 rfl) ?_
    refine lv_iconst (v := 2) hx hb dX9_clause_129 (by decide) ?_
    refine lv_icmp_ge (tgt := 155) hx hb dX9_clause_130 (by decide) (fun c2 => ?_) (fun c2 => ?_)
    · replace hM := (if_pos c2).symm.trans hM
      exact wX9_clause_155 X  S h0 _ _ _ hM hk0 hP hS (lv_sub hl [1] rfl)
    · replace hM := (if_neg c2).symm.trans hM
      refine lv_aload_n hx hb dX9_clause_133 rfl (lv_at hl 1 rfl) ?_
      obtain ⟨d3, ed3, hM⟩ := xb hM
      refine fdX9_2 X hP hk0 qw243 dX9_clause_134 ed3 ?_
      refine lv_iload_n hx hb dX9_clause_137 rfl (lv_at hl 3 rfl) ?_
      refine lv_iconst (v := 1) hx hb dX9_clause_138 (by decide) ?_
      refine lv_iadd hx hb dX9_clause_139 ?_
      refine lv_iload hx hb dX9_clause_140 (lv_at hl 4 rfl) ?_
      obtain ⟨S4, eS4, hM⟩ := xb hM
      refine x_iast X hP hS (dO_k ed3) eS4 dX9_clause_142 (fun H locs hP hS => ?_)
      refine lv_aload_n hx hb dX9_clause_143 rfl (lv_at hl 1 rfl) ?_
      obtain ⟨d5, ed5, hM⟩ := xb hM
      refine fdX9_2 X hP hk0 qw243 dX9_clause_144 ed5 ?_
      refine lv_iload_n hx hb dX9_clause_147 rfl (lv_at hl 3 rfl) ?_
      refine lv_iconst (v := 2) hx hb dX9_clause_148 (by decide) ?_
      refine lv_iadd hx hb dX9_clause_149 ?_
      refine lv_aload_n hx hb dX9_clause_150 rfl (lv_at hl 1 rfl) ?_
      refine fgX9_14 X hP hk0 qw245 dX9_clause_151 ?_
      obtain ⟨S6, eS6, hM⟩ := xb hM
      refine x_iast X hP hS (dO_k ed5) eS6 dX9_clause_154 (fun H locs hP hS => ?_)
      exact wX9_clause_155 X  S6 h0 _ _ _ hM hk0 hP hS (lv_sub hl [1] rfl)
  · replace hM := (if_neg c1).symm.trans hM
    refine lv_iload hx hb dX9_clause_125 (lv_at hl 0 rfl) ?_
    exact x_iret X hP hS hM dX9_clause_127
def jX9_clause_66 (S : xS) (h0 : Nat) (v1 : Int32) (v2 : Int32) : Option (Int32 × xS) := xlet (pI S h0 20 v1) fun S1 => (mX9_nextToken S1 h0).bind fun S2 => xlet (((gI S2 h0 12) + 1) + (3 * v2) : Int32) fun x3 => (dO Ym (gR S2 h0 2) 10).bind fun d4 => (sI Ym S2 d4 x3 v1).bind fun S5 => if (2 ≤ v1 : Prop) then ((mX9_line S5 h0 v1 x3).bind fun q7 => jX9_clause_118  q7.2 h0 v1 x3 (gI S5 h0 14) q7.1) else ((mX9_parsed S5 h0 0).bind fun q8 => jX9_clause_118  q8.2 h0 v1 x3 (gI S5 h0 14) q8.1)
set_option maxHeartbeats 4000000 in
set_option maxRecDepth 100000 in
theorem wX9_clause_66 {p : Program} {l : Launch} {e : Env} {s : State} {m : MethodId} {args : Array Value} {below : List Frame} {meth : Method} {c : Code} {G : xG} {r : Int32} {S' : xS} (X : xX p s m args meth c cX9_clause 6 (some .int) RX9 G Ym) : ∀ (S : xS) (h0 : Nat) (v1 : Int32) (v2 : Int32) (H : Heap) (locs : List Loc) (ls : Array Slot), jX9_clause_66  S h0 v1 v2 = some (r, S') → xk Ym h0 = 9 → xP G Ym S H → va_S (xA G Ym) s.heap H locs → lv_has ls 6 [(0, .ref (xad G h0)), (1, .int v1), (2, .int v2)] → W p l e (xr 6 136) s m args below meth c H locs 0 0 (MQ below (xQi G Ym r S') args s 0 0 (xA G Ym)) (F0 m 66 ls []) := by
  obtain ⟨hx, hb, hml, hown, hts, hr, hlk, hK, hE, hJ⟩ := id X
  intro S h0 v1 v2 H locs ls hM hk0 hP hS hl
  unfold jX9_clause_66 at hM
  refine lv_aload_n hx hb dX9_clause_66 rfl (lv_at hl 0 rfl) ?_
  refine lv_iload_n hx hb dX9_clause_67 rfl (lv_at hl 1 rfl) ?_
  obtain ⟨S1, eS1, hM⟩ := xlet_ex hM
  refine fpX9_20 X hP hS hk0 qw260 dX9_clause_68 eS1 (fun H locs hP hS => ?_)
  refine lv_aload_n hx hb dX9_clause_71 rfl (lv_at hl 0 rfl) ?_
  obtain ⟨S2, eS2, hM⟩ := xb hM
  refine x_gov (x_runV (rest := []) X (kX9_nextToken l G S1 h0 S2 hk0 eS2) qw256 okX9_nextToken ⟨Nat.le_of_ble_eq_true rfl, Nat.le_of_ble_eq_true rfl⟩ hk0 (by decide) rfl hP hS rfl hl.1 rfl (Nat.le_of_ble_eq_true rfl) dX9_clause_72) hS (fun H locs hP hS => ?_)
  refine lv_aload_n hx hb dX9_clause_75 rfl (lv_at hl 0 rfl) ?_
  refine fgX9_12 X hP hk0 qw244 dX9_clause_76 ?_
  refine lv_iconst (v := 1) hx hb dX9_clause_79 (by decide) ?_
  refine lv_iadd hx hb dX9_clause_80 ?_
  refine lv_iconst (v := 3) hx hb dX9_clause_81 (by decide) ?_
  refine lv_iload_n hx hb dX9_clause_82 rfl (lv_at hl 2 rfl) ?_
  refine lv_imul hx hb dX9_clause_83 ?_
  refine lv_iadd hx hb dX9_clause_84 ?_
  obtain ⟨x3, ex3, hM⟩ := xlet_ex hM
  refine x_topi ex3 ?_
  refine lv_istore_n (lv' := [(3, .int x3), (0, .ref (xad G h0)), (1, .int v1), (2, .int v2)]) hx hb dX9_clause_85 rfl hl (by decide) rfl (fun ls hl => ?_)
  refine lv_aload_n hx hb dX9_clause_86 rfl (lv_at hl 1 rfl) ?_
  obtain ⟨d4, ed4, hM⟩ := xb hM
  refine fdX9_2 X hP hk0 qw243 dX9_clause_87 ed4 ?_
  refine lv_iload_n hx hb dX9_clause_90 rfl (lv_at hl 0 rfl) ?_
  refine lv_iload_n hx hb dX9_clause_91 rfl (lv_at hl 2 rfl) ?_
  obtain ⟨S5, eS5, hM⟩ := xb hM
  refine x_iast X hP hS (dO_k ed4) eS5 dX9_clause_92 (fun H locs hP hS => ?_)
  refine lv_aload_n hx hb dX9_clause_93 rfl (lv_at hl 1 rfl) ?_
  refine fgX9_14 X hP hk0 qw245 dX9_clause_94 ?_
  refine lv_istore (lv' := [(4, .int (gI S5 h0 14)), (3, .int x3), (0, .ref (xad G h0)), (1, .int v1), (2, .int v2)]) hx hb dX9_clause_97 hl (by decide) rfl (fun ls hl => ?_)
  refine lv_iload_n hx hb dX9_clause_99 rfl (lv_at hl 3 rfl) ?_
  refine lv_iconst (v := 2) hx hb dX9_clause_100 (by decide) ?_
  refine lv_icmp_ge (tgt := 112) hx hb dX9_clause_101 (by decide) (fun c6 => ?_) (fun c6 => ?_)
  · replace hM := (if_pos c6).symm.trans hM
    refine lv_aload_n hx hb dX9_clause_112 rfl (lv_at hl 2 rfl) ?_
    refine lv_iload_n hx hb dX9_clause_113 rfl (lv_at hl 3 rfl) ?_
    refine lv_iload_n hx hb dX9_clause_114 rfl (lv_at hl 1 rfl) ?_
    obtain ⟨q7, eq7, hM⟩ := xb hM
    refine x_goi (x_runV (rest := []) X (kX9_line l G S5 h0 v1 x3 q7.1 q7.2 hk0 eq7) qw278 okX9_line ⟨Nat.le_of_ble_eq_true rfl, Nat.le_of_ble_eq_true rfl⟩ hk0 (by decide) rfl hP hS rfl hl.1 rfl (Nat.le_of_ble_eq_true rfl) dX9_clause_115) hS (fun H locs hP hS => ?_)
    exact wX9_clause_118 X  q7.2 h0 v1 x3 (gI S5 h0 14) q7.1 _ _ _ hM hk0 hP hS (lv_sub hl [2, 3, 1, 0] rfl)
  · replace hM := (if_neg c6).symm.trans hM
    refine lv_aload_n hx hb dX9_clause_104 rfl (lv_at hl 2 rfl) ?_
    refine lv_iconst (v := 0) hx hb dX9_clause_105 (by decide) ?_
    obtain ⟨q8, eq8, hM⟩ := xb hM
    refine x_goi (x_runV (rest := []) X (kX9_parsed l G S5 h0 0 q8.1 q8.2 hk0 eq8) qw279 okX9_parsed ⟨Nat.le_of_ble_eq_true rfl, Nat.le_of_ble_eq_true rfl⟩ hk0 (by decide) rfl hP hS rfl hl.1 rfl (Nat.le_of_ble_eq_true rfl) dX9_clause_106) hS (fun H locs hP hS => ?_)
    refine lv_goto (tgt := 118) hx hb dX9_clause_109 (by decide) ?_
    exact wX9_clause_118 X  q8.2 h0 v1 x3 (gI S5 h0 14) q8.1 _ _ _ hM hk0 hP hS (lv_sub hl [2, 3, 1, 0] rfl)
def jX9_clause_30 (S : xS) (h0 : Nat) (v1 : Int32) : Option (Int32 × xS) := (dO Ym (gR S h0 2) 10).bind fun d1 => (aI Ym S d1 (gI S h0 12)).bind fun x2 => if (x2 = 24 : Prop) then (some (6, S)) else (if (2 ≤ v1 : Prop) then (jX9_clause_66  S h0 v1 x2) else (xlet (pI S h0 21 ((gI S h0 21) ||| (1 <<< (v1 &&& 31)))) fun S5 => jX9_clause_66  S5 h0 v1 x2))
set_option maxHeartbeats 4000000 in
set_option maxRecDepth 100000 in
theorem wX9_clause_30 {p : Program} {l : Launch} {e : Env} {s : State} {m : MethodId} {args : Array Value} {below : List Frame} {meth : Method} {c : Code} {G : xG} {r : Int32} {S' : xS} (X : xX p s m args meth c cX9_clause 6 (some .int) RX9 G Ym) : ∀ (S : xS) (h0 : Nat) (v1 : Int32) (H : Heap) (locs : List Loc) (ls : Array Slot), jX9_clause_30  S h0 v1 = some (r, S') → xk Ym h0 = 9 → xP G Ym S H → va_S (xA G Ym) s.heap H locs → lv_has ls 6 [(0, .ref (xad G h0)), (1, .int v1)] → W p l e (xr 6 136) s m args below meth c H locs 0 0 (MQ below (xQi G Ym r S') args s 0 0 (xA G Ym)) (F0 m 30 ls []) := by
  obtain ⟨hx, hb, hml, hown, hts, hr, hlk, hK, hE, hJ⟩ := id X
  intro S h0 v1 H locs ls hM hk0 hP hS hl
  unfold jX9_clause_30 at hM
  refine lv_aload_n hx hb dX9_clause_30 rfl (lv_at hl 0 rfl) ?_
  obtain ⟨d1, ed1, hM⟩ := xb hM
  refine fdX9_2 X hP hk0 qw243 dX9_clause_31 ed1 ?_
  refine lv_aload_n hx hb dX9_clause_34 rfl (lv_at hl 0 rfl) ?_
  refine fgX9_12 X hP hk0 qw244 dX9_clause_35 ?_
  obtain ⟨x2, ex2, hM⟩ := xb hM
  refine x_iald X hP (dO_k ed1) ex2 dX9_clause_38 ?_
  refine lv_istore_n (lv' := [(2, .int x2), (0, .ref (xad G h0)), (1, .int v1)]) hx hb dX9_clause_39 rfl hl (by decide) rfl (fun ls hl => ?_)
  refine lv_iload_n hx hb dX9_clause_40 rfl (lv_at hl 0 rfl) ?_
  refine lv_bipush (v := 24) hx hb dX9_clause_41 (by decide) ?_
  refine lv_icmp_ne (tgt := 49) hx hb dX9_clause_43 (by decide) (fun c3 => ?_) (fun c3 => ?_)
  · replace hM := (if_neg c3).symm.trans hM
    refine lv_iload_n hx hb dX9_clause_49 rfl (lv_at hl 2 rfl) ?_
    refine lv_iconst (v := 2) hx hb dX9_clause_50 (by decide) ?_
    refine lv_icmp_ge (tgt := 66) hx hb dX9_clause_51 (by decide) (fun c4 => ?_) (fun c4 => ?_)
    · replace hM := (if_pos c4).symm.trans hM
      exact wX9_clause_66 X  S h0 v1 x2 _ _ _ hM hk0 hP hS (lv_sub hl [1, 2, 0] rfl)
    · replace hM := (if_neg c4).symm.trans hM
      refine lv_aload_n hx hb dX9_clause_54 rfl (lv_at hl 1 rfl) ?_
      refine lv_dup hx hb dX9_clause_55 rfl ?_
      refine fgX9_21 X hP hk0 qw277 dX9_clause_56 ?_
      refine lv_iconst (v := 1) hx hb dX9_clause_59 (by decide) ?_
      refine lv_iload_n hx hb dX9_clause_60 rfl (lv_at hl 2 rfl) ?_
      refine lv_ishl hx hb dX9_clause_61 ?_
      refine lv_ior hx hb dX9_clause_62 ?_
      obtain ⟨S5, eS5, hM⟩ := xlet_ex hM
      refine fpX9_21 X hP hS hk0 qw277 dX9_clause_63 eS5 (fun H locs hP hS => ?_)
      exact wX9_clause_66 X  S5 h0 v1 x2 _ _ _ hM hk0 hP hS (lv_sub hl [1, 2, 0] rfl)
  · replace hM := (if_pos c3).symm.trans hM
    refine lv_bipush (v := 6) hx hb dX9_clause_46 (by decide) ?_
    exact x_iret X hP hS hM dX9_clause_48
def mX9_clause (S : xS) (h0 : Nat) : Option (Int32 × xS) := (mX9_sortOf S h0).bind fun q1 => if (0 ≤ q1.1 : Prop) then (if (2 ≤ q1.1 : Prop) then (jX9_clause_30  q1.2 h0 q1.1) else (if ((((gI q1.2 h0 21) >>> (q1.1 &&& 31)) &&& 1) = 1 : Prop) then (some (4, q1.2)) else (jX9_clause_30  q1.2 h0 q1.1))) else (some (1, q1.2))
set_option maxHeartbeats 4000000 in
set_option maxRecDepth 100000 in
theorem kX9_clause (l : Launch) (G : xG) (S : xS) (h0 : Nat) (r : Int32) (S' : xS) (hk0 : xk Ym h0 = 9) (hM : mX9_clause S h0 = some (r, S')) : xM l yX9_clause cX9_clause 6 (some .int) 6 136 G Ym [.ref (xad G h0)] S (xQi G Ym r S') := by
  refine x_start (own := RX9) (by decide +kernel) rfl (Nat.le_of_ble_eq_true rfl) ?_
  intro p e s m below meth c ls X hl hP hS
  obtain ⟨hx, hb, hml, hown, hts, hr, hlk, hK, hE, hJ⟩ := id X
  have hl : lv_has ls 6 [(0, .ref (xad G h0))] := hl
  unfold mX9_clause at hM
  refine lv_aload_n hx hb dX9_clause_0 rfl (lv_at hl 0 rfl) ?_
  obtain ⟨q1, eq1, hM⟩ := xb hM
  refine x_goi (x_runV (rest := []) X (kX9_sortOf l G S h0 q1.1 q1.2 hk0 eq1) qw276 okX9_sortOf ⟨Nat.le_of_ble_eq_true rfl, Nat.le_of_ble_eq_true rfl⟩ hk0 (by decide) rfl hP hS rfl hl.1 rfl (Nat.le_of_ble_eq_true rfl) dX9_clause_1) hS (fun H locs hP hS => ?_)
  refine lv_istore_n (lv' := [(1, .int q1.1), (0, .ref (xad G h0))]) hx hb dX9_clause_4 rfl hl (by decide) rfl (fun ls hl => ?_)
  refine lv_iload_n hx hb dX9_clause_5 rfl (lv_at hl 0 rfl) ?_
  refine lv_if_ge (tgt := 11) hx hb dX9_clause_6 (by decide) (fun c2 => ?_) (fun c2 => ?_)
  · replace hM := (if_pos c2).symm.trans hM
    refine lv_iload_n hx hb dX9_clause_11 rfl (lv_at hl 0 rfl) ?_
    refine lv_iconst (v := 2) hx hb dX9_clause_12 (by decide) ?_
    refine lv_icmp_ge (tgt := 30) hx hb dX9_clause_13 (by decide) (fun c3 => ?_) (fun c3 => ?_)
    · replace hM := (if_pos c3).symm.trans hM
      exact wX9_clause_30 X  q1.2 h0 q1.1 _ _ _ hM hk0 hP hS (lv_sub hl [1, 0] rfl)
    · replace hM := (if_neg c3).symm.trans hM
      refine lv_aload_n hx hb dX9_clause_16 rfl (lv_at hl 1 rfl) ?_
      refine fgX9_21 X hP hk0 qw277 dX9_clause_17 ?_
      refine lv_iload_n hx hb dX9_clause_20 rfl (lv_at hl 0 rfl) ?_
      refine lv_ishr hx hb dX9_clause_21 ?_
      refine lv_iconst (v := 1) hx hb dX9_clause_22 (by decide) ?_
      refine lv_iand hx hb dX9_clause_23 ?_
      refine lv_iconst (v := 1) hx hb dX9_clause_24 (by decide) ?_
      refine lv_icmp_ne (tgt := 30) hx hb dX9_clause_25 (by decide) (fun c4 => ?_) (fun c4 => ?_)
      · replace hM := (if_neg c4).symm.trans hM
        exact wX9_clause_30 X  q1.2 h0 q1.1 _ _ _ hM hk0 hP hS (lv_sub hl [1, 0] rfl)
      · replace hM := (if_pos c4).symm.trans hM
        refine lv_iconst (v := 4) hx hb dX9_clause_28 (by decide) ?_
        exact x_iret X hP hS hM dX9_clause_29
  · replace hM := (if_neg c2).symm.trans hM
    refine lv_iconst (v := 1) hx hb dX9_clause_9 (by decide) ?_
    exact x_iret X hP hS hM dX9_clause_10

def lX9_readText_48 : Nat → xS → Nat → Option (Int32 × xS)
  | 0, _, _ => none
  | n + 1, S, h0 => if ((gI S h0 9) = 0 : Prop) then (some (0, S)) else ((mX9_clause S h0).bind fun q2 => if (q2.1 = 0 : Prop) then (lX9_readText_48 n q2.2 h0) else (some (q2.1, q2.2)))
set_option maxHeartbeats 4000000 in
set_option maxRecDepth 100000 in
theorem wX9_readText_48 {p : Program} {l : Launch} {e : Env} {s : State} {m : MethodId} {args : Array Value} {below : List Frame} {meth : Method} {c : Code} {G : xG} {r : Int32} {S' : xS} (X : xX p s m args meth c cX9_readText 2 (some .int) RX9 G Ym) : ∀ (n : Nat), ∀ (S : xS) (h0 : Nat) (H : Heap) (locs : List Loc) (ls : Array Slot), lX9_readText_48  n S h0 = some (r, S') → xk Ym h0 = 9 → xP G Ym S H → va_S (xA G Ym) s.heap H locs → lv_has ls 2 [(0, .ref (xad G h0))] → W p l e (xr 7 161) s m args below meth c H locs 0 0 (MQ below (xQi G Ym r S') args s 0 0 (xA G Ym)) (F0 m 48 ls []) := by
  obtain ⟨hx, hb, hml, hown, hts, hr, hlk, hK, hE, hJ⟩ := id X
  intro n
  induction n with
  | zero =>
    intro S h0 H locs ls hM
    rw [lX9_readText_48.eq_1] at hM
    cases hM
  | succ n ih =>
    intro S h0 H locs ls hM hk0 hP hS hl
    rw [lX9_readText_48.eq_2] at hM
    refine lv_aload_n hx hb dX9_readText_48 rfl (lv_at hl 0 rfl) ?_
    refine fgX9_9 X hP hk0 qw237 dX9_readText_49 ?_
    refine lv_if_eq (tgt := 69) hx hb dX9_readText_52 (by decide) (fun c1 => ?_) (fun c1 => ?_)
    · replace hM := (if_pos c1).symm.trans hM
      refine lv_iconst (v := 0) hx hb dX9_readText_69 (by decide) ?_
      exact x_iret X hP hS hM dX9_readText_70
    · replace hM := (if_neg c1).symm.trans hM
      refine lv_aload_n hx hb dX9_readText_55 rfl (lv_at hl 0 rfl) ?_
      obtain ⟨q2, eq2, hM⟩ := xb hM
      refine x_goi (x_runV (rest := []) X (kX9_clause l G S h0 q2.1 q2.2 hk0 eq2) qw280 okX9_clause ⟨Nat.le_of_ble_eq_true rfl, Nat.le_of_ble_eq_true rfl⟩ hk0 (by decide) rfl hP hS rfl hl.1 rfl (Nat.le_of_ble_eq_true rfl) dX9_readText_56) hS (fun H locs hP hS => ?_)
      refine lv_istore_n (lv' := [(1, .int q2.1), (0, .ref (xad G h0))]) hx hb dX9_readText_59 rfl hl (by decide) rfl (fun ls hl => ?_)
      refine lv_iload_n hx hb dX9_readText_60 rfl (lv_at hl 0 rfl) ?_
      refine lv_if_eq (tgt := 66) hx hb dX9_readText_61 (by decide) (fun c3 => ?_) (fun c3 => ?_)
      · replace hM := (if_pos c3).symm.trans hM
        refine lv_goto (tgt := 48) hx hb dX9_readText_66 (by decide) ?_
        exact ih q2.2 h0 _ _ _ hM hk0 hP hS (lv_sub hl [1] rfl)
      · replace hM := (if_neg c3).symm.trans hM
        refine lv_iload_n hx hb dX9_readText_64 rfl (lv_at hl 0 rfl) ?_
        exact x_iret X hP hS hM dX9_readText_65
def mX9_readText (S : xS) (h0 : Nat) : Option (Int32 × xS) := (dO Ym (gR S h0 0) 10).bind fun d1 => (aI Ym S d1 4).bind fun x2 => xlet (pI S h0 12 (680 * x2)) fun S3 => (dO Ym (gR S3 h0 2) 10).bind fun d4 => (sI Ym S3 d4 (gI S3 h0 12) 0).bind fun S5 => xlet (pI S5 h0 14 0) fun S6 => xlet (pI S6 h0 18 0) fun S7 => xlet (pI S7 h0 21 0) fun S8 => xlet (pI S8 h0 7 0) fun S9 => (mX9_nextToken S9 h0).bind fun S10 => lX9_readText_48  5000 S10 h0
set_option maxHeartbeats 4000000 in
set_option maxRecDepth 100000 in
theorem kX9_readText (l : Launch) (G : xG) (S : xS) (h0 : Nat) (r : Int32) (S' : xS) (hk0 : xk Ym h0 = 9) (hM : mX9_readText S h0 = some (r, S')) : xM l yX9_readText cX9_readText 2 (some .int) 7 161 G Ym [.ref (xad G h0)] S (xQi G Ym r S') := by
  refine x_start (own := RX9) (by decide +kernel) rfl (Nat.le_of_ble_eq_true rfl) ?_
  intro p e s m below meth c ls X hl hP hS
  obtain ⟨hx, hb, hml, hown, hts, hr, hlk, hK, hE, hJ⟩ := id X
  have hl : lv_has ls 2 [(0, .ref (xad G h0))] := hl
  unfold mX9_readText at hM
  refine lv_aload_n hx hb dX9_readText_0 rfl (lv_at hl 0 rfl) ?_
  refine lv_sipush (v := 680) hx hb dX9_readText_1 (by decide) ?_
  refine lv_aload_n hx hb dX9_readText_4 rfl (lv_at hl 0 rfl) ?_
  obtain ⟨d1, ed1, hM⟩ := xb hM
  refine fdX9_0 X hP hk0 qw227 dX9_readText_5 ed1 ?_
  refine lv_iconst (v := 4) hx hb dX9_readText_8 (by decide) ?_
  obtain ⟨x2, ex2, hM⟩ := xb hM
  refine x_iald X hP (dO_k ed1) ex2 dX9_readText_9 ?_
  refine lv_imul hx hb dX9_readText_10 ?_
  obtain ⟨S3, eS3, hM⟩ := xlet_ex hM
  refine fpX9_12 X hP hS hk0 qw244 dX9_readText_11 eS3 (fun H locs hP hS => ?_)
  refine lv_aload_n hx hb dX9_readText_14 rfl (lv_at hl 0 rfl) ?_
  obtain ⟨d4, ed4, hM⟩ := xb hM
  refine fdX9_2 X hP hk0 qw243 dX9_readText_15 ed4 ?_
  refine lv_aload_n hx hb dX9_readText_18 rfl (lv_at hl 0 rfl) ?_
  refine fgX9_12 X hP hk0 qw244 dX9_readText_19 ?_
  refine lv_iconst (v := 0) hx hb dX9_readText_22 (by decide) ?_
  obtain ⟨S5, eS5, hM⟩ := xb hM
  refine x_iast X hP hS (dO_k ed4) eS5 dX9_readText_23 (fun H locs hP hS => ?_)
  refine lv_aload_n hx hb dX9_readText_24 rfl (lv_at hl 0 rfl) ?_
  refine lv_iconst (v := 0) hx hb dX9_readText_25 (by decide) ?_
  obtain ⟨S6, eS6, hM⟩ := xlet_ex hM
  refine fpX9_14 X hP hS hk0 qw245 dX9_readText_26 eS6 (fun H locs hP hS => ?_)
  refine lv_aload_n hx hb dX9_readText_29 rfl (lv_at hl 0 rfl) ?_
  refine lv_iconst (v := 0) hx hb dX9_readText_30 (by decide) ?_
  obtain ⟨S7, eS7, hM⟩ := xlet_ex hM
  refine fpX9_18 X hP hS hk0 qw250 dX9_readText_31 eS7 (fun H locs hP hS => ?_)
  refine lv_aload_n hx hb dX9_readText_34 rfl (lv_at hl 0 rfl) ?_
  refine lv_iconst (v := 0) hx hb dX9_readText_35 (by decide) ?_
  obtain ⟨S8, eS8, hM⟩ := xlet_ex hM
  refine fpX9_21 X hP hS hk0 qw277 dX9_readText_36 eS8 (fun H locs hP hS => ?_)
  refine lv_aload_n hx hb dX9_readText_39 rfl (lv_at hl 0 rfl) ?_
  refine lv_iconst (v := 0) hx hb dX9_readText_40 (by decide) ?_
  obtain ⟨S9, eS9, hM⟩ := xlet_ex hM
  refine fpX9_7 X hP hS hk0 qw232 dX9_readText_41 eS9 (fun H locs hP hS => ?_)
  refine lv_aload_n hx hb dX9_readText_44 rfl (lv_at hl 0 rfl) ?_
  obtain ⟨S10, eS10, hM⟩ := xb hM
  refine x_gov (x_runV (rest := []) X (kX9_nextToken l G S9 h0 S10 hk0 eS10) qw256 okX9_nextToken ⟨Nat.le_of_ble_eq_true rfl, Nat.le_of_ble_eq_true rfl⟩ hk0 (by decide) rfl hP hS rfl hl.1 rfl (Nat.le_of_ble_eq_true rfl) dX9_readText_45) hS (fun H locs hP hS => ?_)
  exact wX9_readText_48 X  5000 S10 h0 _ _ _ hM hk0 hP hS (lv_sub hl [0] rfl)

def jX9_text_36 (S : xS) (h0 : Nat) (t0 : Int32) (t1 : Nat) : Option (Int32 × xS) := xlet (pI S t1 6 t0) fun S1 => xlet (pI S1 h0 4 0) fun S2 => if ((gI S2 h0 5) = 0 : Prop) then ((dO Ym (gR S2 h0 0) 10).bind fun d4 => (aI Ym S2 d4 4).bind fun x5 => (sI Ym S2 d4 4 (x5 + 1)).bind fun S6 => (dO Ym (gR S6 h0 0) 10).bind fun d7 => (aI Ym S6 d7 4).bind fun x8 => some (x8 - 1, S6)) else (some ((-1), S2))
set_option maxHeartbeats 4000000 in
set_option maxRecDepth 100000 in
theorem wX9_text_36 {p : Program} {l : Launch} {e : Env} {s : State} {m : MethodId} {args : Array Value} {below : List Frame} {meth : Method} {c : Code} {G : xG} {r : Int32} {S' : xS} (X : xX p s m args meth c cX9_text 1 (some .int) RX9 G Ym) : ∀ (S : xS) (h0 : Nat) (t0 : Int32) (t1 : Nat) (H : Heap) (locs : List Loc) (ls : Array Slot), jX9_text_36  S h0 t0 t1 = some (r, S') → xk Ym h0 = 9 → xk Ym t1 = 9 → xP G Ym S H → va_S (xA G Ym) s.heap H locs → lv_has ls 1 [(0, .ref (xad G h0))] → W p l e (xr 8 182) s m args below meth c H locs 0 0 (MQ below (xQi G Ym r S') args s 0 0 (xA G Ym)) (F0 m 36 ls [.int t0, .ref (xad G t1)]) := by
  obtain ⟨hx, hb, hml, hown, hts, hr, hlk, hK, hE, hJ⟩ := id X
  intro S h0 t0 t1 H locs ls hM hk0 hkt1 hP hS hl
  unfold jX9_text_36 at hM
  obtain ⟨S1, eS1, hM⟩ := xlet_ex hM
  refine fpX9_6 X hP hS hkt1 qw283 dX9_text_36 eS1 (fun H locs hP hS => ?_)
  refine lv_aload_n hx hb dX9_text_39 rfl (lv_at hl 0 rfl) ?_
  refine lv_iconst (v := 0) hx hb dX9_text_40 (by decide) ?_
  obtain ⟨S2, eS2, hM⟩ := xlet_ex hM
  refine fpX9_4 X hP hS hk0 qw230 dX9_text_41 eS2 (fun H locs hP hS => ?_)
  refine lv_aload_n hx hb dX9_text_44 rfl (lv_at hl 0 rfl) ?_
  refine fgX9_5 X hP hk0 qw282 dX9_text_45 ?_
  refine lv_if_eq (tgt := 53) hx hb dX9_text_48 (by decide) (fun c3 => ?_) (fun c3 => ?_)
  · replace hM := (if_pos c3).symm.trans hM
    refine lv_aload_n hx hb dX9_text_53 rfl (lv_at hl 0 rfl) ?_
    obtain ⟨d4, ed4, hM⟩ := xb hM
    refine fdX9_0 X hP hk0 qw227 dX9_text_54 ed4 ?_
    refine lv_iconst (v := 4) hx hb dX9_text_57 (by decide) ?_
    refine lv_dup2_11 hx hb dX9_text_58 rfl rfl ?_
    obtain ⟨x5, ex5, hM⟩ := xb hM
    refine x_iald X hP (dO_k ed4) ex5 dX9_text_59 ?_
    refine lv_iconst (v := 1) hx hb dX9_text_60 (by decide) ?_
    refine lv_iadd hx hb dX9_text_61 ?_
    obtain ⟨S6, eS6, hM⟩ := xb hM
    refine x_iast X hP hS (dO_k ed4) eS6 dX9_text_62 (fun H locs hP hS => ?_)
    refine lv_aload_n hx hb dX9_text_63 rfl (lv_at hl 0 rfl) ?_
    obtain ⟨d7, ed7, hM⟩ := xb hM
    refine fdX9_0 X hP hk0 qw227 dX9_text_64 ed7 ?_
    refine lv_iconst (v := 4) hx hb dX9_text_67 (by decide) ?_
    obtain ⟨x8, ex8, hM⟩ := xb hM
    refine x_iald X hP (dO_k ed7) ex8 dX9_text_68 ?_
    refine lv_iconst (v := 1) hx hb dX9_text_69 (by decide) ?_
    refine lv_isub hx hb dX9_text_70 ?_
    exact x_iret X hP hS hM dX9_text_71
  · replace hM := (if_neg c3).symm.trans hM
    refine lv_iconst (v := (-1)) hx hb dX9_text_51 (by decide) ?_
    exact x_iret X hP hS hM dX9_text_52
def mX9_text (S : xS) (h0 : Nat) : Option (Int32 × xS) := (dO Ym (gR S h0 0) 10).bind fun d1 => (aI Ym S d1 4).bind fun x2 => if (x2 = 4 : Prop) then (some ((-1), S)) else ((mX9_readText S h0).bind fun q4 => xlet (pI q4.2 h0 5 q4.1) fun S5 => if ((gI S5 h0 5) = 0 : Prop) then (jX9_text_36  S5 h0 (-1) h0) else (jX9_text_36  S5 h0 (gI S5 h0 8) h0))
set_option maxHeartbeats 4000000 in
set_option maxRecDepth 100000 in
theorem kX9_text (l : Launch) (G : xG) (S : xS) (h0 : Nat) (r : Int32) (S' : xS) (hk0 : xk Ym h0 = 9) (hM : mX9_text S h0 = some (r, S')) : xM l yX9_text cX9_text 1 (some .int) 8 182 G Ym [.ref (xad G h0)] S (xQi G Ym r S') := by
  refine x_start (own := RX9) (by decide +kernel) rfl (Nat.le_of_ble_eq_true rfl) ?_
  intro p e s m below meth c ls X hl hP hS
  obtain ⟨hx, hb, hml, hown, hts, hr, hlk, hK, hE, hJ⟩ := id X
  have hl : lv_has ls 1 [(0, .ref (xad G h0))] := hl
  unfold mX9_text at hM
  refine lv_aload_n hx hb dX9_text_0 rfl (lv_at hl 0 rfl) ?_
  obtain ⟨d1, ed1, hM⟩ := xb hM
  refine fdX9_0 X hP hk0 qw227 dX9_text_1 ed1 ?_
  refine lv_iconst (v := 4) hx hb dX9_text_4 (by decide) ?_
  obtain ⟨x2, ex2, hM⟩ := xb hM
  refine x_iald X hP (dO_k ed1) ex2 dX9_text_5 ?_
  refine lv_iconst (v := 4) hx hb dX9_text_6 (by decide) ?_
  refine lv_icmp_ne (tgt := 12) hx hb dX9_text_7 (by decide) (fun c3 => ?_) (fun c3 => ?_)
  · replace hM := (if_neg c3).symm.trans hM
    refine lv_aload_n hx hb dX9_text_12 rfl (lv_at hl 0 rfl) ?_
    refine lv_aload_n hx hb dX9_text_13 rfl (lv_at hl 0 rfl) ?_
    obtain ⟨q4, eq4, hM⟩ := xb hM
    refine x_goi (x_runV (rest := [.ref (xad G h0)]) X (kX9_readText l G S h0 q4.1 q4.2 hk0 eq4) qw281 okX9_readText ⟨Nat.le_of_ble_eq_true rfl, Nat.le_of_ble_eq_true rfl⟩ hk0 (by decide) rfl hP hS rfl hl.1 rfl (Nat.le_of_ble_eq_true rfl) dX9_text_14) hS (fun H locs hP hS => ?_)
    obtain ⟨S5, eS5, hM⟩ := xlet_ex hM
    refine fpX9_5 X hP hS hk0 qw282 dX9_text_17 eS5 (fun H locs hP hS => ?_)
    refine lv_aload_n hx hb dX9_text_20 rfl (lv_at hl 0 rfl) ?_
    refine lv_aload_n hx hb dX9_text_21 rfl (lv_at hl 0 rfl) ?_
    refine fgX9_5 X hP hk0 qw282 dX9_text_22 ?_
    refine lv_if_ne (tgt := 32) hx hb dX9_text_25 (by decide) (fun c6 => ?_) (fun c6 => ?_)
    · replace hM := (if_neg c6).symm.trans hM
      refine lv_aload_n hx hb dX9_text_32 rfl (lv_at hl 0 rfl) ?_
      refine fgX9_8 X hP hk0 qw234 dX9_text_33 ?_
      exact wX9_text_36 X  S5 h0 (gI S5 h0 8) h0 _ _ _ hM hk0 hk0 hP hS (lv_sub hl [0] rfl)
    · replace hM := (if_pos c6).symm.trans hM
      refine lv_iconst (v := (-1)) hx hb dX9_text_28 (by decide) ?_
      refine lv_goto (tgt := 36) hx hb dX9_text_29 (by decide) ?_
      exact wX9_text_36 X  S5 h0 (-1) h0 _ _ _ hM hk0 hk0 hP hS (lv_sub hl [0] rfl)
  · replace hM := (if_pos c3).symm.trans hM
    refine lv_iconst (v := (-1)) hx hb dX9_text_10 (by decide) ?_
    exact x_iret X hP hS hM dX9_text_11

def mX9_fault (S : xS) (h0 : Nat) (p1 : Int32) : Option (Int32 × xS) := if (p1 = 0 : Prop) then (some (gI S h0 5, S)) else (if (p1 = 1 : Prop) then (some (gI S h0 6, S)) else (some ((-1), S)))
set_option maxHeartbeats 4000000 in
set_option maxRecDepth 100000 in
theorem kX9_fault (l : Launch) (G : xG) (S : xS) (h0 : Nat) (p1 : Int32) (r : Int32) (S' : xS) (hk0 : xk Ym h0 = 9) (hM : mX9_fault S h0 p1 = some (r, S')) : xM l yX9_fault cX9_fault 2 (some .int) 0 0 G Ym [.ref (xad G h0), .int p1] S (xQi G Ym r S') := by
  refine x_start (own := RX9) (by decide +kernel) rfl (Nat.le_of_ble_eq_true rfl) ?_
  intro p e s m below meth c ls X hl hP hS
  obtain ⟨hx, hb, hml, hown, hts, hr, hlk, hK, hE, hJ⟩ := id X
  have hl : lv_has ls 2 [(0, .ref (xad G h0)), (1, .int p1)] := hl
  unfold mX9_fault at hM
  refine lv_iload_n hx hb dX9_fault_0 rfl (lv_at hl 1 rfl) ?_
  refine lv_if_ne (tgt := 11) hx hb dX9_fault_1 (by decide) (fun c1 => ?_) (fun c1 => ?_)
  · replace hM := (if_neg c1).symm.trans hM
    refine lv_iload_n hx hb dX9_fault_11 rfl (lv_at hl 1 rfl) ?_
    refine lv_iconst (v := 1) hx hb dX9_fault_12 (by decide) ?_
    refine lv_icmp_ne (tgt := 23) hx hb dX9_fault_13 (by decide) (fun c2 => ?_) (fun c2 => ?_)
    · replace hM := (if_neg c2).symm.trans hM
      refine lv_iconst (v := (-1)) hx hb dX9_fault_23 (by decide) ?_
      exact x_iret X hP hS hM dX9_fault_24
    · replace hM := (if_pos c2).symm.trans hM
      refine lv_aload_n hx hb dX9_fault_16 rfl (lv_at hl 0 rfl) ?_
      refine fgX9_6 X hP hk0 qw283 dX9_fault_17 ?_
      refine lv_goto (tgt := 24) hx hb dX9_fault_20 (by decide) ?_
      exact x_iret X hP hS hM dX9_fault_24
  · replace hM := (if_pos c1).symm.trans hM
    refine lv_aload_n hx hb dX9_fault_4 rfl (lv_at hl 0 rfl) ?_
    refine fgX9_5 X hP hk0 qw282 dX9_fault_5 ?_
    refine lv_goto (tgt := 24) hx hb dX9_fault_8 (by decide) ?_
    exact x_iret X hP hS hM dX9_fault_24

def mX9_by (S : xS) (h0 : Nat) (p1 : Int32) : Option (Int32 × xS) := (dO Ym (gR S h0 0) 10).bind fun d1 => (aI Ym S d1 4).bind fun x2 => (mX9_isIn S p1 (-1) (x2 - 1)).bind fun q3 => if (q3.1 = 0 : Prop) then (some (0, q3.2)) else ((dO Ym (gR q3.2 h0 0) 10).bind fun d5 => (sI Ym q3.2 d5 5 p1).bind fun S6 => some (1, S6))
set_option maxHeartbeats 4000000 in
set_option maxRecDepth 100000 in
theorem kX9_by (l : Launch) (G : xG) (S : xS) (h0 : Nat) (p1 : Int32) (r : Int32) (S' : xS) (hk0 : xk Ym h0 = 9) (hM : mX9_by S h0 p1 = some (r, S')) : xM l yX9_by cX9_by 2 (some .boolean) 1 22 G Ym [.ref (xad G h0), .int p1] S (xQi G Ym r S') := by
  refine x_start (own := RX9) (by decide +kernel) rfl (Nat.le_of_ble_eq_true rfl) ?_
  intro p e s m below meth c ls X hl hP hS
  obtain ⟨hx, hb, hml, hown, hts, hr, hlk, hK, hE, hJ⟩ := id X
  have hl : lv_has ls 2 [(0, .ref (xad G h0)), (1, .int p1)] := hl
  unfold mX9_by at hM
  refine lv_iload_n hx hb dX9_by_0 rfl (lv_at hl 1 rfl) ?_
  refine lv_iconst (v := (-1)) hx hb dX9_by_1 (by decide) ?_
  refine lv_aload_n hx hb dX9_by_2 rfl (lv_at hl 0 rfl) ?_
  obtain ⟨d1, ed1, hM⟩ := xb hM
  refine fdX9_0 X hP hk0 qw227 dX9_by_3 ed1 ?_
  refine lv_iconst (v := 4) hx hb dX9_by_6 (by decide) ?_
  obtain ⟨x2, ex2, hM⟩ := xb hM
  refine x_iald X hP (dO_k ed1) ex2 dX9_by_7 ?_
  refine lv_iconst (v := 1) hx hb dX9_by_8 (by decide) ?_
  refine lv_isub hx hb dX9_by_9 ?_
  obtain ⟨q3, eq3, hM⟩ := xb hM
  refine x_goi (x_runS (rest := []) X (kX9_isIn l G S p1 (-1) (x2 - 1) q3.1 q3.2  eq3) qw228 okX9_isIn ⟨Nat.le_of_ble_eq_true rfl, Nat.le_of_ble_eq_true rfl⟩ hP hS rfl hl.1 rfl (Nat.le_of_ble_eq_true rfl) dX9_by_10) hS (fun H locs hP hS => ?_)
  refine lv_if_ne (tgt := 18) hx hb dX9_by_13 (by decide) (fun c4 => ?_) (fun c4 => ?_)
  · replace hM := (if_neg c4).symm.trans hM
    refine lv_aload_n hx hb dX9_by_18 rfl (lv_at hl 0 rfl) ?_
    obtain ⟨d5, ed5, hM⟩ := xb hM
    refine fdX9_0 X hP hk0 qw227 dX9_by_19 ed5 ?_
    refine lv_iconst (v := 5) hx hb dX9_by_22 (by decide) ?_
    refine lv_iload_n hx hb dX9_by_23 rfl (lv_at hl 1 rfl) ?_
    obtain ⟨S6, eS6, hM⟩ := xb hM
    refine x_iast X hP hS (dO_k ed5) eS6 dX9_by_24 (fun H locs hP hS => ?_)
    refine lv_iconst (v := 1) hx hb dX9_by_25 (by decide) ?_
    exact x_zret X hP hS (Or.inr rfl) hM dX9_by_26
  · replace hM := (if_pos c4).symm.trans hM
    refine lv_iconst (v := 0) hx hb dX9_by_16 (by decide) ?_
    exact x_zret X hP hS (Or.inl rfl) hM dX9_by_17

def mX9_clip (S : xS) (p0 : Int64) : Option (Int64 × xS) := if ((lg_cmp p0 1000000) ≤ 0 : Prop) then (if (0 ≤ (lg_cmp p0 (-1000000)) : Prop) then (some (p0, S)) else (some ((-1000000), S))) else (some (1000000, S))
set_option maxHeartbeats 4000000 in
set_option maxRecDepth 100000 in
theorem kX9_clip (l : Launch) (G : xG) (S : xS) (p0 : Int64) (r : Int64) (S' : xS) (hM : mX9_clip S p0 = some (r, S')) : xM l yX9_clip cX9_clip 2 (some .long) 0 0 G Ym [.long p0] S (xQl G Ym r S') := by
  refine x_start (own := RX9) (by decide +kernel) rfl (Nat.le_of_ble_eq_true rfl) ?_
  intro p e s m below meth c ls X hl hP hS
  obtain ⟨hx, hb, hml, hown, hts, hr, hlk, hK, hE, hJ⟩ := id X
  have hl : lv_has ls 2 [(0, .long p0)] := hl
  unfold mX9_clip at hM
  refine lv_lload_n hx hb dX9_clip_0 rfl (lv_at hl 0 rfl) ?_
  refine x_ldc2 X qw284 dX9_clip_1 ?_
  refine W.lcmp hx hb dX9_clip_4 ?_
  refine lv_if_le (tgt := 14) hx hb dX9_clip_5 (by decide) (fun c1 => ?_) (fun c1 => ?_)
  · replace hM := (if_pos c1).symm.trans hM
    refine lv_lload_n hx hb dX9_clip_14 rfl (lv_at hl 0 rfl) ?_
    refine x_ldc2 X qw285 dX9_clip_15 ?_
    refine W.lcmp hx hb dX9_clip_18 ?_
    refine lv_if_ge (tgt := 28) hx hb dX9_clip_19 (by decide) (fun c2 => ?_) (fun c2 => ?_)
    · replace hM := (if_pos c2).symm.trans hM
      refine lv_lload_n hx hb dX9_clip_28 rfl (lv_at hl 0 rfl) ?_
      exact x_lret X hP hS hM dX9_clip_29
    · replace hM := (if_neg c2).symm.trans hM
      refine x_ldc2 X qw285 dX9_clip_22 ?_
      refine lv_goto (tgt := 29) hx hb dX9_clip_25 (by decide) ?_
      exact x_lret X hP hS hM dX9_clip_29
  · replace hM := (if_neg c1).symm.trans hM
    refine x_ldc2 X qw284 dX9_clip_8 ?_
    refine lv_goto (tgt := 29) hx hb dX9_clip_11 (by decide) ?_
    exact x_lret X hP hS hM dX9_clip_29

def mX9_two (S : xS) (p0 : Int32) (p1 : Int64) (p3 : Int64) : Option (Int64 × xS) := if (p0 : Int32) = 3 then ((mX9_clip S (p1 + p3)).bind fun q2 => some (q2.1, q2.2)) else (if (p0 : Int32) = 4 then ((mX9_clip S (p1 - p3)).bind fun q4 => some (q4.1, q4.2)) else (if (p0 : Int32) = 5 then ((mX9_clip S (p1 * p3)).bind fun q6 => some (q6.1, q6.2)) else (if ((lg_cmp p3 0) = 0 : Prop) then (some (0, S)) else ((if p3 = 0 then none else (mX9_clip S (p1 / p3)).bind fun q9 => some (q9.1, q9.2))))))
set_option maxHeartbeats 4000000 in
set_option maxRecDepth 100000 in
theorem kX9_two (l : Launch) (G : xG) (S : xS) (p0 : Int32) (p1 : Int64) (p3 : Int64) (r : Int64) (S' : xS) (hM : mX9_two S p0 p1 p3 = some (r, S')) : xM l yX9_two cX9_two 5 (some .long) 1 21 G Ym [.int p0, .long p1, .long p3] S (xQl G Ym r S') := by
  refine x_start (own := RX9) (by decide +kernel) rfl (Nat.le_of_ble_eq_true rfl) ?_
  intro p e s m below meth c ls X hl hP hS
  obtain ⟨hx, hb, hml, hown, hts, hr, hlk, hK, hE, hJ⟩ := id X
  have hl : lv_has ls 5 [(0, .int p0), (1, .long p1), (3, .long p3)] := hl
  unfold mX9_two at hM
  refine lv_iload_n hx hb dX9_two_0 rfl (lv_at hl 0 rfl) ?_
  by_cases c1 : p0 = 3
  · replace hM := (if_pos c1).symm.trans hM
    refine x_tabIn (tgt := 28) (off := 27) hx hb dX9_two_1 c1 (by decide) (by decide) (by decide) (by decide) ?_
    refine lv_lload_n hx hb dX9_two_28 rfl (lv_at hl 1 rfl) ?_
    refine lv_lload_n hx hb dX9_two_29 rfl (lv_at hl 2 rfl) ?_
    refine lv_ladd hx hb dX9_two_30 ?_
    obtain ⟨q2, eq2, hM⟩ := xb hM
    refine x_gol (x_runS (rest := []) X (kX9_clip l G S (p1 + p3) q2.1 q2.2  eq2) qw286 okX9_clip ⟨Nat.le_of_ble_eq_true rfl, Nat.le_of_ble_eq_true rfl⟩ hP hS rfl hl.1 rfl (Nat.le_of_ble_eq_true rfl) dX9_two_31) hS (fun H locs hP hS => ?_)
    exact x_lret X hP hS hM dX9_two_34
  replace hM := (if_neg c1).symm.trans hM
  by_cases c3 : p0 = 4
  · replace hM := (if_pos c3).symm.trans hM
    refine x_tabIn (tgt := 35) (off := 34) hx hb dX9_two_1 c3 (by decide) (by decide) (by decide) (by decide) ?_
    refine lv_lload_n hx hb dX9_two_35 rfl (lv_at hl 1 rfl) ?_
    refine lv_lload_n hx hb dX9_two_36 rfl (lv_at hl 2 rfl) ?_
    refine lv_lsub hx hb dX9_two_37 ?_
    obtain ⟨q4, eq4, hM⟩ := xb hM
    refine x_gol (x_runS (rest := []) X (kX9_clip l G S (p1 - p3) q4.1 q4.2  eq4) qw286 okX9_clip ⟨Nat.le_of_ble_eq_true rfl, Nat.le_of_ble_eq_true rfl⟩ hP hS rfl hl.1 rfl (Nat.le_of_ble_eq_true rfl) dX9_two_38) hS (fun H locs hP hS => ?_)
    exact x_lret X hP hS hM dX9_two_41
  replace hM := (if_neg c3).symm.trans hM
  by_cases c5 : p0 = 5
  · replace hM := (if_pos c5).symm.trans hM
    refine x_tabIn (tgt := 42) (off := 41) hx hb dX9_two_1 c5 (by decide) (by decide) (by decide) (by decide) ?_
    refine lv_lload_n hx hb dX9_two_42 rfl (lv_at hl 1 rfl) ?_
    refine lv_lload_n hx hb dX9_two_43 rfl (lv_at hl 2 rfl) ?_
    refine lv_lmul hx hb dX9_two_44 ?_
    obtain ⟨q6, eq6, hM⟩ := xb hM
    refine x_gol (x_runS (rest := []) X (kX9_clip l G S (p1 * p3) q6.1 q6.2  eq6) qw286 okX9_clip ⟨Nat.le_of_ble_eq_true rfl, Nat.le_of_ble_eq_true rfl⟩ hP hS rfl hl.1 rfl (Nat.le_of_ble_eq_true rfl) dX9_two_45) hS (fun H locs hP hS => ?_)
    exact x_lret X hP hS hM dX9_two_48
  replace hM := (if_neg c5).symm.trans hM
  have gc1 : ¬ (p0 : Int32).toInt = 3 := xne c1
  have gc3 : ¬ (p0 : Int32).toInt = 4 := xne c3
  have gc5 : ¬ (p0 : Int32).toInt = 5 := xne c5
  refine lv_tableOut (tgt := 49) hx hb dX9_two_1 (by omega) (by decide) ?_
  refine lv_lload_n hx hb dX9_two_49 rfl (lv_at hl 2 rfl) ?_
  refine lv_lconst (v := 0) hx hb dX9_two_50 (by decide) ?_
  refine W.lcmp hx hb dX9_two_51 ?_
  refine lv_if_ne (tgt := 59) hx hb dX9_two_52 (by decide) (fun c7 => ?_) (fun c7 => ?_)
  · replace hM := (if_neg c7).symm.trans hM
    refine lv_lload_n hx hb dX9_two_59 rfl (lv_at hl 1 rfl) ?_
    refine lv_lload_n hx hb dX9_two_60 rfl (lv_at hl 2 rfl) ?_
    by_cases ec8 : p3 = 0
    · replace hM := (if_pos ec8).symm.trans hM; cases hM
    replace hM := (if_neg ec8).symm.trans hM
    refine lv_ldiv hx hb dX9_two_61 ec8 ?_
    obtain ⟨q9, eq9, hM⟩ := xb hM
    refine x_gol (x_runS (rest := []) X (kX9_clip l G S (p1 / p3) q9.1 q9.2  eq9) qw286 okX9_clip ⟨Nat.le_of_ble_eq_true rfl, Nat.le_of_ble_eq_true rfl⟩ hP hS rfl hl.1 rfl (Nat.le_of_ble_eq_true rfl) dX9_two_62) hS (fun H locs hP hS => ?_)
    exact x_lret X hP hS hM dX9_two_65
  · replace hM := (if_pos c7).symm.trans hM
    refine lv_lconst (v := 0) hx hb dX9_two_55 (by decide) ?_
    refine lv_goto (tgt := 65) hx hb dX9_two_56 (by decide) ?_
    exact x_lret X hP hS hM dX9_two_65

def mX9_isAsked (S : xS) (p0 : Int32) (p1 : Int64) (p3 : Int64) : Option (Int32 × xS) := if (p0 = 10 : Prop) then (if (0 ≤ (lg_cmp p1 p3) : Prop) then (some (0, S)) else (some (1, S))) else (if (p0 = 11 : Prop) then (if (0 < (lg_cmp p1 p3) : Prop) then (some (0, S)) else (some (1, S))) else (if (p0 = 12 : Prop) then (if ((lg_cmp p1 p3) ≤ 0 : Prop) then (some (0, S)) else (some (1, S))) else (if (p0 = 13 : Prop) then (if ((lg_cmp p1 p3) < 0 : Prop) then (some (0, S)) else (some (1, S))) else (if (p0 = 14 : Prop) then (if ((lg_cmp p1 p3) = 0 : Prop) then (some (1, S)) else (some (0, S))) else (if ((lg_cmp p1 p3) = 0 : Prop) then (some (0, S)) else (some (1, S)))))))
set_option maxHeartbeats 4000000 in
set_option maxRecDepth 100000 in
theorem kX9_isAsked (l : Launch) (G : xG) (S : xS) (p0 : Int32) (p1 : Int64) (p3 : Int64) (r : Int32) (S' : xS) (hM : mX9_isAsked S p0 p1 p3 = some (r, S')) : xM l yX9_isAsked cX9_isAsked 5 (some .boolean) 0 0 G Ym [.int p0, .long p1, .long p3] S (xQi G Ym r S') := by
  refine x_start (own := RX9) (by decide +kernel) rfl (Nat.le_of_ble_eq_true rfl) ?_
  intro p e s m below meth c ls X hl hP hS
  obtain ⟨hx, hb, hml, hown, hts, hr, hlk, hK, hE, hJ⟩ := id X
  have hl : lv_has ls 5 [(0, .int p0), (1, .long p1), (3, .long p3)] := hl
  unfold mX9_isAsked at hM
  refine lv_iload_n hx hb dX9_isAsked_0 rfl (lv_at hl 0 rfl) ?_
  refine lv_bipush (v := 10) hx hb dX9_isAsked_1 (by decide) ?_
  refine lv_icmp_ne (tgt := 20) hx hb dX9_isAsked_3 (by decide) (fun c1 => ?_) (fun c1 => ?_)
  · replace hM := (if_neg c1).symm.trans hM
    refine lv_iload_n hx hb dX9_isAsked_20 rfl (lv_at hl 0 rfl) ?_
    refine lv_bipush (v := 11) hx hb dX9_isAsked_21 (by decide) ?_
    refine lv_icmp_ne (tgt := 40) hx hb dX9_isAsked_23 (by decide) (fun c2 => ?_) (fun c2 => ?_)
    · replace hM := (if_neg c2).symm.trans hM
      refine lv_iload_n hx hb dX9_isAsked_40 rfl (lv_at hl 0 rfl) ?_
      refine lv_bipush (v := 12) hx hb dX9_isAsked_41 (by decide) ?_
      refine lv_icmp_ne (tgt := 60) hx hb dX9_isAsked_43 (by decide) (fun c3 => ?_) (fun c3 => ?_)
      · replace hM := (if_neg c3).symm.trans hM
        refine lv_iload_n hx hb dX9_isAsked_60 rfl (lv_at hl 0 rfl) ?_
        refine lv_bipush (v := 13) hx hb dX9_isAsked_61 (by decide) ?_
        refine lv_icmp_ne (tgt := 80) hx hb dX9_isAsked_63 (by decide) (fun c4 => ?_) (fun c4 => ?_)
        · replace hM := (if_neg c4).symm.trans hM
          refine lv_iload_n hx hb dX9_isAsked_80 rfl (lv_at hl 0 rfl) ?_
          refine lv_bipush (v := 14) hx hb dX9_isAsked_81 (by decide) ?_
          refine lv_icmp_ne (tgt := 100) hx hb dX9_isAsked_83 (by decide) (fun c5 => ?_) (fun c5 => ?_)
          · replace hM := (if_neg c5).symm.trans hM
            refine lv_lload_n hx hb dX9_isAsked_100 rfl (lv_at hl 1 rfl) ?_
            refine lv_lload_n hx hb dX9_isAsked_101 rfl (lv_at hl 2 rfl) ?_
            refine W.lcmp hx hb dX9_isAsked_102 ?_
            refine lv_if_eq (tgt := 110) hx hb dX9_isAsked_103 (by decide) (fun c6 => ?_) (fun c6 => ?_)
            · replace hM := (if_pos c6).symm.trans hM
              refine lv_iconst (v := 0) hx hb dX9_isAsked_110 (by decide) ?_
              exact x_zret X hP hS (Or.inl rfl) hM dX9_isAsked_111
            · replace hM := (if_neg c6).symm.trans hM
              refine lv_iconst (v := 1) hx hb dX9_isAsked_106 (by decide) ?_
              refine lv_goto (tgt := 111) hx hb dX9_isAsked_107 (by decide) ?_
              exact x_zret X hP hS (Or.inr rfl) hM dX9_isAsked_111
          · replace hM := (if_pos c5).symm.trans hM
            refine lv_lload_n hx hb dX9_isAsked_86 rfl (lv_at hl 1 rfl) ?_
            refine lv_lload_n hx hb dX9_isAsked_87 rfl (lv_at hl 2 rfl) ?_
            refine W.lcmp hx hb dX9_isAsked_88 ?_
            refine lv_if_ne (tgt := 96) hx hb dX9_isAsked_89 (by decide) (fun c7 => ?_) (fun c7 => ?_)
            · replace hM := (if_neg c7).symm.trans hM
              refine lv_iconst (v := 0) hx hb dX9_isAsked_96 (by decide) ?_
              refine lv_goto (tgt := 111) hx hb dX9_isAsked_97 (by decide) ?_
              exact x_zret X hP hS (Or.inl rfl) hM dX9_isAsked_111
            · replace hM := (if_pos c7).symm.trans hM
              refine lv_iconst (v := 1) hx hb dX9_isAsked_92 (by decide) ?_
              refine lv_goto (tgt := 111) hx hb dX9_isAsked_93 (by decide) ?_
              exact x_zret X hP hS (Or.inr rfl) hM dX9_isAsked_111
        · replace hM := (if_pos c4).symm.trans hM
          refine lv_lload_n hx hb dX9_isAsked_66 rfl (lv_at hl 1 rfl) ?_
          refine lv_lload_n hx hb dX9_isAsked_67 rfl (lv_at hl 2 rfl) ?_
          refine W.lcmp hx hb dX9_isAsked_68 ?_
          refine lv_if_lt (tgt := 76) hx hb dX9_isAsked_69 (by decide) (fun c8 => ?_) (fun c8 => ?_)
          · replace hM := (if_pos c8).symm.trans hM
            refine lv_iconst (v := 0) hx hb dX9_isAsked_76 (by decide) ?_
            refine lv_goto (tgt := 111) hx hb dX9_isAsked_77 (by decide) ?_
            exact x_zret X hP hS (Or.inl rfl) hM dX9_isAsked_111
          · replace hM := (if_neg c8).symm.trans hM
            refine lv_iconst (v := 1) hx hb dX9_isAsked_72 (by decide) ?_
            refine lv_goto (tgt := 111) hx hb dX9_isAsked_73 (by decide) ?_
            exact x_zret X hP hS (Or.inr rfl) hM dX9_isAsked_111
      · replace hM := (if_pos c3).symm.trans hM
        refine lv_lload_n hx hb dX9_isAsked_46 rfl (lv_at hl 1 rfl) ?_
        refine lv_lload_n hx hb dX9_isAsked_47 rfl (lv_at hl 2 rfl) ?_
        refine W.lcmp hx hb dX9_isAsked_48 ?_
        refine lv_if_le (tgt := 56) hx hb dX9_isAsked_49 (by decide) (fun c9 => ?_) (fun c9 => ?_)
        · replace hM := (if_pos c9).symm.trans hM
          refine lv_iconst (v := 0) hx hb dX9_isAsked_56 (by decide) ?_
          refine lv_goto (tgt := 111) hx hb dX9_isAsked_57 (by decide) ?_
          exact x_zret X hP hS (Or.inl rfl) hM dX9_isAsked_111
        · replace hM := (if_neg c9).symm.trans hM
          refine lv_iconst (v := 1) hx hb dX9_isAsked_52 (by decide) ?_
          refine lv_goto (tgt := 111) hx hb dX9_isAsked_53 (by decide) ?_
          exact x_zret X hP hS (Or.inr rfl) hM dX9_isAsked_111
    · replace hM := (if_pos c2).symm.trans hM
      refine lv_lload_n hx hb dX9_isAsked_26 rfl (lv_at hl 1 rfl) ?_
      refine lv_lload_n hx hb dX9_isAsked_27 rfl (lv_at hl 2 rfl) ?_
      refine W.lcmp hx hb dX9_isAsked_28 ?_
      refine lv_if_gt (tgt := 36) hx hb dX9_isAsked_29 (by decide) (fun c10 => ?_) (fun c10 => ?_)
      · replace hM := (if_pos c10).symm.trans hM
        refine lv_iconst (v := 0) hx hb dX9_isAsked_36 (by decide) ?_
        refine lv_goto (tgt := 111) hx hb dX9_isAsked_37 (by decide) ?_
        exact x_zret X hP hS (Or.inl rfl) hM dX9_isAsked_111
      · replace hM := (if_neg c10).symm.trans hM
        refine lv_iconst (v := 1) hx hb dX9_isAsked_32 (by decide) ?_
        refine lv_goto (tgt := 111) hx hb dX9_isAsked_33 (by decide) ?_
        exact x_zret X hP hS (Or.inr rfl) hM dX9_isAsked_111
  · replace hM := (if_pos c1).symm.trans hM
    refine lv_lload_n hx hb dX9_isAsked_6 rfl (lv_at hl 1 rfl) ?_
    refine lv_lload_n hx hb dX9_isAsked_7 rfl (lv_at hl 2 rfl) ?_
    refine W.lcmp hx hb dX9_isAsked_8 ?_
    refine lv_if_ge (tgt := 16) hx hb dX9_isAsked_9 (by decide) (fun c11 => ?_) (fun c11 => ?_)
    · replace hM := (if_pos c11).symm.trans hM
      refine lv_iconst (v := 0) hx hb dX9_isAsked_16 (by decide) ?_
      refine lv_goto (tgt := 111) hx hb dX9_isAsked_17 (by decide) ?_
      exact x_zret X hP hS (Or.inl rfl) hM dX9_isAsked_111
    · replace hM := (if_neg c11).symm.trans hM
      refine lv_iconst (v := 1) hx hb dX9_isAsked_12 (by decide) ?_
      refine lv_goto (tgt := 111) hx hb dX9_isAsked_13 (by decide) ?_
      exact x_zret X hP hS (Or.inr rfl) hM dX9_isAsked_111

def jX9_work_401 (k47 : xS → Nat → Int32 → Int32 → Int32 → Int32 → Int32 → Option xS) (S : xS) (h0 : Nat) (v2 : Int32) (v3 : Int32) (v4 : Int32) (v5 : Int32) (v6 : Int32) (t0 : Int32) (t1 : Nat) : Option xS := (sI Ym S t1 t0 1).bind fun S1 => k47 S1 h0 v2 v3 v4 v5 (v6 + 1)
set_option maxHeartbeats 4000000 in
set_option maxRecDepth 100000 in
theorem wX9_work_401 {p : Program} {l : Launch} {e : Env} {s : State} {m : MethodId} {args : Array Value} {below : List Frame} {meth : Method} {c : Code} {G : xG} {S' : xS} (X : xX p s m args meth c cX9_work 9 none RX9 G Ym) (k47 : xS → Nat → Int32 → Int32 → Int32 → Int32 → Int32 → Option xS) (hh47 : ∀ (S : xS) (h0 : Nat) (v2 : Int32) (v3 : Int32) (v4 : Int32) (v5 : Int32) (v6 : Int32) (H : Heap) (locs : List Loc) (ls : Array Slot), k47 S h0 v2 v3 v4 v5 v6 = some S' → xk Ym h0 = 9 → xP G Ym S H → va_S (xA G Ym) s.heap H locs → lv_has ls 9 [(0, .ref (xad G h0)), (2, .int v2), (3, .int v3), (4, .int v4), (5, .int v5), (6, .int v6)] → W p l e (xr 2 45) s m args below meth c H locs 0 0 (MQ below (xQv G Ym S') args s 0 0 (xA G Ym)) (F0 m 47 ls [])) : ∀ (S : xS) (h0 : Nat) (v2 : Int32) (v3 : Int32) (v4 : Int32) (v5 : Int32) (v6 : Int32) (t0 : Int32) (t1 : Nat) (H : Heap) (locs : List Loc) (ls : Array Slot), jX9_work_401 k47 S h0 v2 v3 v4 v5 v6 t0 t1 = some S' → xk Ym h0 = 9 → xk Ym t1 = 12 → xP G Ym S H → va_S (xA G Ym) s.heap H locs → lv_has ls 9 [(0, .ref (xad G h0)), (2, .int v2), (3, .int v3), (4, .int v4), (5, .int v5), (6, .int v6)] → W p l e (xr 2 45) s m args below meth c H locs 0 0 (MQ below (xQv G Ym S') args s 0 0 (xA G Ym)) (F0 m 401 ls [.int t0, .ref (xad G t1)]) := by
  obtain ⟨hx, hb, hml, hown, hts, hr, hlk, hK, hE, hJ⟩ := id X
  intro S h0 v2 v3 v4 v5 v6 t0 t1 H locs ls hM hk0 hkt1 hP hS hl
  unfold jX9_work_401 at hM
  refine lv_iconst (v := 1) hx hb dX9_work_401 (by decide) ?_
  refine lv_goto (tgt := 406) hx hb dX9_work_402 (by decide) ?_
  obtain ⟨S1, eS1, hM⟩ := xb hM
  refine x_zast X hP hS hkt1 (Or.inr rfl) eS1 dX9_work_406 (fun H locs hP hS => ?_)
  refine lv_iinc (v := v6 + 1) (lv' := [(6, .int (v6 + 1)), (0, .ref (xad G h0)), (2, .int v2), (3, .int v3), (4, .int v4), (5, .int v5)]) hx hb dX9_work_407 hl (k := 5) rfl (by first | rfl | exact congrArg (fun z => v6 + z) (by decide)) (by decide) rfl (fun ls hl => ?_)
  refine lv_goto (tgt := 47) hx hb dX9_work_410 (by decide) ?_
  exact hh47 S1 h0 v2 v3 v4 v5 (v6 + 1) _ _ _ hM hk0 hP hS (lv_sub hl [1, 2, 3, 4, 5, 0] rfl)
def jX9_work_375 (k47 : xS → Nat → Int32 → Int32 → Int32 → Int32 → Int32 → Option xS) (S : xS) (h0 : Nat) (v2 : Int32) (v3 : Int32) (v4 : Int32) (v5 : Int32) (v6 : Int32) (t0 : Int32) (t1 : Nat) : Option xS := (sI Ym S t1 t0 0).bind fun S1 => k47 S1 h0 v2 v3 v4 v5 (v6 + 1)
set_option maxHeartbeats 4000000 in
set_option maxRecDepth 100000 in
theorem wX9_work_375 {p : Program} {l : Launch} {e : Env} {s : State} {m : MethodId} {args : Array Value} {below : List Frame} {meth : Method} {c : Code} {G : xG} {S' : xS} (X : xX p s m args meth c cX9_work 9 none RX9 G Ym) (k47 : xS → Nat → Int32 → Int32 → Int32 → Int32 → Int32 → Option xS) (hh47 : ∀ (S : xS) (h0 : Nat) (v2 : Int32) (v3 : Int32) (v4 : Int32) (v5 : Int32) (v6 : Int32) (H : Heap) (locs : List Loc) (ls : Array Slot), k47 S h0 v2 v3 v4 v5 v6 = some S' → xk Ym h0 = 9 → xP G Ym S H → va_S (xA G Ym) s.heap H locs → lv_has ls 9 [(0, .ref (xad G h0)), (2, .int v2), (3, .int v3), (4, .int v4), (5, .int v5), (6, .int v6)] → W p l e (xr 2 45) s m args below meth c H locs 0 0 (MQ below (xQv G Ym S') args s 0 0 (xA G Ym)) (F0 m 47 ls [])) : ∀ (S : xS) (h0 : Nat) (v2 : Int32) (v3 : Int32) (v4 : Int32) (v5 : Int32) (v6 : Int32) (t0 : Int32) (t1 : Nat) (H : Heap) (locs : List Loc) (ls : Array Slot), jX9_work_375 k47 S h0 v2 v3 v4 v5 v6 t0 t1 = some S' → xk Ym h0 = 9 → xk Ym t1 = 12 → xP G Ym S H → va_S (xA G Ym) s.heap H locs → lv_has ls 9 [(0, .ref (xad G h0)), (2, .int v2), (3, .int v3), (4, .int v4), (5, .int v5), (6, .int v6)] → W p l e (xr 2 45) s m args below meth c H locs 0 0 (MQ below (xQv G Ym S') args s 0 0 (xA G Ym)) (F0 m 375 ls [.int t0, .ref (xad G t1)]) := by
  obtain ⟨hx, hb, hml, hown, hts, hr, hlk, hK, hE, hJ⟩ := id X
  intro S h0 v2 v3 v4 v5 v6 t0 t1 H locs ls hM hk0 hkt1 hP hS hl
  unfold jX9_work_375 at hM
  refine lv_iconst (v := 0) hx hb dX9_work_375 (by decide) ?_
  refine lv_goto (tgt := 406) hx hb dX9_work_376 (by decide) ?_
  obtain ⟨S1, eS1, hM⟩ := xb hM
  refine x_zast X hP hS hkt1 (Or.inl rfl) eS1 dX9_work_406 (fun H locs hP hS => ?_)
  refine lv_iinc (v := v6 + 1) (lv' := [(6, .int (v6 + 1)), (0, .ref (xad G h0)), (2, .int v2), (3, .int v3), (4, .int v4), (5, .int v5)]) hx hb dX9_work_407 hl (k := 5) rfl (by first | rfl | exact congrArg (fun z => v6 + z) (by decide)) (by decide) rfl (fun ls hl => ?_)
  refine lv_goto (tgt := 47) hx hb dX9_work_410 (by decide) ?_
  exact hh47 S1 h0 v2 v3 v4 v5 (v6 + 1) _ _ _ hM hk0 hP hS (lv_sub hl [1, 2, 3, 4, 5, 0] rfl)
def jX9_work_119 (k47 : xS → Nat → Int32 → Int32 → Int32 → Int32 → Int32 → Option xS) (S : xS) (h0 : Nat) (v2 : Int32) (v3 : Int32) (v4 : Int32) (v5 : Int32) (v6 : Int32) (t0 : Int64) (t1 : Int32) (t2 : Nat) : Option xS := (sJ Ym S t2 t1 t0).bind fun S1 => k47 S1 h0 v2 v3 (v4 + 1) v5 (v6 + 1)
set_option maxHeartbeats 4000000 in
set_option maxRecDepth 100000 in
theorem wX9_work_119 {p : Program} {l : Launch} {e : Env} {s : State} {m : MethodId} {args : Array Value} {below : List Frame} {meth : Method} {c : Code} {G : xG} {S' : xS} (X : xX p s m args meth c cX9_work 9 none RX9 G Ym) (k47 : xS → Nat → Int32 → Int32 → Int32 → Int32 → Int32 → Option xS) (hh47 : ∀ (S : xS) (h0 : Nat) (v2 : Int32) (v3 : Int32) (v4 : Int32) (v5 : Int32) (v6 : Int32) (H : Heap) (locs : List Loc) (ls : Array Slot), k47 S h0 v2 v3 v4 v5 v6 = some S' → xk Ym h0 = 9 → xP G Ym S H → va_S (xA G Ym) s.heap H locs → lv_has ls 9 [(0, .ref (xad G h0)), (2, .int v2), (3, .int v3), (4, .int v4), (5, .int v5), (6, .int v6)] → W p l e (xr 2 45) s m args below meth c H locs 0 0 (MQ below (xQv G Ym S') args s 0 0 (xA G Ym)) (F0 m 47 ls [])) : ∀ (S : xS) (h0 : Nat) (v2 : Int32) (v3 : Int32) (v4 : Int32) (v5 : Int32) (v6 : Int32) (t0 : Int64) (t1 : Int32) (t2 : Nat) (H : Heap) (locs : List Loc) (ls : Array Slot), jX9_work_119 k47 S h0 v2 v3 v4 v5 v6 t0 t1 t2 = some S' → xk Ym h0 = 9 → xk Ym t2 = 11 → xP G Ym S H → va_S (xA G Ym) s.heap H locs → lv_has ls 9 [(0, .ref (xad G h0)), (2, .int v2), (3, .int v3), (4, .int v4), (5, .int v5), (6, .int v6)] → W p l e (xr 2 45) s m args below meth c H locs 0 0 (MQ below (xQv G Ym S') args s 0 0 (xA G Ym)) (F0 m 119 ls [.long t0, .int t1, .ref (xad G t2)]) := by
  obtain ⟨hx, hb, hml, hown, hts, hr, hlk, hK, hE, hJ⟩ := id X
  intro S h0 v2 v3 v4 v5 v6 t0 t1 t2 H locs ls hM hk0 hkt2 hP hS hl
  unfold jX9_work_119 at hM
  obtain ⟨S1, eS1, hM⟩ := xb hM
  refine x_last X hP hS hkt2 eS1 dX9_work_119 (fun H locs hP hS => ?_)
  refine lv_iinc (v := v4 + 1) (lv' := [(4, .int (v4 + 1)), (0, .ref (xad G h0)), (2, .int v2), (3, .int v3), (5, .int v5), (6, .int v6)]) hx hb dX9_work_120 hl (k := 3) rfl (by first | rfl | exact congrArg (fun z => v4 + z) (by decide)) (by decide) rfl (fun ls hl => ?_)
  refine lv_goto (tgt := 407) hx hb dX9_work_123 (by decide) ?_
  refine lv_iinc (v := v6 + 1) (lv' := [(6, .int (v6 + 1)), (4, .int (v4 + 1)), (0, .ref (xad G h0)), (2, .int v2), (3, .int v3), (5, .int v5)]) hx hb dX9_work_407 hl (k := 5) rfl (by first | rfl | exact congrArg (fun z => v6 + z) (by decide)) (by decide) rfl (fun ls hl => ?_)
  refine lv_goto (tgt := 47) hx hb dX9_work_410 (by decide) ?_
  exact hh47 S1 h0 v2 v3 (v4 + 1) v5 (v6 + 1) _ _ _ hM hk0 hP hS (lv_sub hl [2, 3, 4, 1, 5, 0] rfl)
def lX9_work_47 : Nat → xS → Nat → Int32 → Int32 → Int32 → Int32 → Int32 → Option xS
  | 0, _, _, _, _, _, _, _ => none
  | n + 1, S, h0, v2, v3, v4, v5, v6 => (dO Ym (gR S h0 2) 10).bind fun d1 => (aI Ym S d1 (v2 + 2)).bind fun x2 => if (x2 ≤ v6 : Prop) then (some S) else ((dO Ym (gR S h0 2) 10).bind fun d4 => (aI Ym S d4 (v3 + (2 * v6))).bind fun x5 => (dO Ym (gR S h0 2) 10).bind fun d6 => (aI Ym S d6 ((v3 + (2 * v6)) + 1)).bind fun x7 => if (1 < x5 : Prop) then (if (x5 = 2 : Prop) then ((dO Ym (gR S h0 23) 11).bind fun d61 => (dO Ym (gR S h0 23) 11).bind fun d62 => (aJ Ym S d62 (v4 - 1)).bind fun x63 => (sJ Ym S d61 (v4 - 1) (-x63)).bind fun S64 => lX9_work_47 n S64 h0 v2 v3 v4 v5 (v6 + 1)) else (if (10 ≤ x5 : Prop) then (if (20 ≤ x5 : Prop) then (if (x5 = 20 : Prop) then ((dO Ym (gR S h0 24) 12).bind fun d40 => (dO Ym (gR S h0 24) 12).bind fun d41 => (aI Ym S d41 (v5 - 1)).bind fun x42 => if (x42 = 0 : Prop) then ((sI Ym S d40 (v5 - 1) 1).bind fun S45 => lX9_work_47 n S45 h0 v2 v3 v4 v5 (v6 + 1)) else ((sI Ym S d40 (v5 - 1) 0).bind fun S44 => lX9_work_47 n S44 h0 v2 v3 v4 v5 (v6 + 1))) else (if (x5 = 23 : Prop) then ((dO Ym (gR S h0 23) 11).bind fun d30 => (dO Ym (gR S h0 24) 12).bind fun d31 => (aI Ym S d31 (v5 + (-1))).bind fun x32 => if (x32 = 0 : Prop) then ((dO Ym (gR S h0 23) 11).bind fun d34 => (aJ Ym S d34 (v4 + (-1))).bind fun x35 => (sJ Ym S d30 ((v4 + (-1)) - 1) x35).bind fun S36 => lX9_work_47 n S36 h0 v2 v3 (v4 + (-1)) (v5 + (-1)) (v6 + 1)) else ((dO Ym (gR S h0 23) 11).bind fun d37 => (aJ Ym S d37 ((v4 + (-1)) - 1)).bind fun x38 => (sJ Ym S d30 ((v4 + (-1)) - 1) x38).bind fun S39 => lX9_work_47 n S39 h0 v2 v3 (v4 + (-1)) (v5 + (-1)) (v6 + 1))) else ((dO Ym (gR S h0 24) 12).bind fun d14 => if (x5 = 21 : Prop) then ((dO Ym (gR S h0 24) 12).bind fun d23 => (aI Ym S d23 ((v5 + (-1)) - 1)).bind fun x24 => if (x24 = 0 : Prop) then (jX9_work_375 (lX9_work_47  n) S h0 v2 v3 v4 (v5 + (-1)) v6 ((v5 + (-1)) - 1) d14) else ((dO Ym (gR S h0 24) 12).bind fun d26 => (aI Ym S d26 (v5 + (-1))).bind fun x27 => if (x27 = 0 : Prop) then (jX9_work_375 (lX9_work_47  n) S h0 v2 v3 v4 (v5 + (-1)) v6 ((v5 + (-1)) - 1) d14) else ((sI Ym S d14 ((v5 + (-1)) - 1) 1).bind fun S29 => lX9_work_47 n S29 h0 v2 v3 v4 (v5 + (-1)) (v6 + 1)))) else ((dO Ym (gR S h0 24) 12).bind fun d16 => (aI Ym S d16 ((v5 + (-1)) - 1)).bind fun x17 => if (x17 = 0 : Prop) then ((dO Ym (gR S h0 24) 12).bind fun d19 => (aI Ym S d19 (v5 + (-1))).bind fun x20 => if (x20 = 0 : Prop) then ((sI Ym S d14 ((v5 + (-1)) - 1) 0).bind fun S22 => lX9_work_47 n S22 h0 v2 v3 v4 (v5 + (-1)) (v6 + 1)) else (jX9_work_401 (lX9_work_47  n) S h0 v2 v3 v4 (v5 + (-1)) v6 ((v5 + (-1)) - 1) d14)) else (jX9_work_401 (lX9_work_47  n) S h0 v2 v3 v4 (v5 + (-1)) v6 ((v5 + (-1)) - 1) d14))))) else ((dO Ym (gR S h0 24) 12).bind fun d46 => (dO Ym (gR S h0 23) 11).bind fun d47 => (aJ Ym S d47 (v4 + (-2))).bind fun x48 => (dO Ym (gR S h0 23) 11).bind fun d49 => (aJ Ym S d49 ((v4 + (-2)) + 1)).bind fun x50 => (mX9_isAsked S x5 x48 x50).bind fun q51 => (zk q51.1).bind fun z52 => (sI Ym q51.2 d46 v5 q51.1).bind fun S53 => lX9_work_47 n S53 h0 v2 v3 (v4 + (-2)) (v5 + 1) (v6 + 1))) else ((dO Ym (gR S h0 23) 11).bind fun d54 => (dO Ym (gR S h0 23) 11).bind fun d55 => (aJ Ym S d55 ((v4 + (-1)) - 1)).bind fun x56 => (dO Ym (gR S h0 23) 11).bind fun d57 => (aJ Ym S d57 (v4 + (-1))).bind fun x58 => (mX9_two S x5 x56 x58).bind fun q59 => (sJ Ym q59.2 d54 ((v4 + (-1)) - 1) q59.1).bind fun S60 => lX9_work_47 n S60 h0 v2 v3 (v4 + (-1)) v5 (v6 + 1)))) else ((dO Ym (gR S h0 23) 11).bind fun d65 => if (x5 = 0 : Prop) then (jX9_work_119 (lX9_work_47  n) S h0 v2 v3 v4 v5 v6 ((x7 : Int32).toInt64) v4 d65) else ((dO Ym (gR S h0 22) 10).bind fun d67 => (aI Ym S d67 x7).bind fun x68 => jX9_work_119 (lX9_work_47  n) S h0 v2 v3 v4 v5 v6 ((x68 : Int32).toInt64) v4 d65)))
set_option maxHeartbeats 4000000 in
set_option maxRecDepth 100000 in
theorem wX9_work_47 {p : Program} {l : Launch} {e : Env} {s : State} {m : MethodId} {args : Array Value} {below : List Frame} {meth : Method} {c : Code} {G : xG} {S' : xS} (X : xX p s m args meth c cX9_work 9 none RX9 G Ym) : ∀ (n : Nat), ∀ (S : xS) (h0 : Nat) (v2 : Int32) (v3 : Int32) (v4 : Int32) (v5 : Int32) (v6 : Int32) (H : Heap) (locs : List Loc) (ls : Array Slot), lX9_work_47  n S h0 v2 v3 v4 v5 v6 = some S' → xk Ym h0 = 9 → xP G Ym S H → va_S (xA G Ym) s.heap H locs → lv_has ls 9 [(0, .ref (xad G h0)), (2, .int v2), (3, .int v3), (4, .int v4), (5, .int v5), (6, .int v6)] → W p l e (xr 2 45) s m args below meth c H locs 0 0 (MQ below (xQv G Ym S') args s 0 0 (xA G Ym)) (F0 m 47 ls []) := by
  obtain ⟨hx, hb, hml, hown, hts, hr, hlk, hK, hE, hJ⟩ := id X
  intro n
  induction n with
  | zero =>
    intro S h0 v2 v3 v4 v5 v6 H locs ls hM
    rw [lX9_work_47.eq_1] at hM
    cases hM
  | succ n ih =>
    intro S h0 v2 v3 v4 v5 v6 H locs ls hM hk0 hP hS hl
    rw [lX9_work_47.eq_2] at hM
    refine lv_iload hx hb dX9_work_47 (lv_at hl 5 rfl) ?_
    refine lv_aload_n hx hb dX9_work_49 rfl (lv_at hl 0 rfl) ?_
    obtain ⟨d1, ed1, hM⟩ := xb hM
    refine fdX9_2 X hP hk0 qw243 dX9_work_50 ed1 ?_
    refine lv_iload_n hx hb dX9_work_53 rfl (lv_at hl 1 rfl) ?_
    refine lv_iconst (v := 2) hx hb dX9_work_54 (by decide) ?_
    refine lv_iadd hx hb dX9_work_55 ?_
    obtain ⟨x2, ex2, hM⟩ := xb hM
    refine x_iald X hP (dO_k ed1) ex2 dX9_work_56 ?_
    refine lv_icmp_ge (tgt := 413) hx hb dX9_work_57 (by decide) (fun c3 => ?_) (fun c3 => ?_)
    · replace hM := (if_pos c3).symm.trans hM
      exact x_vret X hP hS hM dX9_work_413
    · replace hM := (if_neg c3).symm.trans hM
      refine lv_aload_n hx hb dX9_work_60 rfl (lv_at hl 0 rfl) ?_
      obtain ⟨d4, ed4, hM⟩ := xb hM
      refine fdX9_2 X hP hk0 qw243 dX9_work_61 ed4 ?_
      refine lv_iload_n hx hb dX9_work_64 rfl (lv_at hl 2 rfl) ?_
      refine lv_iconst (v := 2) hx hb dX9_work_65 (by decide) ?_
      refine lv_iload hx hb dX9_work_66 (lv_at hl 5 rfl) ?_
      refine lv_imul hx hb dX9_work_68 ?_
      refine lv_iadd hx hb dX9_work_69 ?_
      obtain ⟨x5, ex5, hM⟩ := xb hM
      refine x_iald X hP (dO_k ed4) ex5 dX9_work_70 ?_
      refine lv_istore (lv' := [(7, .int x5), (0, .ref (xad G h0)), (2, .int v2), (3, .int v3), (4, .int v4), (5, .int v5), (6, .int v6)]) hx hb dX9_work_71 hl (by decide) rfl (fun ls hl => ?_)
      refine lv_aload_n hx hb dX9_work_73 rfl (lv_at hl 1 rfl) ?_
      obtain ⟨d6, ed6, hM⟩ := xb hM
      refine fdX9_2 X hP hk0 qw243 dX9_work_74 ed6 ?_
      refine lv_iload_n hx hb dX9_work_77 rfl (lv_at hl 3 rfl) ?_
      refine lv_iconst (v := 2) hx hb dX9_work_78 (by decide) ?_
      refine lv_iload hx hb dX9_work_79 (lv_at hl 6 rfl) ?_
      refine lv_imul hx hb dX9_work_81 ?_
      refine lv_iadd hx hb dX9_work_82 ?_
      refine lv_iconst (v := 1) hx hb dX9_work_83 (by decide) ?_
      refine lv_iadd hx hb dX9_work_84 ?_
      obtain ⟨x7, ex7, hM⟩ := xb hM
      refine x_iald X hP (dO_k ed6) ex7 dX9_work_85 ?_
      refine lv_istore (lv' := [(8, .int x7), (7, .int x5), (0, .ref (xad G h0)), (2, .int v2), (3, .int v3), (4, .int v4), (5, .int v5), (6, .int v6)]) hx hb dX9_work_86 hl (by decide) rfl (fun ls hl => ?_)
      refine lv_iload hx hb dX9_work_88 (lv_at hl 1 rfl) ?_
      refine lv_iconst (v := 1) hx hb dX9_work_90 (by decide) ?_
      refine lv_icmp_gt (tgt := 126) hx hb dX9_work_91 (by decide) (fun c8 => ?_) (fun c8 => ?_)
      · replace hM := (if_pos c8).symm.trans hM
        refine lv_iload hx hb dX9_work_126 (lv_at hl 1 rfl) ?_
        refine lv_iconst (v := 2) hx hb dX9_work_128 (by decide) ?_
        refine lv_icmp_ne (tgt := 154) hx hb dX9_work_129 (by decide) (fun c9 => ?_) (fun c9 => ?_)
        · replace hM := (if_neg c9).symm.trans hM
          refine lv_iload hx hb dX9_work_154 (lv_at hl 1 rfl) ?_
          refine lv_bipush (v := 10) hx hb dX9_work_156 (by decide) ?_
          refine lv_icmp_ge (tgt := 197) hx hb dX9_work_158 (by decide) (fun c10 => ?_) (fun c10 => ?_)
          · replace hM := (if_pos c10).symm.trans hM
            refine lv_iload hx hb dX9_work_197 (lv_at hl 1 rfl) ?_
            refine lv_bipush (v := 20) hx hb dX9_work_199 (by decide) ?_
            refine lv_icmp_ge (tgt := 241) hx hb dX9_work_201 (by decide) (fun c11 => ?_) (fun c11 => ?_)
            · replace hM := (if_pos c11).symm.trans hM
              refine lv_iload hx hb dX9_work_241 (lv_at hl 1 rfl) ?_
              refine lv_bipush (v := 20) hx hb dX9_work_243 (by decide) ?_
              refine lv_icmp_ne (tgt := 277) hx hb dX9_work_245 (by decide) (fun c12 => ?_) (fun c12 => ?_)
              · replace hM := (if_neg c12).symm.trans hM
                refine lv_iload hx hb dX9_work_277 (lv_at hl 1 rfl) ?_
                refine lv_bipush (v := 23) hx hb dX9_work_279 (by decide) ?_
                refine lv_icmp_ne (tgt := 331) hx hb dX9_work_281 (by decide) (fun c13 => ?_) (fun c13 => ?_)
                · replace hM := (if_neg c13).symm.trans hM
                  refine lv_iinc (v := v5 + (-1)) (lv' := [(5, .int (v5 + (-1))), (8, .int x7), (7, .int x5), (0, .ref (xad G h0)), (2, .int v2), (3, .int v3), (4, .int v4), (6, .int v6)]) hx hb dX9_work_331 hl (k := 6) rfl (by first | rfl | exact congrArg (fun z => v5 + z) (by decide)) (by decide) rfl (fun ls hl => ?_)
                  refine lv_aload_n hx hb dX9_work_334 rfl (lv_at hl 3 rfl) ?_
                  obtain ⟨d14, ed14, hM⟩ := xb hM
                  refine fdX9_24 X hP hk0 qw287 dX9_work_335 ed14 ?_
                  refine lv_iload hx hb dX9_work_338 (lv_at hl 0 rfl) ?_
                  refine lv_iconst (v := 1) hx hb dX9_work_340 (by decide) ?_
                  refine lv_isub hx hb dX9_work_341 ?_
                  refine lv_iload hx hb dX9_work_342 (lv_at hl 2 rfl) ?_
                  refine lv_bipush (v := 21) hx hb dX9_work_344 (by decide) ?_
                  refine lv_icmp_ne (tgt := 379) hx hb dX9_work_346 (by decide) (fun c15 => ?_) (fun c15 => ?_)
                  · replace hM := (if_neg c15).symm.trans hM
                    refine lv_aload_n hx hb dX9_work_379 rfl (lv_at hl 3 rfl) ?_
                    obtain ⟨d16, ed16, hM⟩ := xb hM
                    refine fdX9_24 X hP hk0 qw287 dX9_work_380 ed16 ?_
                    refine lv_iload hx hb dX9_work_383 (lv_at hl 0 rfl) ?_
                    refine lv_iconst (v := 1) hx hb dX9_work_385 (by decide) ?_
                    refine lv_isub hx hb dX9_work_386 ?_
                    obtain ⟨x17, ex17, hM⟩ := xb hM
                    refine x_zald X hP (dO_k ed16) ex17 dX9_work_387 ?_
                    refine lv_if_ne (tgt := 401) hx hb dX9_work_388 (by decide) (fun c18 => ?_) (fun c18 => ?_)
                    · replace hM := (if_neg c18).symm.trans hM
                      exact wX9_work_401 X (lX9_work_47  n) ih S h0 v2 v3 v4 (v5 + (-1)) v6 ((v5 + (-1)) - 1) d14 _ _ _ hM hk0 (dO_k ed14) hP hS (lv_sub hl [3, 4, 5, 6, 0, 7] rfl)
                    · replace hM := (if_pos c18).symm.trans hM
                      refine lv_aload_n hx hb dX9_work_391 rfl (lv_at hl 3 rfl) ?_
                      obtain ⟨d19, ed19, hM⟩ := xb hM
                      refine fdX9_24 X hP hk0 qw287 dX9_work_392 ed19 ?_
                      refine lv_iload hx hb dX9_work_395 (lv_at hl 0 rfl) ?_
                      obtain ⟨x20, ex20, hM⟩ := xb hM
                      refine x_zald X hP (dO_k ed19) ex20 dX9_work_397 ?_
                      refine lv_if_eq (tgt := 405) hx hb dX9_work_398 (by decide) (fun c21 => ?_) (fun c21 => ?_)
                      · replace hM := (if_pos c21).symm.trans hM
                        refine lv_iconst (v := 0) hx hb dX9_work_405 (by decide) ?_
                        obtain ⟨S22, eS22, hM⟩ := xb hM
                        refine x_zast X hP hS (dO_k ed14) (Or.inl rfl) eS22 dX9_work_406 (fun H locs hP hS => ?_)
                        refine lv_iinc (v := v6 + 1) (lv' := [(6, .int (v6 + 1)), (5, .int (v5 + (-1))), (8, .int x7), (7, .int x5), (0, .ref (xad G h0)), (2, .int v2), (3, .int v3), (4, .int v4)]) hx hb dX9_work_407 hl (k := 7) rfl (by first | rfl | exact congrArg (fun z => v6 + z) (by decide)) (by decide) rfl (fun ls hl => ?_)
                        refine lv_goto (tgt := 47) hx hb dX9_work_410 (by decide) ?_
                        exact ih S22 h0 v2 v3 v4 (v5 + (-1)) (v6 + 1) _ _ _ hM hk0 hP hS (lv_sub hl [4, 5, 6, 7, 1, 0] rfl)
                      · replace hM := (if_neg c21).symm.trans hM
                        exact wX9_work_401 X (lX9_work_47  n) ih S h0 v2 v3 v4 (v5 + (-1)) v6 ((v5 + (-1)) - 1) d14 _ _ _ hM hk0 (dO_k ed14) hP hS (lv_sub hl [3, 4, 5, 6, 0, 7] rfl)
                  · replace hM := (if_pos c15).symm.trans hM
                    refine lv_aload_n hx hb dX9_work_349 rfl (lv_at hl 3 rfl) ?_
                    obtain ⟨d23, ed23, hM⟩ := xb hM
                    refine fdX9_24 X hP hk0 qw287 dX9_work_350 ed23 ?_
                    refine lv_iload hx hb dX9_work_353 (lv_at hl 0 rfl) ?_
                    refine lv_iconst (v := 1) hx hb dX9_work_355 (by decide) ?_
                    refine lv_isub hx hb dX9_work_356 ?_
                    obtain ⟨x24, ex24, hM⟩ := xb hM
                    refine x_zald X hP (dO_k ed23) ex24 dX9_work_357 ?_
                    refine lv_if_eq (tgt := 375) hx hb dX9_work_358 (by decide) (fun c25 => ?_) (fun c25 => ?_)
                    · replace hM := (if_pos c25).symm.trans hM
                      exact wX9_work_375 X (lX9_work_47  n) ih S h0 v2 v3 v4 (v5 + (-1)) v6 ((v5 + (-1)) - 1) d14 _ _ _ hM hk0 (dO_k ed14) hP hS (lv_sub hl [3, 4, 5, 6, 0, 7] rfl)
                    · replace hM := (if_neg c25).symm.trans hM
                      refine lv_aload_n hx hb dX9_work_361 rfl (lv_at hl 3 rfl) ?_
                      obtain ⟨d26, ed26, hM⟩ := xb hM
                      refine fdX9_24 X hP hk0 qw287 dX9_work_362 ed26 ?_
                      refine lv_iload hx hb dX9_work_365 (lv_at hl 0 rfl) ?_
                      obtain ⟨x27, ex27, hM⟩ := xb hM
                      refine x_zald X hP (dO_k ed26) ex27 dX9_work_367 ?_
                      refine lv_if_eq (tgt := 375) hx hb dX9_work_368 (by decide) (fun c28 => ?_) (fun c28 => ?_)
                      · replace hM := (if_pos c28).symm.trans hM
                        exact wX9_work_375 X (lX9_work_47  n) ih S h0 v2 v3 v4 (v5 + (-1)) v6 ((v5 + (-1)) - 1) d14 _ _ _ hM hk0 (dO_k ed14) hP hS (lv_sub hl [3, 4, 5, 6, 0, 7] rfl)
                      · replace hM := (if_neg c28).symm.trans hM
                        refine lv_iconst (v := 1) hx hb dX9_work_371 (by decide) ?_
                        refine lv_goto (tgt := 406) hx hb dX9_work_372 (by decide) ?_
                        obtain ⟨S29, eS29, hM⟩ := xb hM
                        refine x_zast X hP hS (dO_k ed14) (Or.inr rfl) eS29 dX9_work_406 (fun H locs hP hS => ?_)
                        refine lv_iinc (v := v6 + 1) (lv' := [(6, .int (v6 + 1)), (5, .int (v5 + (-1))), (8, .int x7), (7, .int x5), (0, .ref (xad G h0)), (2, .int v2), (3, .int v3), (4, .int v4)]) hx hb dX9_work_407 hl (k := 7) rfl (by first | rfl | exact congrArg (fun z => v6 + z) (by decide)) (by decide) rfl (fun ls hl => ?_)
                        refine lv_goto (tgt := 47) hx hb dX9_work_410 (by decide) ?_
                        exact ih S29 h0 v2 v3 v4 (v5 + (-1)) (v6 + 1) _ _ _ hM hk0 hP hS (lv_sub hl [4, 5, 6, 7, 1, 0] rfl)
                · replace hM := (if_pos c13).symm.trans hM
                  refine lv_iinc (v := v4 + (-1)) (lv' := [(4, .int (v4 + (-1))), (8, .int x7), (7, .int x5), (0, .ref (xad G h0)), (2, .int v2), (3, .int v3), (5, .int v5), (6, .int v6)]) hx hb dX9_work_284 hl (k := 5) rfl (by first | rfl | exact congrArg (fun z => v4 + z) (by decide)) (by decide) rfl (fun ls hl => ?_)
                  refine lv_iinc (v := v5 + (-1)) (lv' := [(5, .int (v5 + (-1))), (4, .int (v4 + (-1))), (8, .int x7), (7, .int x5), (0, .ref (xad G h0)), (2, .int v2), (3, .int v3), (6, .int v6)]) hx hb dX9_work_287 hl (k := 6) rfl (by first | rfl | exact congrArg (fun z => v5 + z) (by decide)) (by decide) rfl (fun ls hl => ?_)
                  refine lv_aload_n hx hb dX9_work_290 rfl (lv_at hl 4 rfl) ?_
                  obtain ⟨d30, ed30, hM⟩ := xb hM
                  refine fdX9_23 X hP hk0 qw288 dX9_work_291 ed30 ?_
                  refine lv_iload hx hb dX9_work_294 (lv_at hl 1 rfl) ?_
                  refine lv_iconst (v := 1) hx hb dX9_work_296 (by decide) ?_
                  refine lv_isub hx hb dX9_work_297 ?_
                  refine lv_aload_n hx hb dX9_work_298 rfl (lv_at hl 4 rfl) ?_
                  obtain ⟨d31, ed31, hM⟩ := xb hM
                  refine fdX9_24 X hP hk0 qw287 dX9_work_299 ed31 ?_
                  refine lv_iload hx hb dX9_work_302 (lv_at hl 0 rfl) ?_
                  obtain ⟨x32, ex32, hM⟩ := xb hM
                  refine x_zald X hP (dO_k ed31) ex32 dX9_work_304 ?_
                  refine lv_if_eq (tgt := 320) hx hb dX9_work_305 (by decide) (fun c33 => ?_) (fun c33 => ?_)
                  · replace hM := (if_pos c33).symm.trans hM
                    refine lv_aload_n hx hb dX9_work_320 rfl (lv_at hl 4 rfl) ?_
                    obtain ⟨d34, ed34, hM⟩ := xb hM
                    refine fdX9_23 X hP hk0 qw288 dX9_work_321 ed34 ?_
                    refine lv_iload hx hb dX9_work_324 (lv_at hl 1 rfl) ?_
                    obtain ⟨x35, ex35, hM⟩ := xb hM
                    refine x_lald X hP (dO_k ed34) ex35 dX9_work_326 ?_
                    obtain ⟨S36, eS36, hM⟩ := xb hM
                    refine x_last X hP hS (dO_k ed30) eS36 dX9_work_327 (fun H locs hP hS => ?_)
                    refine lv_goto (tgt := 407) hx hb dX9_work_328 (by decide) ?_
                    refine lv_iinc (v := v6 + 1) (lv' := [(6, .int (v6 + 1)), (5, .int (v5 + (-1))), (4, .int (v4 + (-1))), (8, .int x7), (7, .int x5), (0, .ref (xad G h0)), (2, .int v2), (3, .int v3)]) hx hb dX9_work_407 hl (k := 7) rfl (by first | rfl | exact congrArg (fun z => v6 + z) (by decide)) (by decide) rfl (fun ls hl => ?_)
                    refine lv_goto (tgt := 47) hx hb dX9_work_410 (by decide) ?_
                    exact ih S36 h0 v2 v3 (v4 + (-1)) (v5 + (-1)) (v6 + 1) _ _ _ hM hk0 hP hS (lv_sub hl [5, 6, 7, 2, 1, 0] rfl)
                  · replace hM := (if_neg c33).symm.trans hM
                    refine lv_aload_n hx hb dX9_work_308 rfl (lv_at hl 4 rfl) ?_
                    obtain ⟨d37, ed37, hM⟩ := xb hM
                    refine fdX9_23 X hP hk0 qw288 dX9_work_309 ed37 ?_
                    refine lv_iload hx hb dX9_work_312 (lv_at hl 1 rfl) ?_
                    refine lv_iconst (v := 1) hx hb dX9_work_314 (by decide) ?_
                    refine lv_isub hx hb dX9_work_315 ?_
                    obtain ⟨x38, ex38, hM⟩ := xb hM
                    refine x_lald X hP (dO_k ed37) ex38 dX9_work_316 ?_
                    refine lv_goto (tgt := 327) hx hb dX9_work_317 (by decide) ?_
                    obtain ⟨S39, eS39, hM⟩ := xb hM
                    refine x_last X hP hS (dO_k ed30) eS39 dX9_work_327 (fun H locs hP hS => ?_)
                    refine lv_goto (tgt := 407) hx hb dX9_work_328 (by decide) ?_
                    refine lv_iinc (v := v6 + 1) (lv' := [(6, .int (v6 + 1)), (5, .int (v5 + (-1))), (4, .int (v4 + (-1))), (8, .int x7), (7, .int x5), (0, .ref (xad G h0)), (2, .int v2), (3, .int v3)]) hx hb dX9_work_407 hl (k := 7) rfl (by first | rfl | exact congrArg (fun z => v6 + z) (by decide)) (by decide) rfl (fun ls hl => ?_)
                    refine lv_goto (tgt := 47) hx hb dX9_work_410 (by decide) ?_
                    exact ih S39 h0 v2 v3 (v4 + (-1)) (v5 + (-1)) (v6 + 1) _ _ _ hM hk0 hP hS (lv_sub hl [5, 6, 7, 2, 1, 0] rfl)
              · replace hM := (if_pos c12).symm.trans hM
                refine lv_aload_n hx hb dX9_work_248 rfl (lv_at hl 2 rfl) ?_
                obtain ⟨d40, ed40, hM⟩ := xb hM
                refine fdX9_24 X hP hk0 qw287 dX9_work_249 ed40 ?_
                refine lv_iload hx hb dX9_work_252 (lv_at hl 6 rfl) ?_
                refine lv_iconst (v := 1) hx hb dX9_work_254 (by decide) ?_
                refine lv_isub hx hb dX9_work_255 ?_
                refine lv_aload_n hx hb dX9_work_256 rfl (lv_at hl 2 rfl) ?_
                obtain ⟨d41, ed41, hM⟩ := xb hM
                refine fdX9_24 X hP hk0 qw287 dX9_work_257 ed41 ?_
                refine lv_iload hx hb dX9_work_260 (lv_at hl 6 rfl) ?_
                refine lv_iconst (v := 1) hx hb dX9_work_262 (by decide) ?_
                refine lv_isub hx hb dX9_work_263 ?_
                obtain ⟨x42, ex42, hM⟩ := xb hM
                refine x_zald X hP (dO_k ed41) ex42 dX9_work_264 ?_
                refine lv_if_ne (tgt := 272) hx hb dX9_work_265 (by decide) (fun c43 => ?_) (fun c43 => ?_)
                · replace hM := (if_neg c43).symm.trans hM
                  refine lv_iconst (v := 0) hx hb dX9_work_272 (by decide) ?_
                  obtain ⟨S44, eS44, hM⟩ := xb hM
                  refine x_zast X hP hS (dO_k ed40) (Or.inl rfl) eS44 dX9_work_273 (fun H locs hP hS => ?_)
                  refine lv_goto (tgt := 407) hx hb dX9_work_274 (by decide) ?_
                  refine lv_iinc (v := v6 + 1) (lv' := [(6, .int (v6 + 1)), (8, .int x7), (7, .int x5), (0, .ref (xad G h0)), (2, .int v2), (3, .int v3), (4, .int v4), (5, .int v5)]) hx hb dX9_work_407 hl (k := 7) rfl (by first | rfl | exact congrArg (fun z => v6 + z) (by decide)) (by decide) rfl (fun ls hl => ?_)
                  refine lv_goto (tgt := 47) hx hb dX9_work_410 (by decide) ?_
                  exact ih S44 h0 v2 v3 v4 v5 (v6 + 1) _ _ _ hM hk0 hP hS (lv_sub hl [3, 4, 5, 6, 7, 0] rfl)
                · replace hM := (if_pos c43).symm.trans hM
                  refine lv_iconst (v := 1) hx hb dX9_work_268 (by decide) ?_
                  refine lv_goto (tgt := 273) hx hb dX9_work_269 (by decide) ?_
                  obtain ⟨S45, eS45, hM⟩ := xb hM
                  refine x_zast X hP hS (dO_k ed40) (Or.inr rfl) eS45 dX9_work_273 (fun H locs hP hS => ?_)
                  refine lv_goto (tgt := 407) hx hb dX9_work_274 (by decide) ?_
                  refine lv_iinc (v := v6 + 1) (lv' := [(6, .int (v6 + 1)), (8, .int x7), (7, .int x5), (0, .ref (xad G h0)), (2, .int v2), (3, .int v3), (4, .int v4), (5, .int v5)]) hx hb dX9_work_407 hl (k := 7) rfl (by first | rfl | exact congrArg (fun z => v6 + z) (by decide)) (by decide) rfl (fun ls hl => ?_)
                  refine lv_goto (tgt := 47) hx hb dX9_work_410 (by decide) ?_
                  exact ih S45 h0 v2 v3 v4 v5 (v6 + 1) _ _ _ hM hk0 hP hS (lv_sub hl [3, 4, 5, 6, 7, 0] rfl)
            · replace hM := (if_neg c11).symm.trans hM
              refine lv_iinc (v := v4 + (-2)) (lv' := [(4, .int (v4 + (-2))), (8, .int x7), (7, .int x5), (0, .ref (xad G h0)), (2, .int v2), (3, .int v3), (5, .int v5), (6, .int v6)]) hx hb dX9_work_204 hl (k := 5) rfl (by first | rfl | exact congrArg (fun z => v4 + z) (by decide)) (by decide) rfl (fun ls hl => ?_)
              refine lv_aload_n hx hb dX9_work_207 rfl (lv_at hl 3 rfl) ?_
              obtain ⟨d46, ed46, hM⟩ := xb hM
              refine fdX9_24 X hP hk0 qw287 dX9_work_208 ed46 ?_
              refine lv_iload hx hb dX9_work_211 (lv_at hl 6 rfl) ?_
              refine lv_iload hx hb dX9_work_213 (lv_at hl 2 rfl) ?_
              refine lv_aload_n hx hb dX9_work_215 rfl (lv_at hl 3 rfl) ?_
              obtain ⟨d47, ed47, hM⟩ := xb hM
              refine fdX9_23 X hP hk0 qw288 dX9_work_216 ed47 ?_
              refine lv_iload hx hb dX9_work_219 (lv_at hl 0 rfl) ?_
              obtain ⟨x48, ex48, hM⟩ := xb hM
              refine x_lald X hP (dO_k ed47) ex48 dX9_work_221 ?_
              refine lv_aload_n hx hb dX9_work_222 rfl (lv_at hl 3 rfl) ?_
              obtain ⟨d49, ed49, hM⟩ := xb hM
              refine fdX9_23 X hP hk0 qw288 dX9_work_223 ed49 ?_
              refine lv_iload hx hb dX9_work_226 (lv_at hl 0 rfl) ?_
              refine lv_iconst (v := 1) hx hb dX9_work_228 (by decide) ?_
              refine lv_iadd hx hb dX9_work_229 ?_
              obtain ⟨x50, ex50, hM⟩ := xb hM
              refine x_lald X hP (dO_k ed49) ex50 dX9_work_230 ?_
              obtain ⟨q51, eq51, hM⟩ := xb hM
              refine x_goi (x_runS (rest := [.int v5, .ref (xad G d46)]) X (kX9_isAsked l G S x5 x48 x50 q51.1 q51.2  eq51) qw289 okX9_isAsked ⟨Nat.le_of_ble_eq_true rfl, Nat.le_of_ble_eq_true rfl⟩ hP hS rfl hl.1 rfl (Nat.le_of_ble_eq_true rfl) dX9_work_231) hS (fun H locs hP hS => ?_)
              obtain ⟨z52, ez52, hM⟩ := xb hM
              obtain ⟨S53, eS53, hM⟩ := xb hM
              refine x_zast X hP hS (dO_k ed46) (zk_v ez52).2 eS53 dX9_work_234 (fun H locs hP hS => ?_)
              refine lv_iinc (v := v5 + 1) (lv' := [(5, .int (v5 + 1)), (4, .int (v4 + (-2))), (8, .int x7), (7, .int x5), (0, .ref (xad G h0)), (2, .int v2), (3, .int v3), (6, .int v6)]) hx hb dX9_work_235 hl (k := 6) rfl (by first | rfl | exact congrArg (fun z => v5 + z) (by decide)) (by decide) rfl (fun ls hl => ?_)
              refine lv_goto (tgt := 407) hx hb dX9_work_238 (by decide) ?_
              refine lv_iinc (v := v6 + 1) (lv' := [(6, .int (v6 + 1)), (5, .int (v5 + 1)), (4, .int (v4 + (-2))), (8, .int x7), (7, .int x5), (0, .ref (xad G h0)), (2, .int v2), (3, .int v3)]) hx hb dX9_work_407 hl (k := 7) rfl (by first | rfl | exact congrArg (fun z => v6 + z) (by decide)) (by decide) rfl (fun ls hl => ?_)
              refine lv_goto (tgt := 47) hx hb dX9_work_410 (by decide) ?_
              exact ih S53 h0 v2 v3 (v4 + (-2)) (v5 + 1) (v6 + 1) _ _ _ hM hk0 hP hS (lv_sub hl [5, 6, 7, 2, 1, 0] rfl)
          · replace hM := (if_neg c10).symm.trans hM
            refine lv_iinc (v := v4 + (-1)) (lv' := [(4, .int (v4 + (-1))), (8, .int x7), (7, .int x5), (0, .ref (xad G h0)), (2, .int v2), (3, .int v3), (5, .int v5), (6, .int v6)]) hx hb dX9_work_161 hl (k := 5) rfl (by first | rfl | exact congrArg (fun z => v4 + z) (by decide)) (by decide) rfl (fun ls hl => ?_)
            refine lv_aload_n hx hb dX9_work_164 rfl (lv_at hl 3 rfl) ?_
            obtain ⟨d54, ed54, hM⟩ := xb hM
            refine fdX9_23 X hP hk0 qw288 dX9_work_165 ed54 ?_
            refine lv_iload hx hb dX9_work_168 (lv_at hl 0 rfl) ?_
            refine lv_iconst (v := 1) hx hb dX9_work_170 (by decide) ?_
            refine lv_isub hx hb dX9_work_171 ?_
            refine lv_iload hx hb dX9_work_172 (lv_at hl 2 rfl) ?_
            refine lv_aload_n hx hb dX9_work_174 rfl (lv_at hl 3 rfl) ?_
            obtain ⟨d55, ed55, hM⟩ := xb hM
            refine fdX9_23 X hP hk0 qw288 dX9_work_175 ed55 ?_
            refine lv_iload hx hb dX9_work_178 (lv_at hl 0 rfl) ?_
            refine lv_iconst (v := 1) hx hb dX9_work_180 (by decide) ?_
            refine lv_isub hx hb dX9_work_181 ?_
            obtain ⟨x56, ex56, hM⟩ := xb hM
            refine x_lald X hP (dO_k ed55) ex56 dX9_work_182 ?_
            refine lv_aload_n hx hb dX9_work_183 rfl (lv_at hl 3 rfl) ?_
            obtain ⟨d57, ed57, hM⟩ := xb hM
            refine fdX9_23 X hP hk0 qw288 dX9_work_184 ed57 ?_
            refine lv_iload hx hb dX9_work_187 (lv_at hl 0 rfl) ?_
            obtain ⟨x58, ex58, hM⟩ := xb hM
            refine x_lald X hP (dO_k ed57) ex58 dX9_work_189 ?_
            obtain ⟨q59, eq59, hM⟩ := xb hM
            refine x_gol (x_runS (rest := [.int ((v4 + (-1)) - 1), .ref (xad G d54)]) X (kX9_two l G S x5 x56 x58 q59.1 q59.2  eq59) qw290 okX9_two ⟨Nat.le_of_ble_eq_true rfl, Nat.le_of_ble_eq_true rfl⟩ hP hS rfl hl.1 rfl (Nat.le_of_ble_eq_true rfl) dX9_work_190) hS (fun H locs hP hS => ?_)
            obtain ⟨S60, eS60, hM⟩ := xb hM
            refine x_last X hP hS (dO_k ed54) eS60 dX9_work_193 (fun H locs hP hS => ?_)
            refine lv_goto (tgt := 407) hx hb dX9_work_194 (by decide) ?_
            refine lv_iinc (v := v6 + 1) (lv' := [(6, .int (v6 + 1)), (4, .int (v4 + (-1))), (8, .int x7), (7, .int x5), (0, .ref (xad G h0)), (2, .int v2), (3, .int v3), (5, .int v5)]) hx hb dX9_work_407 hl (k := 7) rfl (by first | rfl | exact congrArg (fun z => v6 + z) (by decide)) (by decide) rfl (fun ls hl => ?_)
            refine lv_goto (tgt := 47) hx hb dX9_work_410 (by decide) ?_
            exact ih S60 h0 v2 v3 (v4 + (-1)) v5 (v6 + 1) _ _ _ hM hk0 hP hS (lv_sub hl [4, 5, 6, 1, 7, 0] rfl)
        · replace hM := (if_pos c9).symm.trans hM
          refine lv_aload_n hx hb dX9_work_132 rfl (lv_at hl 2 rfl) ?_
          obtain ⟨d61, ed61, hM⟩ := xb hM
          refine fdX9_23 X hP hk0 qw288 dX9_work_133 ed61 ?_
          refine lv_iload hx hb dX9_work_136 (lv_at hl 5 rfl) ?_
          refine lv_iconst (v := 1) hx hb dX9_work_138 (by decide) ?_
          refine lv_isub hx hb dX9_work_139 ?_
          refine lv_aload_n hx hb dX9_work_140 rfl (lv_at hl 2 rfl) ?_
          obtain ⟨d62, ed62, hM⟩ := xb hM
          refine fdX9_23 X hP hk0 qw288 dX9_work_141 ed62 ?_
          refine lv_iload hx hb dX9_work_144 (lv_at hl 5 rfl) ?_
          refine lv_iconst (v := 1) hx hb dX9_work_146 (by decide) ?_
          refine lv_isub hx hb dX9_work_147 ?_
          obtain ⟨x63, ex63, hM⟩ := xb hM
          refine x_lald X hP (dO_k ed62) ex63 dX9_work_148 ?_
          refine lv_lneg hx hb dX9_work_149 ?_
          obtain ⟨S64, eS64, hM⟩ := xb hM
          refine x_last X hP hS (dO_k ed61) eS64 dX9_work_150 (fun H locs hP hS => ?_)
          refine lv_goto (tgt := 407) hx hb dX9_work_151 (by decide) ?_
          refine lv_iinc (v := v6 + 1) (lv' := [(6, .int (v6 + 1)), (8, .int x7), (7, .int x5), (0, .ref (xad G h0)), (2, .int v2), (3, .int v3), (4, .int v4), (5, .int v5)]) hx hb dX9_work_407 hl (k := 7) rfl (by first | rfl | exact congrArg (fun z => v6 + z) (by decide)) (by decide) rfl (fun ls hl => ?_)
          refine lv_goto (tgt := 47) hx hb dX9_work_410 (by decide) ?_
          exact ih S64 h0 v2 v3 v4 v5 (v6 + 1) _ _ _ hM hk0 hP hS (lv_sub hl [3, 4, 5, 6, 7, 0] rfl)
      · replace hM := (if_neg c8).symm.trans hM
        refine lv_aload_n hx hb dX9_work_94 rfl (lv_at hl 2 rfl) ?_
        obtain ⟨d65, ed65, hM⟩ := xb hM
        refine fdX9_23 X hP hk0 qw288 dX9_work_95 ed65 ?_
        refine lv_iload hx hb dX9_work_98 (lv_at hl 5 rfl) ?_
        refine lv_iload hx hb dX9_work_100 (lv_at hl 1 rfl) ?_
        refine lv_if_ne (tgt := 111) hx hb dX9_work_102 (by decide) (fun c66 => ?_) (fun c66 => ?_)
        · replace hM := (if_neg c66).symm.trans hM
          refine lv_aload_n hx hb dX9_work_111 rfl (lv_at hl 2 rfl) ?_
          obtain ⟨d67, ed67, hM⟩ := xb hM
          refine fdX9_22 X hP hk0 qw291 dX9_work_112 ed67 ?_
          refine lv_iload hx hb dX9_work_115 (lv_at hl 0 rfl) ?_
          obtain ⟨x68, ex68, hM⟩ := xb hM
          refine x_iald X hP (dO_k ed67) ex68 dX9_work_117 ?_
          refine lv_i2l hx hb dX9_work_118 rfl ?_
          exact wX9_work_119 X (lX9_work_47  n) ih S h0 v2 v3 v4 v5 v6 ((x68 : Int32).toInt64) v4 d65 _ _ _ hM hk0 (dO_k ed65) hP hS (lv_sub hl [2, 3, 4, 5, 6, 7] rfl)
        · replace hM := (if_pos c66).symm.trans hM
          refine lv_iload hx hb dX9_work_105 (lv_at hl 0 rfl) ?_
          refine lv_i2l hx hb dX9_work_107 rfl ?_
          refine lv_goto (tgt := 119) hx hb dX9_work_108 (by decide) ?_
          exact wX9_work_119 X (lX9_work_47  n) ih S h0 v2 v3 v4 v5 v6 ((x7 : Int32).toInt64) v4 d65 _ _ _ hM hk0 (dO_k ed65) hP hS (lv_sub hl [2, 3, 4, 5, 6, 7] rfl)
def mX9_work (S : xS) (h0 : Nat) (p1 : Int32) : Option xS := (dO Ym (gR S h0 0) 10).bind fun d1 => (aI Ym S d1 5).bind fun x2 => (dO Ym (gR S h0 0) 10).bind fun d3 => (aI Ym S d3 5).bind fun x4 => (dO Ym (gR S h0 2) 10).bind fun d5 => (aI Ym S d5 ((((680 * x2) + 1) + (3 * p1)) + 1)).bind fun x6 => lX9_work_47  5000 S h0 (((680 * x2) + 1) + (3 * p1)) ((680 * x4) + 75) 0 0 x6
set_option maxHeartbeats 4000000 in
set_option maxRecDepth 100000 in
theorem kX9_work (l : Launch) (G : xG) (S : xS) (h0 : Nat) (p1 : Int32) (S' : xS) (hk0 : xk Ym h0 = 9) (hM : mX9_work S h0 p1 = some S') : xM l yX9_work cX9_work 9 none 2 45 G Ym [.ref (xad G h0), .int p1] S (xQv G Ym S') := by
  refine x_start (own := RX9) (by decide +kernel) rfl (Nat.le_of_ble_eq_true rfl) ?_
  intro p e s m below meth c ls X hl hP hS
  obtain ⟨hx, hb, hml, hown, hts, hr, hlk, hK, hE, hJ⟩ := id X
  have hl : lv_has ls 9 [(0, .ref (xad G h0)), (1, .int p1)] := hl
  unfold mX9_work at hM
  refine lv_sipush (v := 680) hx hb dX9_work_0 (by decide) ?_
  refine lv_aload_n hx hb dX9_work_3 rfl (lv_at hl 0 rfl) ?_
  obtain ⟨d1, ed1, hM⟩ := xb hM
  refine fdX9_0 X hP hk0 qw227 dX9_work_4 ed1 ?_
  refine lv_iconst (v := 5) hx hb dX9_work_7 (by decide) ?_
  obtain ⟨x2, ex2, hM⟩ := xb hM
  refine x_iald X hP (dO_k ed1) ex2 dX9_work_8 ?_
  refine lv_imul hx hb dX9_work_9 ?_
  refine lv_iconst (v := 1) hx hb dX9_work_10 (by decide) ?_
  refine lv_iadd hx hb dX9_work_11 ?_
  refine lv_iconst (v := 3) hx hb dX9_work_12 (by decide) ?_
  refine lv_iload_n hx hb dX9_work_13 rfl (lv_at hl 1 rfl) ?_
  refine lv_imul hx hb dX9_work_14 ?_
  refine lv_iadd hx hb dX9_work_15 ?_
  refine lv_istore_n (lv' := [(2, .int (((680 * x2) + 1) + (3 * p1))), (0, .ref (xad G h0)), (1, .int p1)]) hx hb dX9_work_16 rfl hl (by decide) rfl (fun ls hl => ?_)
  refine lv_sipush (v := 680) hx hb dX9_work_17 (by decide) ?_
  refine lv_aload_n hx hb dX9_work_20 rfl (lv_at hl 1 rfl) ?_
  obtain ⟨d3, ed3, hM⟩ := xb hM
  refine fdX9_0 X hP hk0 qw227 dX9_work_21 ed3 ?_
  refine lv_iconst (v := 5) hx hb dX9_work_24 (by decide) ?_
  obtain ⟨x4, ex4, hM⟩ := xb hM
  refine x_iald X hP (dO_k ed3) ex4 dX9_work_25 ?_
  refine lv_imul hx hb dX9_work_26 ?_
  refine lv_bipush (v := 75) hx hb dX9_work_27 (by decide) ?_
  refine lv_iadd hx hb dX9_work_29 ?_
  refine lv_istore_n (lv' := [(3, .int ((680 * x4) + 75)), (2, .int (((680 * x2) + 1) + (3 * p1))), (0, .ref (xad G h0)), (1, .int p1)]) hx hb dX9_work_30 rfl hl (by decide) rfl (fun ls hl => ?_)
  refine lv_iconst (v := 0) hx hb dX9_work_31 (by decide) ?_
  refine lv_istore (lv' := [(4, .int 0), (3, .int ((680 * x4) + 75)), (2, .int (((680 * x2) + 1) + (3 * p1))), (0, .ref (xad G h0)), (1, .int p1)]) hx hb dX9_work_32 hl (by decide) rfl (fun ls hl => ?_)
  refine lv_iconst (v := 0) hx hb dX9_work_34 (by decide) ?_
  refine lv_istore (lv' := [(5, .int 0), (4, .int 0), (3, .int ((680 * x4) + 75)), (2, .int (((680 * x2) + 1) + (3 * p1))), (0, .ref (xad G h0)), (1, .int p1)]) hx hb dX9_work_35 hl (by decide) rfl (fun ls hl => ?_)
  refine lv_aload_n hx hb dX9_work_37 rfl (lv_at hl 4 rfl) ?_
  obtain ⟨d5, ed5, hM⟩ := xb hM
  refine fdX9_2 X hP hk0 qw243 dX9_work_38 ed5 ?_
  refine lv_iload_n hx hb dX9_work_41 rfl (lv_at hl 3 rfl) ?_
  refine lv_iconst (v := 1) hx hb dX9_work_42 (by decide) ?_
  refine lv_iadd hx hb dX9_work_43 ?_
  obtain ⟨x6, ex6, hM⟩ := xb hM
  refine x_iald X hP (dO_k ed5) ex6 dX9_work_44 ?_
  refine lv_istore (lv' := [(6, .int x6), (5, .int 0), (4, .int 0), (3, .int ((680 * x4) + 75)), (2, .int (((680 * x2) + 1) + (3 * p1))), (0, .ref (xad G h0)), (1, .int p1)]) hx hb dX9_work_45 hl (by decide) rfl (fun ls hl => ?_)
  exact wX9_work_47 X  5000 S h0 (((680 * x2) + 1) + (3 * p1)) ((680 * x4) + 75) 0 0 x6 _ _ _ hM hk0 hP hS (lv_sub hl [5, 4, 3, 2, 1, 0] rfl)

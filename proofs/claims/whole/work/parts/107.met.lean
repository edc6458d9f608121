def lX9_four_3 : Nat → xS → Nat → Int32 → Int32 → Option xS
  | 0, _, _, _, _ => none
  | n + 1, S, h0, v1, v2 => if (v2 < 0 : Prop) then (some S) else ((dO Ym (gR S h0 3) 10).bind fun d2 => (sI Ym S d2 (gI S h0 4) ((v1 >>> (v2 &&& 31)) &&& 255)).bind fun S3 => xlet (pI S3 h0 4 ((gI S3 h0 4) + 1)) fun S4 => lX9_four_3 n S4 h0 v1 (v2 + (-8)))
set_option maxHeartbeats 4000000 in
set_option maxRecDepth 100000 in
theorem wX9_four_3 {p : Program} {l : Launch} {e : Env} {s : State} {m : MethodId} {args : Array Value} {below : List Frame} {meth : Method} {c : Code} {G : xG} {S' : xS} (X : xX p s m args meth c cX9_four 3 none RX9 G Ym) : ∀ (n : Nat), ∀ (S : xS) (h0 : Nat) (v1 : Int32) (v2 : Int32) (H : Heap) (locs : List Loc) (ls : Array Slot), lX9_four_3  n S h0 v1 v2 = some S' → xk Ym h0 = 9 → xP G Ym S H → va_S (xA G Ym) s.heap H locs → lv_has ls 3 [(0, .ref (xad G h0)), (1, .int v1), (2, .int v2)] → W p l e (xr 0 0) s m args below meth c H locs 0 0 (MQ below (xQv G Ym S') args s 0 0 (xA G Ym)) (F0 m 3 ls []) := by
  obtain ⟨hx, hb, hml, hown, hts, hr, hlk, hK, hE, hJ⟩ := id X
  intro n
  induction n with
  | zero =>
    intro S h0 v1 v2 H locs ls hM
    rw [lX9_four_3.eq_1] at hM
    cases hM
  | succ n ih =>
    intro S h0 v1 v2 H locs ls hM hk0 hP hS hl
    rw [lX9_four_3.eq_2] at hM
    refine lv_iload_n hx hb dX9_four_3 rfl (lv_at hl 2 rfl) ?_
    refine lv_if_lt (tgt := 39) hx hb dX9_four_4 (by decide) (fun c1 => ?_) (fun c1 => ?_)
    · replace hM := (if_pos c1).symm.trans hM
      exact x_vret X hP hS hM dX9_four_39
    · replace hM := (if_neg c1).symm.trans hM
      refine lv_aload_n hx hb dX9_four_7 rfl (lv_at hl 0 rfl) ?_
      obtain ⟨d2, ed2, hM⟩ := xb hM
      refine fdX9_3 X hP hk0 qw229 dX9_four_8 ed2 ?_
      refine lv_aload_n hx hb dX9_four_11 rfl (lv_at hl 0 rfl) ?_
      refine fgX9_4 X hP hk0 qw230 dX9_four_12 ?_
      refine lv_iload_n hx hb dX9_four_15 rfl (lv_at hl 1 rfl) ?_
      refine lv_iload_n hx hb dX9_four_16 rfl (lv_at hl 2 rfl) ?_
      refine lv_ishr hx hb dX9_four_17 ?_
      refine lv_sipush (v := 255) hx hb dX9_four_18 (by decide) ?_
      refine lv_iand hx hb dX9_four_21 ?_
      obtain ⟨S3, eS3, hM⟩ := xb hM
      refine x_iast X hP hS (dO_k ed2) eS3 dX9_four_22 (fun H locs hP hS => ?_)
      refine lv_aload_n hx hb dX9_four_23 rfl (lv_at hl 0 rfl) ?_
      refine lv_dup hx hb dX9_four_24 rfl ?_
      refine fgX9_4 X hP hk0 qw230 dX9_four_25 ?_
      refine lv_iconst (v := 1) hx hb dX9_four_28 (by decide) ?_
      refine lv_iadd hx hb dX9_four_29 ?_
      obtain ⟨S4, eS4, hM⟩ := xlet_ex hM
      refine fpX9_4 X hP hS hk0 qw230 dX9_four_30 eS4 (fun H locs hP hS => ?_)
      refine lv_iinc (v := v2 + (-8)) (lv' := [(2, .int (v2 + (-8))), (0, .ref (xad G h0)), (1, .int v1)]) hx hb dX9_four_33 hl (k := 2) rfl (by first | rfl | exact congrArg (fun z => v2 + z) (by decide)) (by decide) rfl (fun ls hl => ?_)
      refine lv_goto (tgt := 3) hx hb dX9_four_36 (by decide) ?_
      exact ih S4 h0 v1 (v2 + (-8)) _ _ _ hM hk0 hP hS (lv_sub hl [1, 2, 0] rfl)
def mX9_four (S : xS) (h0 : Nat) (p1 : Int32) : Option xS := lX9_four_3  5000 S h0 p1 24
set_option maxHeartbeats 4000000 in
set_option maxRecDepth 100000 in
theorem kX9_four (l : Launch) (G : xG) (S : xS) (h0 : Nat) (p1 : Int32) (S' : xS) (hk0 : xk Ym h0 = 9) (hM : mX9_four S h0 p1 = some S') : xM l yX9_four cX9_four 3 none 0 0 G Ym [.ref (xad G h0), .int p1] S (xQv G Ym S') := by
  refine x_start (own := RX9) (by decide +kernel) rfl (Nat.le_of_ble_eq_true rfl) ?_
  intro p e s m below meth c ls X hl hP hS
  obtain ⟨hx, hb, hml, hown, hts, hr, hlk, hK, hE, hJ⟩ := id X
  have hl : lv_has ls 3 [(0, .ref (xad G h0)), (1, .int p1)] := hl
  unfold mX9_four at hM
  refine lv_bipush (v := 24) hx hb dX9_four_0 (by decide) ?_
  refine lv_istore_n (lv' := [(2, .int 24), (0, .ref (xad G h0)), (1, .int p1)]) hx hb dX9_four_2 rfl hl (by decide) rfl (fun ls hl => ?_)
  exact wX9_four_3 X  5000 S h0 p1 24 _ _ _ hM hk0 hP hS (lv_sub hl [1, 2, 0] rfl)

def mX9_feed (S : xS) (h0 : Nat) (p1 : Int32) (p2 : Int32) (p3 : Int32) (p4 : Int32) (p5 : Int32) : Option (Int32 × xS) := if (((gI S h0 4) + 20) ≤ 300 : Prop) then ((mX9_four S h0 p1).bind fun S2 => (mX9_four S2 h0 p2).bind fun S3 => (mX9_four S3 h0 p3).bind fun S4 => (mX9_four S4 h0 p4).bind fun S5 => (mX9_four S5 h0 p5).bind fun S6 => some (gI S6 h0 4, S6)) else (some ((-1), S))
set_option maxHeartbeats 4000000 in
set_option maxRecDepth 100000 in
theorem kX9_feed (l : Launch) (G : xG) (S : xS) (h0 : Nat) (p1 : Int32) (p2 : Int32) (p3 : Int32) (p4 : Int32) (p5 : Int32) (r : Int32) (S' : xS) (hk0 : xk Ym h0 = 9) (hM : mX9_feed S h0 p1 p2 p3 p4 p5 = some (r, S')) : xM l yX9_feed cX9_feed 6 (some .int) 1 22 G Ym [.ref (xad G h0), .int p1, .int p2, .int p3, .int p4, .int p5] S (xQi G Ym r S') := by
  refine x_start (own := RX9) (by decide +kernel) rfl (Nat.le_of_ble_eq_true rfl) ?_
  intro p e s m below meth c ls X hl hP hS
  obtain ⟨hx, hb, hml, hown, hts, hr, hlk, hK, hE, hJ⟩ := id X
  have hl : lv_has ls 6 [(0, .ref (xad G h0)), (1, .int p1), (2, .int p2), (3, .int p3), (4, .int p4), (5, .int p5)] := hl
  unfold mX9_feed at hM
  refine lv_aload_n hx hb dX9_feed_0 rfl (lv_at hl 0 rfl) ?_
  refine fgX9_4 X hP hk0 qw230 dX9_feed_1 ?_
  refine lv_bipush (v := 20) hx hb dX9_feed_4 (by decide) ?_
  refine lv_iadd hx hb dX9_feed_6 ?_
  refine lv_sipush (v := 300) hx hb dX9_feed_7 (by decide) ?_
  refine lv_icmp_le (tgt := 15) hx hb dX9_feed_10 (by decide) (fun c1 => ?_) (fun c1 => ?_)
  · replace hM := (if_pos c1).symm.trans hM
    refine lv_aload_n hx hb dX9_feed_15 rfl (lv_at hl 0 rfl) ?_
    refine lv_iload_n hx hb dX9_feed_16 rfl (lv_at hl 1 rfl) ?_
    obtain ⟨S2, eS2, hM⟩ := xb hM
    refine x_gov (x_runV (rest := []) X (kX9_four l G S h0 p1 S2 hk0 eS2) qw231 okX9_four ⟨Nat.le_of_ble_eq_true rfl, Nat.le_of_ble_eq_true rfl⟩ hk0 (by decide) rfl hP hS rfl hl.1 rfl (Nat.le_of_ble_eq_true rfl) dX9_feed_17) hS (fun H locs hP hS => ?_)
    refine lv_aload_n hx hb dX9_feed_20 rfl (lv_at hl 0 rfl) ?_
    refine lv_iload_n hx hb dX9_feed_21 rfl (lv_at hl 2 rfl) ?_
    obtain ⟨S3, eS3, hM⟩ := xb hM
    refine x_gov (x_runV (rest := []) X (kX9_four l G S2 h0 p2 S3 hk0 eS3) qw231 okX9_four ⟨Nat.le_of_ble_eq_true rfl, Nat.le_of_ble_eq_true rfl⟩ hk0 (by decide) rfl hP hS rfl hl.1 rfl (Nat.le_of_ble_eq_true rfl) dX9_feed_22) hS (fun H locs hP hS => ?_)
    refine lv_aload_n hx hb dX9_feed_25 rfl (lv_at hl 0 rfl) ?_
    refine lv_iload_n hx hb dX9_feed_26 rfl (lv_at hl 3 rfl) ?_
    obtain ⟨S4, eS4, hM⟩ := xb hM
    refine x_gov (x_runV (rest := []) X (kX9_four l G S3 h0 p3 S4 hk0 eS4) qw231 okX9_four ⟨Nat.le_of_ble_eq_true rfl, Nat.le_of_ble_eq_true rfl⟩ hk0 (by decide) rfl hP hS rfl hl.1 rfl (Nat.le_of_ble_eq_true rfl) dX9_feed_27) hS (fun H locs hP hS => ?_)
    refine lv_aload_n hx hb dX9_feed_30 rfl (lv_at hl 0 rfl) ?_
    refine lv_iload hx hb dX9_feed_31 (lv_at hl 4 rfl) ?_
    obtain ⟨S5, eS5, hM⟩ := xb hM
    refine x_gov (x_runV (rest := []) X (kX9_four l G S4 h0 p4 S5 hk0 eS5) qw231 okX9_four ⟨Nat.le_of_ble_eq_true rfl, Nat.le_of_ble_eq_true rfl⟩ hk0 (by decide) rfl hP hS rfl hl.1 rfl (Nat.le_of_ble_eq_true rfl) dX9_feed_33) hS (fun H locs hP hS => ?_)
    refine lv_aload_n hx hb dX9_feed_36 rfl (lv_at hl 0 rfl) ?_
    refine lv_iload hx hb dX9_feed_37 (lv_at hl 5 rfl) ?_
    obtain ⟨S6, eS6, hM⟩ := xb hM
    refine x_gov (x_runV (rest := []) X (kX9_four l G S5 h0 p5 S6 hk0 eS6) qw231 okX9_four ⟨Nat.le_of_ble_eq_true rfl, Nat.le_of_ble_eq_true rfl⟩ hk0 (by decide) rfl hP hS rfl hl.1 rfl (Nat.le_of_ble_eq_true rfl) dX9_feed_39) hS (fun H locs hP hS => ?_)
    refine lv_aload_n hx hb dX9_feed_42 rfl (lv_at hl 0 rfl) ?_
    refine fgX9_4 X hP hk0 qw230 dX9_feed_43 ?_
    exact x_iret X hP hS hM dX9_feed_46
  · replace hM := (if_neg c1).symm.trans hM
    refine lv_iconst (v := (-1)) hx hb dX9_feed_13 (by decide) ?_
    exact x_iret X hP hS hM dX9_feed_14

def mX9_end (S : xS) (h0 : Nat) (p1 : Int32) : Option (Int32 × xS) := (mX9_isIn S p1 0 (gI S h0 4)).bind fun q1 => if (q1.1 = 0 : Prop) then (some ((-1), q1.2)) else (xlet (pI q1.2 h0 4 p1) fun S3 => some (p1, S3))
set_option maxHeartbeats 4000000 in
set_option maxRecDepth 100000 in
theorem kX9_end (l : Launch) (G : xG) (S : xS) (h0 : Nat) (p1 : Int32) (r : Int32) (S' : xS) (hk0 : xk Ym h0 = 9) (hM : mX9_end S h0 p1 = some (r, S')) : xM l yX9_end cX9_end 2 (some .int) 1 22 G Ym [.ref (xad G h0), .int p1] S (xQi G Ym r S') := by
  refine x_start (own := RX9) (by decide +kernel) rfl (Nat.le_of_ble_eq_true rfl) ?_
  intro p e s m below meth c ls X hl hP hS
  obtain ⟨hx, hb, hml, hown, hts, hr, hlk, hK, hE, hJ⟩ := id X
  have hl : lv_has ls 2 [(0, .ref (xad G h0)), (1, .int p1)] := hl
  unfold mX9_end at hM
  refine lv_iload_n hx hb dX9_end_0 rfl (lv_at hl 1 rfl) ?_
  refine lv_iconst (v := 0) hx hb dX9_end_1 (by decide) ?_
  refine lv_aload_n hx hb dX9_end_2 rfl (lv_at hl 0 rfl) ?_
  refine fgX9_4 X hP hk0 qw230 dX9_end_3 ?_
  obtain ⟨q1, eq1, hM⟩ := xb hM
  refine x_goi (x_runS (rest := []) X (kX9_isIn l G S p1 0 (gI S h0 4) q1.1 q1.2  eq1) qw228 okX9_isIn ⟨Nat.le_of_ble_eq_true rfl, Nat.le_of_ble_eq_true rfl⟩ hP hS rfl hl.1 rfl (Nat.le_of_ble_eq_true rfl) dX9_end_6) hS (fun H locs hP hS => ?_)
  refine lv_if_ne (tgt := 14) hx hb dX9_end_9 (by decide) (fun c2 => ?_) (fun c2 => ?_)
  · replace hM := (if_neg c2).symm.trans hM
    refine lv_aload_n hx hb dX9_end_14 rfl (lv_at hl 0 rfl) ?_
    refine lv_iload_n hx hb dX9_end_15 rfl (lv_at hl 1 rfl) ?_
    obtain ⟨S3, eS3, hM⟩ := xlet_ex hM
    refine fpX9_4 X hP hS hk0 qw230 dX9_end_16 eS3 (fun H locs hP hS => ?_)
    refine lv_iload_n hx hb dX9_end_19 rfl (lv_at hl 1 rfl) ?_
    exact x_iret X hP hS hM dX9_end_20
  · replace hM := (if_pos c2).symm.trans hM
    refine lv_iconst (v := (-1)) hx hb dX9_end_12 (by decide) ?_
    exact x_iret X hP hS hM dX9_end_13

def mX9_byteAt (S : xS) (h0 : Nat) (p1 : Int32) : Option (Int32 × xS) := if ((gI S h0 4) ≤ p1 : Prop) then (some ((-1), S)) else ((dO Ym (gR S h0 3) 10).bind fun d2 => (aI Ym S d2 p1).bind fun x3 => some (x3, S))
set_option maxHeartbeats 4000000 in
set_option maxRecDepth 100000 in
theorem kX9_byteAt (l : Launch) (G : xG) (S : xS) (h0 : Nat) (p1 : Int32) (r : Int32) (S' : xS) (hk0 : xk Ym h0 = 9) (hM : mX9_byteAt S h0 p1 = some (r, S')) : xM l yX9_byteAt cX9_byteAt 2 (some .int) 0 0 G Ym [.ref (xad G h0), .int p1] S (xQi G Ym r S') := by
  refine x_start (own := RX9) (by decide +kernel) rfl (Nat.le_of_ble_eq_true rfl) ?_
  intro p e s m below meth c ls X hl hP hS
  obtain ⟨hx, hb, hml, hown, hts, hr, hlk, hK, hE, hJ⟩ := id X
  have hl : lv_has ls 2 [(0, .ref (xad G h0)), (1, .int p1)] := hl
  unfold mX9_byteAt at hM
  refine lv_iload_n hx hb dX9_byteAt_0 rfl (lv_at hl 1 rfl) ?_
  refine lv_aload_n hx hb dX9_byteAt_1 rfl (lv_at hl 0 rfl) ?_
  refine fgX9_4 X hP hk0 qw230 dX9_byteAt_2 ?_
  refine lv_icmp_ge (tgt := 17) hx hb dX9_byteAt_5 (by decide) (fun c1 => ?_) (fun c1 => ?_)
  · replace hM := (if_pos c1).symm.trans hM
    refine lv_iconst (v := (-1)) hx hb dX9_byteAt_17 (by decide) ?_
    exact x_iret X hP hS hM dX9_byteAt_18
  · replace hM := (if_neg c1).symm.trans hM
    refine lv_aload_n hx hb dX9_byteAt_8 rfl (lv_at hl 0 rfl) ?_
    obtain ⟨d2, ed2, hM⟩ := xb hM
    refine fdX9_3 X hP hk0 qw229 dX9_byteAt_9 ed2 ?_
    refine lv_iload_n hx hb dX9_byteAt_12 rfl (lv_at hl 1 rfl) ?_
    obtain ⟨x3, ex3, hM⟩ := xb hM
    refine x_iald X hP (dO_k ed2) ex3 dX9_byteAt_13 ?_
    refine lv_goto (tgt := 18) hx hb dX9_byteAt_14 (by decide) ?_
    exact x_iret X hP hS hM dX9_byteAt_18

def mX9_isLetter (S : xS) (p0 : Int32) : Option (Int32 × xS) := (mX9_isIn S p0 97 122).bind fun q1 => if (q1.1 = 0 : Prop) then ((mX9_isIn q1.2 p0 65 90).bind fun q3 => if (q3.1 = 0 : Prop) then (some (0, q3.2)) else (some (1, q3.2))) else (some (1, q1.2))
set_option maxHeartbeats 4000000 in
set_option maxRecDepth 100000 in
theorem kX9_isLetter (l : Launch) (G : xG) (S : xS) (p0 : Int32) (r : Int32) (S' : xS) (hM : mX9_isLetter S p0 = some (r, S')) : xM l yX9_isLetter cX9_isLetter 1 (some .boolean) 1 22 G Ym [.int p0] S (xQi G Ym r S') := by
  refine x_start (own := RX9) (by decide +kernel) rfl (Nat.le_of_ble_eq_true rfl) ?_
  intro p e s m below meth c ls X hl hP hS
  obtain ⟨hx, hb, hml, hown, hts, hr, hlk, hK, hE, hJ⟩ := id X
  have hl : lv_has ls 1 [(0, .int p0)] := hl
  unfold mX9_isLetter at hM
  refine lv_iload_n hx hb dX9_isLetter_0 rfl (lv_at hl 0 rfl) ?_
  refine lv_bipush (v := 97) hx hb dX9_isLetter_1 (by decide) ?_
  refine lv_bipush (v := 122) hx hb dX9_isLetter_3 (by decide) ?_
  obtain ⟨q1, eq1, hM⟩ := xb hM
  refine x_goi (x_runS (rest := []) X (kX9_isIn l G S p0 97 122 q1.1 q1.2  eq1) qw228 okX9_isIn ⟨Nat.le_of_ble_eq_true rfl, Nat.le_of_ble_eq_true rfl⟩ hP hS rfl hl.1 rfl (Nat.le_of_ble_eq_true rfl) dX9_isLetter_5) hS (fun H locs hP hS => ?_)
  refine lv_if_ne (tgt := 22) hx hb dX9_isLetter_8 (by decide) (fun c2 => ?_) (fun c2 => ?_)
  · replace hM := (if_neg c2).symm.trans hM
    refine lv_iconst (v := 1) hx hb dX9_isLetter_22 (by decide) ?_
    refine lv_goto (tgt := 27) hx hb dX9_isLetter_23 (by decide) ?_
    exact x_zret X hP hS (Or.inr rfl) hM dX9_isLetter_27
  · replace hM := (if_pos c2).symm.trans hM
    refine lv_iload_n hx hb dX9_isLetter_11 rfl (lv_at hl 0 rfl) ?_
    refine lv_bipush (v := 65) hx hb dX9_isLetter_12 (by decide) ?_
    refine lv_bipush (v := 90) hx hb dX9_isLetter_14 (by decide) ?_
    obtain ⟨q3, eq3, hM⟩ := xb hM
    refine x_goi (x_runS (rest := []) X (kX9_isIn l G q1.2 p0 65 90 q3.1 q3.2  eq3) qw228 okX9_isIn ⟨Nat.le_of_ble_eq_true rfl, Nat.le_of_ble_eq_true rfl⟩ hP hS rfl hl.1 rfl (Nat.le_of_ble_eq_true rfl) dX9_isLetter_16) hS (fun H locs hP hS => ?_)
    refine lv_if_eq (tgt := 26) hx hb dX9_isLetter_19 (by decide) (fun c4 => ?_) (fun c4 => ?_)
    · replace hM := (if_pos c4).symm.trans hM
      refine lv_iconst (v := 0) hx hb dX9_isLetter_26 (by decide) ?_
      exact x_zret X hP hS (Or.inl rfl) hM dX9_isLetter_27
    · replace hM := (if_neg c4).symm.trans hM
      refine lv_iconst (v := 1) hx hb dX9_isLetter_22 (by decide) ?_
      refine lv_goto (tgt := 27) hx hb dX9_isLetter_23 (by decide) ?_
      exact x_zret X hP hS (Or.inr rfl) hM dX9_isLetter_27

def mX9_isDigit (S : xS) (p0 : Int32) : Option (Int32 × xS) := (mX9_isIn S p0 48 57).bind fun q1 => (zk q1.1).bind fun z2 => some (q1.1, q1.2)
set_option maxHeartbeats 4000000 in
set_option maxRecDepth 100000 in
theorem kX9_isDigit (l : Launch) (G : xG) (S : xS) (p0 : Int32) (r : Int32) (S' : xS) (hM : mX9_isDigit S p0 = some (r, S')) : xM l yX9_isDigit cX9_isDigit 1 (some .boolean) 1 22 G Ym [.int p0] S (xQi G Ym r S') := by
  refine x_start (own := RX9) (by decide +kernel) rfl (Nat.le_of_ble_eq_true rfl) ?_
  intro p e s m below meth c ls X hl hP hS
  obtain ⟨hx, hb, hml, hown, hts, hr, hlk, hK, hE, hJ⟩ := id X
  have hl : lv_has ls 1 [(0, .int p0)] := hl
  unfold mX9_isDigit at hM
  refine lv_iload_n hx hb dX9_isDigit_0 rfl (lv_at hl 0 rfl) ?_
  refine lv_bipush (v := 48) hx hb dX9_isDigit_1 (by decide) ?_
  refine lv_bipush (v := 57) hx hb dX9_isDigit_3 (by decide) ?_
  obtain ⟨q1, eq1, hM⟩ := xb hM
  refine x_goi (x_runS (rest := []) X (kX9_isIn l G S p0 48 57 q1.1 q1.2  eq1) qw228 okX9_isIn ⟨Nat.le_of_ble_eq_true rfl, Nat.le_of_ble_eq_true rfl⟩ hP hS rfl hl.1 rfl (Nat.le_of_ble_eq_true rfl) dX9_isDigit_5) hS (fun H locs hP hS => ?_)
  obtain ⟨z2, ez2, hM⟩ := xb hM
  exact x_zret X hP hS (zk_v ez2).2 hM dX9_isDigit_8

def jX9_nextToken_370 (S : xS) (h0 : Nat) (v1 : Int32) : Option xS := (mX9_byteAt S h0 (gI S h0 7)).bind fun q1 => if (q1.1 = 61 : Prop) then (xlet (pI q1.2 h0 7 ((gI q1.2 h0 7) + 1)) fun S3 => if (v1 = 60 : Prop) then (xlet (pI S3 h0 9 4) fun S6 => some S6) else (xlet (pI S3 h0 9 5) fun S5 => some S5)) else (some q1.2)
set_option maxHeartbeats 4000000 in
set_option maxRecDepth 100000 in
theorem wX9_nextToken_370 {p : Program} {l : Launch} {e : Env} {s : State} {m : MethodId} {args : Array Value} {below : List Frame} {meth : Method} {c : Code} {G : xG} {S' : xS} (X : xX p s m args meth c cX9_nextToken 3 none RX9 G Ym) : ∀ (S : xS) (h0 : Nat) (v1 : Int32) (H : Heap) (locs : List Loc) (ls : Array Slot), jX9_nextToken_370  S h0 v1 = some S' → xk Ym h0 = 9 → xP G Ym S H → va_S (xA G Ym) s.heap H locs → lv_has ls 3 [(0, .ref (xad G h0)), (1, .int v1)] → W p l e (xr 2 42) s m args below meth c H locs 0 0 (MQ below (xQv G Ym S') args s 0 0 (xA G Ym)) (F0 m 370 ls []) := by
  obtain ⟨hx, hb, hml, hown, hts, hr, hlk, hK, hE, hJ⟩ := id X
  intro S h0 v1 H locs ls hM hk0 hP hS hl
  unfold jX9_nextToken_370 at hM
  refine lv_aload_n hx hb dX9_nextToken_370 rfl (lv_at hl 0 rfl) ?_
  refine lv_aload_n hx hb dX9_nextToken_371 rfl (lv_at hl 0 rfl) ?_
  refine fgX9_7 X hP hk0 qw232 dX9_nextToken_372 ?_
  obtain ⟨q1, eq1, hM⟩ := xb hM
  refine x_goi (x_runV (rest := []) X (kX9_byteAt l G S h0 (gI S h0 7) q1.1 q1.2 hk0 eq1) qw233 okX9_byteAt ⟨Nat.le_of_ble_eq_true rfl, Nat.le_of_ble_eq_true rfl⟩ hk0 (by decide) rfl hP hS rfl hl.1 rfl (Nat.le_of_ble_eq_true rfl) dX9_nextToken_375) hS (fun H locs hP hS => ?_)
  refine lv_bipush (v := 61) hx hb dX9_nextToken_378 (by decide) ?_
  refine lv_icmp_ne (tgt := 408) hx hb dX9_nextToken_380 (by decide) (fun c2 => ?_) (fun c2 => ?_)
  · replace hM := (if_neg c2).symm.trans hM
    exact x_vret X hP hS hM dX9_nextToken_408
  · replace hM := (if_pos c2).symm.trans hM
    refine lv_aload_n hx hb dX9_nextToken_383 rfl (lv_at hl 0 rfl) ?_
    refine lv_dup hx hb dX9_nextToken_384 rfl ?_
    refine fgX9_7 X hP hk0 qw232 dX9_nextToken_385 ?_
    refine lv_iconst (v := 1) hx hb dX9_nextToken_388 (by decide) ?_
    refine lv_iadd hx hb dX9_nextToken_389 ?_
    obtain ⟨S3, eS3, hM⟩ := xlet_ex hM
    refine fpX9_7 X hP hS hk0 qw232 dX9_nextToken_390 eS3 (fun H locs hP hS => ?_)
    refine lv_aload_n hx hb dX9_nextToken_393 rfl (lv_at hl 0 rfl) ?_
    refine lv_iload_n hx hb dX9_nextToken_394 rfl (lv_at hl 1 rfl) ?_
    refine lv_bipush (v := 60) hx hb dX9_nextToken_395 (by decide) ?_
    refine lv_icmp_ne (tgt := 404) hx hb dX9_nextToken_397 (by decide) (fun c4 => ?_) (fun c4 => ?_)
    · replace hM := (if_neg c4).symm.trans hM
      refine lv_iconst (v := 5) hx hb dX9_nextToken_404 (by decide) ?_
      obtain ⟨S5, eS5, hM⟩ := xlet_ex hM
      refine fpX9_9 X hP hS hk0 qw237 dX9_nextToken_405 eS5 (fun H locs hP hS => ?_)
      exact x_vret X hP hS hM dX9_nextToken_408
    · replace hM := (if_pos c4).symm.trans hM
      refine lv_iconst (v := 4) hx hb dX9_nextToken_400 (by decide) ?_
      refine lv_goto (tgt := 405) hx hb dX9_nextToken_401 (by decide) ?_
      obtain ⟨S6, eS6, hM⟩ := xlet_ex hM
      refine fpX9_9 X hP hS hk0 qw237 dX9_nextToken_405 eS6 (fun H locs hP hS => ?_)
      exact x_vret X hP hS hM dX9_nextToken_408
def jX9_nextToken_355 (S : xS) (h0 : Nat) (v1 : Int32) (t0 : Int32) (t1 : Nat) : Option xS := xlet (pI S t1 9 t0) fun S1 => if (v1 = 60 : Prop) then (jX9_nextToken_370  S1 h0 v1) else (if (v1 = 62 : Prop) then (jX9_nextToken_370  S1 h0 v1) else (some S1))
set_option maxHeartbeats 4000000 in
set_option maxRecDepth 100000 in
theorem wX9_nextToken_355 {p : Program} {l : Launch} {e : Env} {s : State} {m : MethodId} {args : Array Value} {below : List Frame} {meth : Method} {c : Code} {G : xG} {S' : xS} (X : xX p s m args meth c cX9_nextToken 3 none RX9 G Ym) : ∀ (S : xS) (h0 : Nat) (v1 : Int32) (t0 : Int32) (t1 : Nat) (H : Heap) (locs : List Loc) (ls : Array Slot), jX9_nextToken_355  S h0 v1 t0 t1 = some S' → xk Ym h0 = 9 → xk Ym t1 = 9 → xP G Ym S H → va_S (xA G Ym) s.heap H locs → lv_has ls 3 [(0, .ref (xad G h0)), (1, .int v1)] → W p l e (xr 2 42) s m args below meth c H locs 0 0 (MQ below (xQv G Ym S') args s 0 0 (xA G Ym)) (F0 m 355 ls [.int t0, .ref (xad G t1)]) := by
  obtain ⟨hx, hb, hml, hown, hts, hr, hlk, hK, hE, hJ⟩ := id X
  intro S h0 v1 t0 t1 H locs ls hM hk0 hkt1 hP hS hl
  unfold jX9_nextToken_355 at hM
  obtain ⟨S1, eS1, hM⟩ := xlet_ex hM
  refine fpX9_9 X hP hS hkt1 qw237 dX9_nextToken_355 eS1 (fun H locs hP hS => ?_)
  refine lv_iload_n hx hb dX9_nextToken_358 rfl (lv_at hl 1 rfl) ?_
  refine lv_bipush (v := 60) hx hb dX9_nextToken_359 (by decide) ?_
  refine lv_icmp_eq (tgt := 370) hx hb dX9_nextToken_361 (by decide) (fun c2 => ?_) (fun c2 => ?_)
  · replace hM := (if_pos c2).symm.trans hM
    exact wX9_nextToken_370 X  S1 h0 v1 _ _ _ hM hk0 hP hS (lv_sub hl [0, 1] rfl)
  · replace hM := (if_neg c2).symm.trans hM
    refine lv_iload_n hx hb dX9_nextToken_364 rfl (lv_at hl 1 rfl) ?_
    refine lv_bipush (v := 62) hx hb dX9_nextToken_365 (by decide) ?_
    refine lv_icmp_ne (tgt := 408) hx hb dX9_nextToken_367 (by decide) (fun c3 => ?_) (fun c3 => ?_)
    · replace hM := (if_neg c3).symm.trans hM
      exact x_vret X hP hS hM dX9_nextToken_408
    · replace hM := (if_pos c3).symm.trans hM
      exact wX9_nextToken_370 X  S1 h0 v1 _ _ _ hM hk0 hP hS (lv_sub hl [0, 1] rfl)
def jX9_nextToken_344 (S : xS) (h0 : Nat) (v1 : Int32) (t0 : Int32) : Option xS := if (t0 = 0 : Prop) then (jX9_nextToken_355  S h0 v1 3 h0) else (jX9_nextToken_355  S h0 v1 v1 h0)
set_option maxHeartbeats 4000000 in
set_option maxRecDepth 100000 in
theorem wX9_nextToken_344 {p : Program} {l : Launch} {e : Env} {s : State} {m : MethodId} {args : Array Value} {below : List Frame} {meth : Method} {c : Code} {G : xG} {S' : xS} (X : xX p s m args meth c cX9_nextToken 3 none RX9 G Ym) : ∀ (S : xS) (h0 : Nat) (v1 : Int32) (t0 : Int32) (H : Heap) (locs : List Loc) (ls : Array Slot), jX9_nextToken_344  S h0 v1 t0 = some S' → xk Ym h0 = 9 → xP G Ym S H → va_S (xA G Ym) s.heap H locs → lv_has ls 3 [(0, .ref (xad G h0)), (1, .int v1)] → W p l e (xr 2 42) s m args below meth c H locs 0 0 (MQ below (xQv G Ym S') args s 0 0 (xA G Ym)) (F0 m 344 ls [.int t0]) := by
  obtain ⟨hx, hb, hml, hown, hts, hr, hlk, hK, hE, hJ⟩ := id X
  intro S h0 v1 t0 H locs ls hM hk0 hP hS hl
  unfold jX9_nextToken_344 at hM
  refine lv_istore_n (lv' := [(2, .int t0), (0, .ref (xad G h0)), (1, .int v1)]) hx hb dX9_nextToken_344 rfl hl (by decide) rfl (fun ls hl => ?_)
  refine lv_aload_n hx hb dX9_nextToken_345 rfl (lv_at hl 1 rfl) ?_
  refine lv_iload_n hx hb dX9_nextToken_346 rfl (lv_at hl 0 rfl) ?_
  refine lv_if_eq (tgt := 354) hx hb dX9_nextToken_347 (by decide) (fun c1 => ?_) (fun c1 => ?_)
  · replace hM := (if_pos c1).symm.trans hM
    refine lv_iconst (v := 3) hx hb dX9_nextToken_354 (by decide) ?_
    exact wX9_nextToken_355 X  S h0 v1 3 h0 _ _ _ hM hk0 hk0 hP hS (lv_sub hl [1, 2] rfl)
  · replace hM := (if_neg c1).symm.trans hM
    refine lv_iload_n hx hb dX9_nextToken_350 rfl (lv_at hl 2 rfl) ?_
    refine lv_goto (tgt := 355) hx hb dX9_nextToken_351 (by decide) ?_
    exact wX9_nextToken_355 X  S h0 v1 v1 h0 _ _ _ hM hk0 hk0 hP hS (lv_sub hl [1, 2] rfl)
def jX9_nextToken_339 (S : xS) (h0 : Nat) (v1 : Int32) : Option xS := jX9_nextToken_344  S h0 v1 1
set_option maxHeartbeats 4000000 in
set_option maxRecDepth 100000 in
theorem wX9_nextToken_339 {p : Program} {l : Launch} {e : Env} {s : State} {m : MethodId} {args : Array Value} {below : List Frame} {meth : Method} {c : Code} {G : xG} {S' : xS} (X : xX p s m args meth c cX9_nextToken 3 none RX9 G Ym) : ∀ (S : xS) (h0 : Nat) (v1 : Int32) (H : Heap) (locs : List Loc) (ls : Array Slot), jX9_nextToken_339  S h0 v1 = some S' → xk Ym h0 = 9 → xP G Ym S H → va_S (xA G Ym) s.heap H locs → lv_has ls 3 [(0, .ref (xad G h0)), (1, .int v1)] → W p l e (xr 2 42) s m args below meth c H locs 0 0 (MQ below (xQv G Ym S') args s 0 0 (xA G Ym)) (F0 m 339 ls []) := by
  obtain ⟨hx, hb, hml, hown, hts, hr, hlk, hK, hE, hJ⟩ := id X
  intro S h0 v1 H locs ls hM hk0 hP hS hl
  unfold jX9_nextToken_339 at hM
  refine lv_iconst (v := 1) hx hb dX9_nextToken_339 (by decide) ?_
  refine lv_goto (tgt := 344) hx hb dX9_nextToken_340 (by decide) ?_
  exact wX9_nextToken_344 X  S h0 v1 1 _ _ _ hM hk0 hP hS (lv_sub hl [0, 1] rfl)
def jX9_nextToken_210 (k161 : xS → Nat → Option xS) (S : xS) (h0 : Nat) : Option xS := xlet (pI S h0 7 ((gI S h0 7) + 1)) fun S1 => k161 S1 h0
set_option maxHeartbeats 4000000 in
set_option maxRecDepth 100000 in
theorem wX9_nextToken_210 {p : Program} {l : Launch} {e : Env} {s : State} {m : MethodId} {args : Array Value} {below : List Frame} {meth : Method} {c : Code} {G : xG} {S' : xS} (X : xX p s m args meth c cX9_nextToken 3 none RX9 G Ym) (k161 : xS → Nat → Option xS) (hh161 : ∀ (S : xS) (h0 : Nat) (H : Heap) (locs : List Loc) (ls : Array Slot), k161 S h0 = some S' → xk Ym h0 = 9 → xP G Ym S H → va_S (xA G Ym) s.heap H locs → lv_has ls 3 [(0, .ref (xad G h0))] → W p l e (xr 2 42) s m args below meth c H locs 0 0 (MQ below (xQv G Ym S') args s 0 0 (xA G Ym)) (F0 m 161 ls [])) : ∀ (S : xS) (h0 : Nat) (H : Heap) (locs : List Loc) (ls : Array Slot), jX9_nextToken_210 k161 S h0 = some S' → xk Ym h0 = 9 → xP G Ym S H → va_S (xA G Ym) s.heap H locs → lv_has ls 3 [(0, .ref (xad G h0))] → W p l e (xr 2 42) s m args below meth c H locs 0 0 (MQ below (xQv G Ym S') args s 0 0 (xA G Ym)) (F0 m 210 ls []) := by
  obtain ⟨hx, hb, hml, hown, hts, hr, hlk, hK, hE, hJ⟩ := id X
  intro S h0 H locs ls hM hk0 hP hS hl
  unfold jX9_nextToken_210 at hM
  refine lv_aload_n hx hb dX9_nextToken_210 rfl (lv_at hl 0 rfl) ?_
  refine lv_dup hx hb dX9_nextToken_211 rfl ?_
  refine fgX9_7 X hP hk0 qw232 dX9_nextToken_212 ?_
  refine lv_iconst (v := 1) hx hb dX9_nextToken_215 (by decide) ?_
  refine lv_iadd hx hb dX9_nextToken_216 ?_
  obtain ⟨S1, eS1, hM⟩ := xlet_ex hM
  refine fpX9_7 X hP hS hk0 qw232 dX9_nextToken_217 eS1 (fun H locs hP hS => ?_)
  refine lv_goto (tgt := 161) hx hb dX9_nextToken_220 (by decide) ?_
  exact hh161 S1 h0 _ _ _ hM hk0 hP hS (lv_sub hl [0] rfl)
def lX9_nextToken_161 : Nat → xS → Nat → Option xS
  | 0, _, _ => none
  | n + 1, S, h0 => (mX9_byteAt S h0 (gI S h0 7)).bind fun q1 => (mX9_isLetter q1.2 q1.1).bind fun q2 => if (q2.1 = 0 : Prop) then (if (((gI q2.2 h0 7) - (gI q2.2 h0 8)) ≤ 7 : Prop) then (some q2.2) else (xlet (pJ q2.2 h0 11 0) fun S5 => some S5)) else (if (7 ≤ ((gI q2.2 h0 7) - (gI q2.2 h0 8)) : Prop) then (jX9_nextToken_210 (lX9_nextToken_161  n) q2.2 h0) else ((mX9_byteAt q2.2 h0 (gI q2.2 h0 7)).bind fun q7 => xlet (pJ q7.2 h0 11 (((gJ q2.2 h0 11) <<< ((8 : Int32).toInt64 &&& 63)) ||| ((q7.1 : Int32).toInt64))) fun S8 => jX9_nextToken_210 (lX9_nextToken_161  n) S8 h0))
set_option maxHeartbeats 4000000 in
set_option maxRecDepth 100000 in
theorem wX9_nextToken_161 {p : Program} {l : Launch} {e : Env} {s : State} {m : MethodId} {args : Array Value} {below : List Frame} {meth : Method} {c : Code} {G : xG} {S' : xS} (X : xX p s m args meth c cX9_nextToken 3 none RX9 G Ym) : ∀ (n : Nat), ∀ (S : xS) (h0 : Nat) (H : Heap) (locs : List Loc) (ls : Array Slot), lX9_nextToken_161  n S h0 = some S' → xk Ym h0 = 9 → xP G Ym S H → va_S (xA G Ym) s.heap H locs → lv_has ls 3 [(0, .ref (xad G h0))] → W p l e (xr 2 42) s m args below meth c H locs 0 0 (MQ below (xQv G Ym S') args s 0 0 (xA G Ym)) (F0 m 161 ls []) := by
  obtain ⟨hx, hb, hml, hown, hts, hr, hlk, hK, hE, hJ⟩ := id X
  intro n
  induction n with
  | zero =>
    intro S h0 H locs ls hM
    rw [lX9_nextToken_161.eq_1] at hM
    cases hM
  | succ n ih =>
    intro S h0 H locs ls hM hk0 hP hS hl
    rw [lX9_nextToken_161.eq_2] at hM
    refine lv_aload_n hx hb dX9_nextToken_161 rfl (lv_at hl 0 rfl) ?_
    refine lv_aload_n hx hb dX9_nextToken_162 rfl (lv_at hl 0 rfl) ?_
    refine fgX9_7 X hP hk0 qw232 dX9_nextToken_163 ?_
    obtain ⟨q1, eq1, hM⟩ := xb hM
    refine x_goi (x_runV (rest := []) X (kX9_byteAt l G S h0 (gI S h0 7) q1.1 q1.2 hk0 eq1) qw233 okX9_byteAt ⟨Nat.le_of_ble_eq_true rfl, Nat.le_of_ble_eq_true rfl⟩ hk0 (by decide) rfl hP hS rfl hl.1 rfl (Nat.le_of_ble_eq_true rfl) dX9_nextToken_166) hS (fun H locs hP hS => ?_)
    obtain ⟨q2, eq2, hM⟩ := xb hM
    refine x_goi (x_runS (rest := []) X (kX9_isLetter l G q1.2 q1.1 q2.1 q2.2  eq2) qw236 okX9_isLetter ⟨Nat.le_of_ble_eq_true rfl, Nat.le_of_ble_eq_true rfl⟩ hP hS rfl hl.1 rfl (Nat.le_of_ble_eq_true rfl) dX9_nextToken_169) hS (fun H locs hP hS => ?_)
    refine lv_if_eq (tgt := 223) hx hb dX9_nextToken_172 (by decide) (fun c3 => ?_) (fun c3 => ?_)
    · replace hM := (if_pos c3).symm.trans hM
      refine lv_aload_n hx hb dX9_nextToken_223 rfl (lv_at hl 0 rfl) ?_
      refine fgX9_7 X hP hk0 qw232 dX9_nextToken_224 ?_
      refine lv_aload_n hx hb dX9_nextToken_227 rfl (lv_at hl 0 rfl) ?_
      refine fgX9_8 X hP hk0 qw234 dX9_nextToken_228 ?_
      refine lv_isub hx hb dX9_nextToken_231 ?_
      refine lv_bipush (v := 7) hx hb dX9_nextToken_232 (by decide) ?_
      refine lv_icmp_le (tgt := 408) hx hb dX9_nextToken_234 (by decide) (fun c4 => ?_) (fun c4 => ?_)
      · replace hM := (if_pos c4).symm.trans hM
        exact x_vret X hP hS hM dX9_nextToken_408
      · replace hM := (if_neg c4).symm.trans hM
        refine lv_aload_n hx hb dX9_nextToken_237 rfl (lv_at hl 0 rfl) ?_
        refine lv_lconst (v := 0) hx hb dX9_nextToken_238 (by decide) ?_
        obtain ⟨S5, eS5, hM⟩ := xlet_ex hM
        refine fpX9_11 X hP hS hk0 qw238 dX9_nextToken_239 eS5 (fun H locs hP hS => ?_)
        refine lv_goto (tgt := 408) hx hb dX9_nextToken_242 (by decide) ?_
        exact x_vret X hP hS hM dX9_nextToken_408
    · replace hM := (if_neg c3).symm.trans hM
      refine lv_aload_n hx hb dX9_nextToken_175 rfl (lv_at hl 0 rfl) ?_
      refine fgX9_7 X hP hk0 qw232 dX9_nextToken_176 ?_
      refine lv_aload_n hx hb dX9_nextToken_179 rfl (lv_at hl 0 rfl) ?_
      refine fgX9_8 X hP hk0 qw234 dX9_nextToken_180 ?_
      refine lv_isub hx hb dX9_nextToken_183 ?_
      refine lv_bipush (v := 7) hx hb dX9_nextToken_184 (by decide) ?_
      refine lv_icmp_ge (tgt := 210) hx hb dX9_nextToken_186 (by decide) (fun c6 => ?_) (fun c6 => ?_)
      · replace hM := (if_pos c6).symm.trans hM
        exact wX9_nextToken_210 X (lX9_nextToken_161  n) ih q2.2 h0 _ _ _ hM hk0 hP hS (lv_sub hl [0] rfl)
      · replace hM := (if_neg c6).symm.trans hM
        refine lv_aload_n hx hb dX9_nextToken_189 rfl (lv_at hl 0 rfl) ?_
        refine lv_aload_n hx hb dX9_nextToken_190 rfl (lv_at hl 0 rfl) ?_
        refine fgX9_11 X hP hk0 qw238 dX9_nextToken_191 ?_
        refine lv_bipush (v := 8) hx hb dX9_nextToken_194 (by decide) ?_
        refine lv_lshl hx hb dX9_nextToken_196 rfl ?_
        refine lv_aload_n hx hb dX9_nextToken_197 rfl (lv_at hl 0 rfl) ?_
        refine lv_aload_n hx hb dX9_nextToken_198 rfl (lv_at hl 0 rfl) ?_
        refine fgX9_7 X hP hk0 qw232 dX9_nextToken_199 ?_
        obtain ⟨q7, eq7, hM⟩ := xb hM
        refine x_goi (x_runV (rest := [.long ((gJ q2.2 h0 11) <<< ((8 : Int32).toInt64 &&& 63)), .ref (xad G h0)]) X (kX9_byteAt l G q2.2 h0 (gI q2.2 h0 7) q7.1 q7.2 hk0 eq7) qw233 okX9_byteAt ⟨Nat.le_of_ble_eq_true rfl, Nat.le_of_ble_eq_true rfl⟩ hk0 (by decide) rfl hP hS rfl hl.1 rfl (Nat.le_of_ble_eq_true rfl) dX9_nextToken_202) hS (fun H locs hP hS => ?_)
        refine lv_i2l hx hb dX9_nextToken_205 rfl ?_
        refine lv_lor hx hb dX9_nextToken_206 ?_
        obtain ⟨S8, eS8, hM⟩ := xlet_ex hM
        refine fpX9_11 X hP hS hk0 qw238 dX9_nextToken_207 eS8 (fun H locs hP hS => ?_)
        exact wX9_nextToken_210 X (lX9_nextToken_161  n) ih S8 h0 _ _ _ hM hk0 hP hS (lv_sub hl [0] rfl)
def jX9_nextToken_131 (k85 : xS → Nat → Option xS) (S : xS) (h0 : Nat) : Option xS := xlet (pI S h0 7 ((gI S h0 7) + 1)) fun S1 => k85 S1 h0
set_option maxHeartbeats 4000000 in
set_option maxRecDepth 100000 in
theorem wX9_nextToken_131 {p : Program} {l : Launch} {e : Env} {s : State} {m : MethodId} {args : Array Value} {below : List Frame} {meth : Method} {c : Code} {G : xG} {S' : xS} (X : xX p s m args meth c cX9_nextToken 3 none RX9 G Ym) (k85 : xS → Nat → Option xS) (hh85 : ∀ (S : xS) (h0 : Nat) (H : Heap) (locs : List Loc) (ls : Array Slot), k85 S h0 = some S' → xk Ym h0 = 9 → xP G Ym S H → va_S (xA G Ym) s.heap H locs → lv_has ls 3 [(0, .ref (xad G h0))] → W p l e (xr 2 42) s m args below meth c H locs 0 0 (MQ below (xQv G Ym S') args s 0 0 (xA G Ym)) (F0 m 85 ls [])) : ∀ (S : xS) (h0 : Nat) (H : Heap) (locs : List Loc) (ls : Array Slot), jX9_nextToken_131 k85 S h0 = some S' → xk Ym h0 = 9 → xP G Ym S H → va_S (xA G Ym) s.heap H locs → lv_has ls 3 [(0, .ref (xad G h0))] → W p l e (xr 2 42) s m args below meth c H locs 0 0 (MQ below (xQv G Ym S') args s 0 0 (xA G Ym)) (F0 m 131 ls []) := by
  obtain ⟨hx, hb, hml, hown, hts, hr, hlk, hK, hE, hJ⟩ := id X
  intro S h0 H locs ls hM hk0 hP hS hl
  unfold jX9_nextToken_131 at hM
  refine lv_aload_n hx hb dX9_nextToken_131 rfl (lv_at hl 0 rfl) ?_
  refine lv_dup hx hb dX9_nextToken_132 rfl ?_
  refine fgX9_7 X hP hk0 qw232 dX9_nextToken_133 ?_
  refine lv_iconst (v := 1) hx hb dX9_nextToken_136 (by decide) ?_
  refine lv_iadd hx hb dX9_nextToken_137 ?_
  obtain ⟨S1, eS1, hM⟩ := xlet_ex hM
  refine fpX9_7 X hP hS hk0 qw232 dX9_nextToken_138 eS1 (fun H locs hP hS => ?_)
  refine lv_goto (tgt := 85) hx hb dX9_nextToken_141 (by decide) ?_
  exact hh85 S1 h0 _ _ _ hM hk0 hP hS (lv_sub hl [0] rfl)
def lX9_nextToken_85 : Nat → xS → Nat → Option xS
  | 0, _, _ => none
  | n + 1, S, h0 => (mX9_byteAt S h0 (gI S h0 7)).bind fun q1 => (mX9_isDigit q1.2 q1.1).bind fun q2 => if (q2.1 = 0 : Prop) then (some q2.2) else (if (100000 ≤ (gI q2.2 h0 10) : Prop) then (jX9_nextToken_131 (lX9_nextToken_85  n) q2.2 h0) else ((mX9_byteAt q2.2 h0 (gI q2.2 h0 7)).bind fun q5 => xlet (pI q5.2 h0 10 (((10 * (gI q2.2 h0 10)) + q5.1) - 48)) fun S6 => jX9_nextToken_131 (lX9_nextToken_85  n) S6 h0))
set_option maxHeartbeats 4000000 in
set_option maxRecDepth 100000 in
theorem wX9_nextToken_85 {p : Program} {l : Launch} {e : Env} {s : State} {m : MethodId} {args : Array Value} {below : List Frame} {meth : Method} {c : Code} {G : xG} {S' : xS} (X : xX p s m args meth c cX9_nextToken 3 none RX9 G Ym) : ∀ (n : Nat), ∀ (S : xS) (h0 : Nat) (H : Heap) (locs : List Loc) (ls : Array Slot), lX9_nextToken_85  n S h0 = some S' → xk Ym h0 = 9 → xP G Ym S H → va_S (xA G Ym) s.heap H locs → lv_has ls 3 [(0, .ref (xad G h0))] → W p l e (xr 2 42) s m args below meth c H locs 0 0 (MQ below (xQv G Ym S') args s 0 0 (xA G Ym)) (F0 m 85 ls []) := by
  obtain ⟨hx, hb, hml, hown, hts, hr, hlk, hK, hE, hJ⟩ := id X
  intro n
  induction n with
  | zero =>
    intro S h0 H locs ls hM
    rw [lX9_nextToken_85.eq_1] at hM
    cases hM
  | succ n ih =>
    intro S h0 H locs ls hM hk0 hP hS hl
    rw [lX9_nextToken_85.eq_2] at hM
    refine lv_aload_n hx hb dX9_nextToken_85 rfl (lv_at hl 0 rfl) ?_
    refine lv_aload_n hx hb dX9_nextToken_86 rfl (lv_at hl 0 rfl) ?_
    refine fgX9_7 X hP hk0 qw232 dX9_nextToken_87 ?_
    obtain ⟨q1, eq1, hM⟩ := xb hM
    refine x_goi (x_runV (rest := []) X (kX9_byteAt l G S h0 (gI S h0 7) q1.1 q1.2 hk0 eq1) qw233 okX9_byteAt ⟨Nat.le_of_ble_eq_true rfl, Nat.le_of_ble_eq_true rfl⟩ hk0 (by decide) rfl hP hS rfl hl.1 rfl (Nat.le_of_ble_eq_true rfl) dX9_nextToken_90) hS (fun H locs hP hS => ?_)
    obtain ⟨q2, eq2, hM⟩ := xb hM
    refine x_goi (x_runS (rest := []) X (kX9_isDigit l G q1.2 q1.1 q2.1 q2.2  eq2) qw235 okX9_isDigit ⟨Nat.le_of_ble_eq_true rfl, Nat.le_of_ble_eq_true rfl⟩ hP hS rfl hl.1 rfl (Nat.le_of_ble_eq_true rfl) dX9_nextToken_93) hS (fun H locs hP hS => ?_)
    refine lv_if_eq (tgt := 408) hx hb dX9_nextToken_96 (by decide) (fun c3 => ?_) (fun c3 => ?_)
    · replace hM := (if_pos c3).symm.trans hM
      exact x_vret X hP hS hM dX9_nextToken_408
    · replace hM := (if_neg c3).symm.trans hM
      refine lv_aload_n hx hb dX9_nextToken_99 rfl (lv_at hl 0 rfl) ?_
      refine fgX9_10 X hP hk0 qw239 dX9_nextToken_100 ?_
      refine x_ldc X qw240 dX9_nextToken_103 ?_
      refine lv_icmp_ge (tgt := 131) hx hb dX9_nextToken_105 (by decide) (fun c4 => ?_) (fun c4 => ?_)
      · replace hM := (if_pos c4).symm.trans hM
        exact wX9_nextToken_131 X (lX9_nextToken_85  n) ih q2.2 h0 _ _ _ hM hk0 hP hS (lv_sub hl [0] rfl)
      · replace hM := (if_neg c4).symm.trans hM
        refine lv_aload_n hx hb dX9_nextToken_108 rfl (lv_at hl 0 rfl) ?_
        refine lv_bipush (v := 10) hx hb dX9_nextToken_109 (by decide) ?_
        refine lv_aload_n hx hb dX9_nextToken_111 rfl (lv_at hl 0 rfl) ?_
        refine fgX9_10 X hP hk0 qw239 dX9_nextToken_112 ?_
        refine lv_imul hx hb dX9_nextToken_115 ?_
        refine lv_aload_n hx hb dX9_nextToken_116 rfl (lv_at hl 0 rfl) ?_
        refine lv_aload_n hx hb dX9_nextToken_117 rfl (lv_at hl 0 rfl) ?_
        refine fgX9_7 X hP hk0 qw232 dX9_nextToken_118 ?_
        obtain ⟨q5, eq5, hM⟩ := xb hM
        refine x_goi (x_runV (rest := [.int (10 * (gI q2.2 h0 10)), .ref (xad G h0)]) X (kX9_byteAt l G q2.2 h0 (gI q2.2 h0 7) q5.1 q5.2 hk0 eq5) qw233 okX9_byteAt ⟨Nat.le_of_ble_eq_true rfl, Nat.le_of_ble_eq_true rfl⟩ hk0 (by decide) rfl hP hS rfl hl.1 rfl (Nat.le_of_ble_eq_true rfl) dX9_nextToken_121) hS (fun H locs hP hS => ?_)
        refine lv_iadd hx hb dX9_nextToken_124 ?_
        refine lv_bipush (v := 48) hx hb dX9_nextToken_125 (by decide) ?_
        refine lv_isub hx hb dX9_nextToken_127 ?_
        obtain ⟨S6, eS6, hM⟩ := xlet_ex hM
        refine fpX9_10 X hP hS hk0 qw239 dX9_nextToken_128 eS6 (fun H locs hP hS => ?_)
        exact wX9_nextToken_131 X (lX9_nextToken_85  n) ih S6 h0 _ _ _ hM hk0 hP hS (lv_sub hl [0] rfl)
def jX9_nextToken_26 (k0 : xS → Nat → Option xS) (S : xS) (h0 : Nat) : Option xS := xlet (pI S h0 7 ((gI S h0 7) + 1)) fun S1 => k0 S1 h0
set_option maxHeartbeats 4000000 in
set_option maxRecDepth 100000 in
theorem wX9_nextToken_26 {p : Program} {l : Launch} {e : Env} {s : State} {m : MethodId} {args : Array Value} {below : List Frame} {meth : Method} {c : Code} {G : xG} {S' : xS} (X : xX p s m args meth c cX9_nextToken 3 none RX9 G Ym) (k0 : xS → Nat → Option xS) (hh0 : ∀ (S : xS) (h0 : Nat) (H : Heap) (locs : List Loc) (ls : Array Slot), k0 S h0 = some S' → xk Ym h0 = 9 → xP G Ym S H → va_S (xA G Ym) s.heap H locs → lv_has ls 3 [(0, .ref (xad G h0))] → W p l e (xr 2 42) s m args below meth c H locs 0 0 (MQ below (xQv G Ym S') args s 0 0 (xA G Ym)) (F0 m 0 ls [])) : ∀ (S : xS) (h0 : Nat) (H : Heap) (locs : List Loc) (ls : Array Slot), jX9_nextToken_26 k0 S h0 = some S' → xk Ym h0 = 9 → xP G Ym S H → va_S (xA G Ym) s.heap H locs → lv_has ls 3 [(0, .ref (xad G h0))] → W p l e (xr 2 42) s m args below meth c H locs 0 0 (MQ below (xQv G Ym S') args s 0 0 (xA G Ym)) (F0 m 26 ls []) := by
  obtain ⟨hx, hb, hml, hown, hts, hr, hlk, hK, hE, hJ⟩ := id X
  intro S h0 H locs ls hM hk0 hP hS hl
  unfold jX9_nextToken_26 at hM
  refine lv_aload_n hx hb dX9_nextToken_26 rfl (lv_at hl 0 rfl) ?_
  refine lv_dup hx hb dX9_nextToken_27 rfl ?_
  refine fgX9_7 X hP hk0 qw232 dX9_nextToken_28 ?_
  refine lv_iconst (v := 1) hx hb dX9_nextToken_31 (by decide) ?_
  refine lv_iadd hx hb dX9_nextToken_32 ?_
  obtain ⟨S1, eS1, hM⟩ := xlet_ex hM
  refine fpX9_7 X hP hS hk0 qw232 dX9_nextToken_33 eS1 (fun H locs hP hS => ?_)
  refine lv_goto (tgt := 0) hx hb dX9_nextToken_36 (by decide) ?_
  exact hh0 S1 h0 _ _ _ hM hk0 hP hS (lv_sub hl [0] rfl)
def lX9_nextToken_0 : Nat → xS → Nat → Option xS
  | 0, _, _ => none
  | n + 1, S, h0 => (mX9_byteAt S h0 (gI S h0 7)).bind fun q1 => if (q1.1 = 32 : Prop) then (jX9_nextToken_26 (lX9_nextToken_0  n) q1.2 h0) else ((mX9_byteAt q1.2 h0 (gI q1.2 h0 7)).bind fun q3 => if (q3.1 = 10 : Prop) then (jX9_nextToken_26 (lX9_nextToken_0  n) q3.2 h0) else (xlet (pI q3.2 h0 8 (gI q3.2 h0 7)) fun S5 => (mX9_byteAt S5 h0 (gI S5 h0 7)).bind fun q6 => if (0 ≤ q6.1 : Prop) then ((mX9_isDigit q6.2 q6.1).bind fun q8 => if (q8.1 = 0 : Prop) then ((mX9_isLetter q8.2 q6.1).bind fun q10 => if (q10.1 = 0 : Prop) then (xlet (pI q10.2 h0 7 ((gI q10.2 h0 7) + 1)) fun S12 => if (q6.1 = 60 : Prop) then (jX9_nextToken_339  S12 h0 q6.1) else (if (q6.1 = 62 : Prop) then (jX9_nextToken_339  S12 h0 q6.1) else (if (q6.1 = 61 : Prop) then (jX9_nextToken_339  S12 h0 q6.1) else (if (q6.1 = 35 : Prop) then (jX9_nextToken_339  S12 h0 q6.1) else (if (q6.1 = 43 : Prop) then (jX9_nextToken_339  S12 h0 q6.1) else (if (q6.1 = 45 : Prop) then (jX9_nextToken_339  S12 h0 q6.1) else (if (q6.1 = 42 : Prop) then (jX9_nextToken_339  S12 h0 q6.1) else (if (q6.1 = 47 : Prop) then (jX9_nextToken_339  S12 h0 q6.1) else (if (q6.1 = 40 : Prop) then (jX9_nextToken_339  S12 h0 q6.1) else (if (q6.1 = 41 : Prop) then (jX9_nextToken_339  S12 h0 q6.1) else (if (q6.1 = 59 : Prop) then (jX9_nextToken_339  S12 h0 q6.1) else (if (q6.1 = 44 : Prop) then (jX9_nextToken_339  S12 h0 q6.1) else (if (q6.1 = 63 : Prop) then (jX9_nextToken_339  S12 h0 q6.1) else (if (q6.1 = 58 : Prop) then (jX9_nextToken_339  S12 h0 q6.1) else (jX9_nextToken_344  S12 h0 q6.1 0))))))))))))))) else (xlet (pI q10.2 h0 9 2) fun S27 => xlet (pJ S27 h0 11 0) fun S28 => lX9_nextToken_161  5000 S28 h0)) else (xlet (pI q8.2 h0 9 1) fun S29 => xlet (pI S29 h0 10 0) fun S30 => lX9_nextToken_85  5000 S30 h0)) else (xlet (pI q6.2 h0 9 0) fun S31 => some S31)))
set_option maxHeartbeats 4000000 in
set_option maxRecDepth 100000 in
theorem wX9_nextToken_0 {p : Program} {l : Launch} {e : Env} {s : State} {m : MethodId} {args : Array Value} {below : List Frame} {meth : Method} {c : Code} {G : xG} {S' : xS} (X : xX p s m args meth c cX9_nextToken 3 none RX9 G Ym) : ∀ (n : Nat), ∀ (S : xS) (h0 : Nat) (H : Heap) (locs : List Loc) (ls : Array Slot), lX9_nextToken_0  n S h0 = some S' → xk Ym h0 = 9 → xP G Ym S H → va_S (xA G Ym) s.heap H locs → lv_has ls 3 [(0, .ref (xad G h0))] → W p l e (xr 2 42) s m args below meth c H locs 0 0 (MQ below (xQv G Ym S') args s 0 0 (xA G Ym)) (F0 m 0 ls []) := by
  obtain ⟨hx, hb, hml, hown, hts, hr, hlk, hK, hE, hJ⟩ := id X
  intro n
  induction n with
  | zero =>
    intro S h0 H locs ls hM
    rw [lX9_nextToken_0.eq_1] at hM
    cases hM
  | succ n ih =>
    intro S h0 H locs ls hM hk0 hP hS hl
    rw [lX9_nextToken_0.eq_2] at hM
    refine lv_aload_n hx hb dX9_nextToken_0 rfl (lv_at hl 0 rfl) ?_
    refine lv_aload_n hx hb dX9_nextToken_1 rfl (lv_at hl 0 rfl) ?_
    refine fgX9_7 X hP hk0 qw232 dX9_nextToken_2 ?_
    obtain ⟨q1, eq1, hM⟩ := xb hM
    refine x_goi (x_runV (rest := []) X (kX9_byteAt l G S h0 (gI S h0 7) q1.1 q1.2 hk0 eq1) qw233 okX9_byteAt ⟨Nat.le_of_ble_eq_true rfl, Nat.le_of_ble_eq_true rfl⟩ hk0 (by decide) rfl hP hS rfl hl.1 rfl (Nat.le_of_ble_eq_true rfl) dX9_nextToken_5) hS (fun H locs hP hS => ?_)
    refine lv_bipush (v := 32) hx hb dX9_nextToken_8 (by decide) ?_
    refine lv_icmp_eq (tgt := 26) hx hb dX9_nextToken_10 (by decide) (fun c2 => ?_) (fun c2 => ?_)
    · replace hM := (if_pos c2).symm.trans hM
      exact wX9_nextToken_26 X (lX9_nextToken_0  n) ih q1.2 h0 _ _ _ hM hk0 hP hS (lv_sub hl [0] rfl)
    · replace hM := (if_neg c2).symm.trans hM
      refine lv_aload_n hx hb dX9_nextToken_13 rfl (lv_at hl 0 rfl) ?_
      refine lv_aload_n hx hb dX9_nextToken_14 rfl (lv_at hl 0 rfl) ?_
      refine fgX9_7 X hP hk0 qw232 dX9_nextToken_15 ?_
      obtain ⟨q3, eq3, hM⟩ := xb hM
      refine x_goi (x_runV (rest := []) X (kX9_byteAt l G q1.2 h0 (gI q1.2 h0 7) q3.1 q3.2 hk0 eq3) qw233 okX9_byteAt ⟨Nat.le_of_ble_eq_true rfl, Nat.le_of_ble_eq_true rfl⟩ hk0 (by decide) rfl hP hS rfl hl.1 rfl (Nat.le_of_ble_eq_true rfl) dX9_nextToken_18) hS (fun H locs hP hS => ?_)
      refine lv_bipush (v := 10) hx hb dX9_nextToken_21 (by decide) ?_
      refine lv_icmp_ne (tgt := 39) hx hb dX9_nextToken_23 (by decide) (fun c4 => ?_) (fun c4 => ?_)
      · replace hM := (if_neg c4).symm.trans hM
        refine lv_aload_n hx hb dX9_nextToken_39 rfl (lv_at hl 0 rfl) ?_
        refine lv_aload_n hx hb dX9_nextToken_40 rfl (lv_at hl 0 rfl) ?_
        refine fgX9_7 X hP hk0 qw232 dX9_nextToken_41 ?_
        obtain ⟨S5, eS5, hM⟩ := xlet_ex hM
        refine fpX9_8 X hP hS hk0 qw234 dX9_nextToken_44 eS5 (fun H locs hP hS => ?_)
        refine lv_aload_n hx hb dX9_nextToken_47 rfl (lv_at hl 0 rfl) ?_
        refine lv_aload_n hx hb dX9_nextToken_48 rfl (lv_at hl 0 rfl) ?_
        refine fgX9_7 X hP hk0 qw232 dX9_nextToken_49 ?_
        obtain ⟨q6, eq6, hM⟩ := xb hM
        refine x_goi (x_runV (rest := []) X (kX9_byteAt l G S5 h0 (gI S5 h0 7) q6.1 q6.2 hk0 eq6) qw233 okX9_byteAt ⟨Nat.le_of_ble_eq_true rfl, Nat.le_of_ble_eq_true rfl⟩ hk0 (by decide) rfl hP hS rfl hl.1 rfl (Nat.le_of_ble_eq_true rfl) dX9_nextToken_52) hS (fun H locs hP hS => ?_)
        refine lv_istore_n (lv' := [(1, .int q6.1), (0, .ref (xad G h0))]) hx hb dX9_nextToken_55 rfl hl (by decide) rfl (fun ls hl => ?_)
        refine lv_iload_n hx hb dX9_nextToken_56 rfl (lv_at hl 0 rfl) ?_
        refine lv_if_ge (tgt := 68) hx hb dX9_nextToken_57 (by decide) (fun c7 => ?_) (fun c7 => ?_)
        · replace hM := (if_pos c7).symm.trans hM
          refine lv_iload_n hx hb dX9_nextToken_68 rfl (lv_at hl 0 rfl) ?_
          obtain ⟨q8, eq8, hM⟩ := xb hM
          refine x_goi (x_runS (rest := []) X (kX9_isDigit l G q6.2 q6.1 q8.1 q8.2  eq8) qw235 okX9_isDigit ⟨Nat.le_of_ble_eq_true rfl, Nat.le_of_ble_eq_true rfl⟩ hP hS rfl hl.1 rfl (Nat.le_of_ble_eq_true rfl) dX9_nextToken_69) hS (fun H locs hP hS => ?_)
          refine lv_if_eq (tgt := 144) hx hb dX9_nextToken_72 (by decide) (fun c9 => ?_) (fun c9 => ?_)
          · replace hM := (if_pos c9).symm.trans hM
            refine lv_iload_n hx hb dX9_nextToken_144 rfl (lv_at hl 0 rfl) ?_
            obtain ⟨q10, eq10, hM⟩ := xb hM
            refine x_goi (x_runS (rest := []) X (kX9_isLetter l G q8.2 q6.1 q10.1 q10.2  eq10) qw236 okX9_isLetter ⟨Nat.le_of_ble_eq_true rfl, Nat.le_of_ble_eq_true rfl⟩ hP hS rfl hl.1 rfl (Nat.le_of_ble_eq_true rfl) dX9_nextToken_145) hS (fun H locs hP hS => ?_)
            refine lv_if_eq (tgt := 245) hx hb dX9_nextToken_148 (by decide) (fun c11 => ?_) (fun c11 => ?_)
            · replace hM := (if_pos c11).symm.trans hM
              refine lv_aload_n hx hb dX9_nextToken_245 rfl (lv_at hl 1 rfl) ?_
              refine lv_dup hx hb dX9_nextToken_246 rfl ?_
              refine fgX9_7 X hP hk0 qw232 dX9_nextToken_247 ?_
              refine lv_iconst (v := 1) hx hb dX9_nextToken_250 (by decide) ?_
              refine lv_iadd hx hb dX9_nextToken_251 ?_
              obtain ⟨S12, eS12, hM⟩ := xlet_ex hM
              refine fpX9_7 X hP hS hk0 qw232 dX9_nextToken_252 eS12 (fun H locs hP hS => ?_)
              refine lv_iload_n hx hb dX9_nextToken_255 rfl (lv_at hl 0 rfl) ?_
              refine lv_bipush (v := 60) hx hb dX9_nextToken_256 (by decide) ?_
              refine lv_icmp_eq (tgt := 339) hx hb dX9_nextToken_258 (by decide) (fun c13 => ?_) (fun c13 => ?_)
              · replace hM := (if_pos c13).symm.trans hM
                exact wX9_nextToken_339 X  S12 h0 q6.1 _ _ _ hM hk0 hP hS (lv_sub hl [1, 0] rfl)
              · replace hM := (if_neg c13).symm.trans hM
                refine lv_iload_n hx hb dX9_nextToken_261 rfl (lv_at hl 0 rfl) ?_
                refine lv_bipush (v := 62) hx hb dX9_nextToken_262 (by decide) ?_
                refine lv_icmp_eq (tgt := 339) hx hb dX9_nextToken_264 (by decide) (fun c14 => ?_) (fun c14 => ?_)
                · replace hM := (if_pos c14).symm.trans hM
                  exact wX9_nextToken_339 X  S12 h0 q6.1 _ _ _ hM hk0 hP hS (lv_sub hl [1, 0] rfl)
                · replace hM := (if_neg c14).symm.trans hM
                  refine lv_iload_n hx hb dX9_nextToken_267 rfl (lv_at hl 0 rfl) ?_
                  refine lv_bipush (v := 61) hx hb dX9_nextToken_268 (by decide) ?_
                  refine lv_icmp_eq (tgt := 339) hx hb dX9_nextToken_270 (by decide) (fun c15 => ?_) (fun c15 => ?_)
                  · replace hM := (if_pos c15).symm.trans hM
                    exact wX9_nextToken_339 X  S12 h0 q6.1 _ _ _ hM hk0 hP hS (lv_sub hl [1, 0] rfl)
                  · replace hM := (if_neg c15).symm.trans hM
                    refine lv_iload_n hx hb dX9_nextToken_273 rfl (lv_at hl 0 rfl) ?_
                    refine lv_bipush (v := 35) hx hb dX9_nextToken_274 (by decide) ?_
                    refine lv_icmp_eq (tgt := 339) hx hb dX9_nextToken_276 (by decide) (fun c16 => ?_) (fun c16 => ?_)
                    · replace hM := (if_pos c16).symm.trans hM
                      exact wX9_nextToken_339 X  S12 h0 q6.1 _ _ _ hM hk0 hP hS (lv_sub hl [1, 0] rfl)
                    · replace hM := (if_neg c16).symm.trans hM
                      refine lv_iload_n hx hb dX9_nextToken_279 rfl (lv_at hl 0 rfl) ?_
                      refine lv_bipush (v := 43) hx hb dX9_nextToken_280 (by decide) ?_
                      refine lv_icmp_eq (tgt := 339) hx hb dX9_nextToken_282 (by decide) (fun c17 => ?_) (fun c17 => ?_)
                      · replace hM := (if_pos c17).symm.trans hM
                        exact wX9_nextToken_339 X  S12 h0 q6.1 _ _ _ hM hk0 hP hS (lv_sub hl [1, 0] rfl)
                      · replace hM := (if_neg c17).symm.trans hM
                        refine lv_iload_n hx hb dX9_nextToken_285 rfl (lv_at hl 0 rfl) ?_
                        refine lv_bipush (v := 45) hx hb dX9_nextToken_286 (by decide) ?_
                        refine lv_icmp_eq (tgt := 339) hx hb dX9_nextToken_288 (by decide) (fun c18 => ?_) (fun c18 => ?_)
                        · replace hM := (if_pos c18).symm.trans hM
                          exact wX9_nextToken_339 X  S12 h0 q6.1 _ _ _ hM hk0 hP hS (lv_sub hl [1, 0] rfl)
                        · replace hM := (if_neg c18).symm.trans hM
                          refine lv_iload_n hx hb dX9_nextToken_291 rfl (lv_at hl 0 rfl) ?_
                          refine lv_bipush (v := 42) hx hb dX9_nextToken_292 (by decide) ?_
                          refine lv_icmp_eq (tgt := 339) hx hb dX9_nextToken_294 (by decide) (fun c19 => ?_) (fun c19 => ?_)
                          · replace hM := (if_pos c19).symm.trans hM
                            exact wX9_nextToken_339 X  S12 h0 q6.1 _ _ _ hM hk0 hP hS (lv_sub hl [1, 0] rfl)
                          · replace hM := (if_neg c19).symm.trans hM
                            refine lv_iload_n hx hb dX9_nextToken_297 rfl (lv_at hl 0 rfl) ?_
                            refine lv_bipush (v := 47) hx hb dX9_nextToken_298 (by decide) ?_
                            refine lv_icmp_eq (tgt := 339) hx hb dX9_nextToken_300 (by decide) (fun c20 => ?_) (fun c20 => ?_)
                            · replace hM := (if_pos c20).symm.trans hM
                              exact wX9_nextToken_339 X  S12 h0 q6.1 _ _ _ hM hk0 hP hS (lv_sub hl [1, 0] rfl)
                            · replace hM := (if_neg c20).symm.trans hM
                              refine lv_iload_n hx hb dX9_nextToken_303 rfl (lv_at hl 0 rfl) ?_
                              refine lv_bipush (v := 40) hx hb dX9_nextToken_304 (by decide) ?_
                              refine lv_icmp_eq (tgt := 339) hx hb dX9_nextToken_306 (by decide) (fun c21 => ?_) (fun c21 => ?_)
                              · replace hM := (if_pos c21).symm.trans hM
                                exact wX9_nextToken_339 X  S12 h0 q6.1 _ _ _ hM hk0 hP hS (lv_sub hl [1, 0] rfl)
                              · replace hM := (if_neg c21).symm.trans hM
                                refine lv_iload_n hx hb dX9_nextToken_309 rfl (lv_at hl 0 rfl) ?_
                                refine lv_bipush (v := 41) hx hb dX9_nextToken_310 (by decide) ?_
                                refine lv_icmp_eq (tgt := 339) hx hb dX9_nextToken_312 (by decide) (fun c22 => ?_) (fun c22 => ?_)
                                · replace hM := (if_pos c22).symm.trans hM
                                  exact wX9_nextToken_339 X  S12 h0 q6.1 _ _ _ hM hk0 hP hS (lv_sub hl [1, 0] rfl)
                                · replace hM := (if_neg c22).symm.trans hM
                                  refine lv_iload_n hx hb dX9_nextToken_315 rfl (lv_at hl 0 rfl) ?_
                                  refine lv_bipush (v := 59) hx hb dX9_nextToken_316 (by decide) ?_
                                  refine lv_icmp_eq (tgt := 339) hx hb dX9_nextToken_318 (by decide) (fun c23 => ?_) (fun c23 => ?_)
                                  · replace hM := (if_pos c23).symm.trans hM
                                    exact wX9_nextToken_339 X  S12 h0 q6.1 _ _ _ hM hk0 hP hS (lv_sub hl [1, 0] rfl)
                                  · replace hM := (if_neg c23).symm.trans hM
                                    refine lv_iload_n hx hb dX9_nextToken_321 rfl (lv_at hl 0 rfl) ?_
                                    refine lv_bipush (v := 44) hx hb dX9_nextToken_322 (by decide) ?_
                                    refine lv_icmp_eq (tgt := 339) hx hb dX9_nextToken_324 (by decide) (fun c24 => ?_) (fun c24 => ?_)
                                    · replace hM := (if_pos c24).symm.trans hM
                                      exact wX9_nextToken_339 X  S12 h0 q6.1 _ _ _ hM hk0 hP hS (lv_sub hl [1, 0] rfl)
                                    · replace hM := (if_neg c24).symm.trans hM
                                      refine lv_iload_n hx hb dX9_nextToken_327 rfl (lv_at hl 0 rfl) ?_
                                      refine lv_bipush (v := 63) hx hb dX9_nextToken_328 (by decide) ?_
                                      refine lv_icmp_eq (tgt := 339) hx hb dX9_nextToken_330 (by decide) (fun c25 => ?_) (fun c25 => ?_)
                                      · replace hM := (if_pos c25).symm.trans hM
                                        exact wX9_nextToken_339 X  S12 h0 q6.1 _ _ _ hM hk0 hP hS (lv_sub hl [1, 0] rfl)
                                      · replace hM := (if_neg c25).symm.trans hM
                                        refine lv_iload_n hx hb dX9_nextToken_333 rfl (lv_at hl 0 rfl) ?_
                                        refine lv_bipush (v := 58) hx hb dX9_nextToken_334 (by decide) ?_
                                        refine lv_icmp_ne (tgt := 343) hx hb dX9_nextToken_336 (by decide) (fun c26 => ?_) (fun c26 => ?_)
                                        · replace hM := (if_neg c26).symm.trans hM
                                          refine lv_iconst (v := 0) hx hb dX9_nextToken_343 (by decide) ?_
                                          exact wX9_nextToken_344 X  S12 h0 q6.1 0 _ _ _ hM hk0 hP hS (lv_sub hl [1, 0] rfl)
                                        · replace hM := (if_pos c26).symm.trans hM
                                          exact wX9_nextToken_339 X  S12 h0 q6.1 _ _ _ hM hk0 hP hS (lv_sub hl [1, 0] rfl)
            · replace hM := (if_neg c11).symm.trans hM
              refine lv_aload_n hx hb dX9_nextToken_151 rfl (lv_at hl 1 rfl) ?_
              refine lv_iconst (v := 2) hx hb dX9_nextToken_152 (by decide) ?_
              obtain ⟨S27, eS27, hM⟩ := xlet_ex hM
              refine fpX9_9 X hP hS hk0 qw237 dX9_nextToken_153 eS27 (fun H locs hP hS => ?_)
              refine lv_aload_n hx hb dX9_nextToken_156 rfl (lv_at hl 1 rfl) ?_
              refine lv_lconst (v := 0) hx hb dX9_nextToken_157 (by decide) ?_
              obtain ⟨S28, eS28, hM⟩ := xlet_ex hM
              refine fpX9_11 X hP hS hk0 qw238 dX9_nextToken_158 eS28 (fun H locs hP hS => ?_)
              exact wX9_nextToken_161 X  5000 S28 h0 _ _ _ hM hk0 hP hS (lv_sub hl [1] rfl)
          · replace hM := (if_neg c9).symm.trans hM
            refine lv_aload_n hx hb dX9_nextToken_75 rfl (lv_at hl 1 rfl) ?_
            refine lv_iconst (v := 1) hx hb dX9_nextToken_76 (by decide) ?_
            obtain ⟨S29, eS29, hM⟩ := xlet_ex hM
            refine fpX9_9 X hP hS hk0 qw237 dX9_nextToken_77 eS29 (fun H locs hP hS => ?_)
            refine lv_aload_n hx hb dX9_nextToken_80 rfl (lv_at hl 1 rfl) ?_
            refine lv_iconst (v := 0) hx hb dX9_nextToken_81 (by decide) ?_
            obtain ⟨S30, eS30, hM⟩ := xlet_ex hM
            refine fpX9_10 X hP hS hk0 qw239 dX9_nextToken_82 eS30 (fun H locs hP hS => ?_)
            exact wX9_nextToken_85 X  5000 S30 h0 _ _ _ hM hk0 hP hS (lv_sub hl [1] rfl)
        · replace hM := (if_neg c7).symm.trans hM
          refine lv_aload_n hx hb dX9_nextToken_60 rfl (lv_at hl 1 rfl) ?_
          refine lv_iconst (v := 0) hx hb dX9_nextToken_61 (by decide) ?_
          obtain ⟨S31, eS31, hM⟩ := xlet_ex hM
          refine fpX9_9 X hP hS hk0 qw237 dX9_nextToken_62 eS31 (fun H locs hP hS => ?_)
          refine lv_goto (tgt := 408) hx hb dX9_nextToken_65 (by decide) ?_
          exact x_vret X hP hS hM dX9_nextToken_408
      · replace hM := (if_pos c4).symm.trans hM
        exact wX9_nextToken_26 X (lX9_nextToken_0  n) ih q3.2 h0 _ _ _ hM hk0 hP hS (lv_sub hl [0] rfl)
def mX9_nextToken (S : xS) (h0 : Nat) : Option xS := lX9_nextToken_0  5000 S h0
set_option maxHeartbeats 4000000 in
set_option maxRecDepth 100000 in
theorem kX9_nextToken (l : Launch) (G : xG) (S : xS) (h0 : Nat) (S' : xS) (hk0 : xk Ym h0 = 9) (hM : mX9_nextToken S h0 = some S') : xM l yX9_nextToken cX9_nextToken 3 none 2 42 G Ym [.ref (xad G h0)] S (xQv G Ym S') := by
  refine x_start (own := RX9) (by decide +kernel) rfl (Nat.le_of_ble_eq_true rfl) ?_
  intro p e s m below meth c ls X hl hP hS
  obtain ⟨hx, hb, hml, hown, hts, hr, hlk, hK, hE, hJ⟩ := id X
  have hl : lv_has ls 3 [(0, .ref (xad G h0))] := hl
  unfold mX9_nextToken at hM
  exact wX9_nextToken_0 X  5000 S h0 _ _ _ hM hk0 hP hS (lv_sub hl [0] rfl)

def mX9_w3 (S : xS) (p0 : Int32) (p1 : Int32) (p2 : Int32) : Option (Int64 × xS) := some ((((((p0 : Int32).toInt64) <<< ((8 : Int32).toInt64 &&& 63)) ||| ((p1 : Int32).toInt64)) <<< ((8 : Int32).toInt64 &&& 63)) ||| ((p2 : Int32).toInt64), S)
set_option maxHeartbeats 4000000 in
set_option maxRecDepth 100000 in
theorem kX9_w3 (l : Launch) (G : xG) (S : xS) (p0 : Int32) (p1 : Int32) (p2 : Int32) (r : Int64) (S' : xS) (hM : mX9_w3 S p0 p1 p2 = some (r, S')) : xM l yX9_w3 cX9_w3 3 (some .long) 0 0 G Ym [.int p0, .int p1, .int p2] S (xQl G Ym r S') := by
  refine x_start (own := RX9) (by decide +kernel) rfl (Nat.le_of_ble_eq_true rfl) ?_
  intro p e s m below meth c ls X hl hP hS
  obtain ⟨hx, hb, hml, hown, hts, hr, hlk, hK, hE, hJ⟩ := id X
  have hl : lv_has ls 3 [(0, .int p0), (1, .int p1), (2, .int p2)] := hl
  unfold mX9_w3 at hM
  refine lv_iload_n hx hb dX9_w3_0 rfl (lv_at hl 0 rfl) ?_
  refine lv_i2l hx hb dX9_w3_1 rfl ?_
  refine lv_bipush (v := 8) hx hb dX9_w3_2 (by decide) ?_
  refine lv_lshl hx hb dX9_w3_4 rfl ?_
  refine lv_iload_n hx hb dX9_w3_5 rfl (lv_at hl 1 rfl) ?_
  refine lv_i2l hx hb dX9_w3_6 rfl ?_
  refine lv_lor hx hb dX9_w3_7 ?_
  refine lv_bipush (v := 8) hx hb dX9_w3_8 (by decide) ?_
  refine lv_lshl hx hb dX9_w3_10 rfl ?_
  refine lv_iload_n hx hb dX9_w3_11 rfl (lv_at hl 2 rfl) ?_
  refine lv_i2l hx hb dX9_w3_12 rfl ?_
  refine lv_lor hx hb dX9_w3_13 ?_
  exact x_lret X hP hS hM dX9_w3_14

def mX9_w5 (S : xS) (p0 : Int32) (p1 : Int32) (p2 : Int32) (p3 : Int32) (p4 : Int32) : Option (Int64 × xS) := (mX9_w3 S p0 p1 p2).bind fun q1 => some ((((q1.1 <<< ((8 : Int32).toInt64 &&& 63)) ||| ((p3 : Int32).toInt64)) <<< ((8 : Int32).toInt64 &&& 63)) ||| ((p4 : Int32).toInt64), q1.2)
set_option maxHeartbeats 4000000 in
set_option maxRecDepth 100000 in
theorem kX9_w5 (l : Launch) (G : xG) (S : xS) (p0 : Int32) (p1 : Int32) (p2 : Int32) (p3 : Int32) (p4 : Int32) (r : Int64) (S' : xS) (hM : mX9_w5 S p0 p1 p2 p3 p4 = some (r, S')) : xM l yX9_w5 cX9_w5 5 (some .long) 1 22 G Ym [.int p0, .int p1, .int p2, .int p3, .int p4] S (xQl G Ym r S') := by
  refine x_start (own := RX9) (by decide +kernel) rfl (Nat.le_of_ble_eq_true rfl) ?_
  intro p e s m below meth c ls X hl hP hS
  obtain ⟨hx, hb, hml, hown, hts, hr, hlk, hK, hE, hJ⟩ := id X
  have hl : lv_has ls 5 [(0, .int p0), (1, .int p1), (2, .int p2), (3, .int p3), (4, .int p4)] := hl
  unfold mX9_w5 at hM
  refine lv_iload_n hx hb dX9_w5_0 rfl (lv_at hl 0 rfl) ?_
  refine lv_iload_n hx hb dX9_w5_1 rfl (lv_at hl 1 rfl) ?_
  refine lv_iload_n hx hb dX9_w5_2 rfl (lv_at hl 2 rfl) ?_
  obtain ⟨q1, eq1, hM⟩ := xb hM
  refine x_gol (x_runS (rest := []) X (kX9_w3 l G S p0 p1 p2 q1.1 q1.2  eq1) qw241 okX9_w3 ⟨Nat.le_of_ble_eq_true rfl, Nat.le_of_ble_eq_true rfl⟩ hP hS rfl hl.1 rfl (Nat.le_of_ble_eq_true rfl) dX9_w5_3) hS (fun H locs hP hS => ?_)
  refine lv_bipush (v := 8) hx hb dX9_w5_6 (by decide) ?_
  refine lv_lshl hx hb dX9_w5_8 rfl ?_
  refine lv_iload_n hx hb dX9_w5_9 rfl (lv_at hl 3 rfl) ?_
  refine lv_i2l hx hb dX9_w5_10 rfl ?_
  refine lv_lor hx hb dX9_w5_11 ?_
  refine lv_bipush (v := 8) hx hb dX9_w5_12 (by decide) ?_
  refine lv_lshl hx hb dX9_w5_14 rfl ?_
  refine lv_iload hx hb dX9_w5_15 (lv_at hl 4 rfl) ?_
  refine lv_i2l hx hb dX9_w5_17 rfl ?_
  refine lv_lor hx hb dX9_w5_18 ?_
  exact x_lret X hP hS hM dX9_w5_19

def mX9_w4 (S : xS) (p0 : Int32) (p1 : Int32) (p2 : Int32) (p3 : Int32) : Option (Int64 × xS) := (mX9_w3 S p0 p1 p2).bind fun q1 => some ((q1.1 <<< ((8 : Int32).toInt64 &&& 63)) ||| ((p3 : Int32).toInt64), q1.2)
set_option maxHeartbeats 4000000 in
set_option maxRecDepth 100000 in
theorem kX9_w4 (l : Launch) (G : xG) (S : xS) (p0 : Int32) (p1 : Int32) (p2 : Int32) (p3 : Int32) (r : Int64) (S' : xS) (hM : mX9_w4 S p0 p1 p2 p3 = some (r, S')) : xM l yX9_w4 cX9_w4 4 (some .long) 1 22 G Ym [.int p0, .int p1, .int p2, .int p3] S (xQl G Ym r S') := by
  refine x_start (own := RX9) (by decide +kernel) rfl (Nat.le_of_ble_eq_true rfl) ?_
  intro p e s m below meth c ls X hl hP hS
  obtain ⟨hx, hb, hml, hown, hts, hr, hlk, hK, hE, hJ⟩ := id X
  have hl : lv_has ls 4 [(0, .int p0), (1, .int p1), (2, .int p2), (3, .int p3)] := hl
  unfold mX9_w4 at hM
  refine lv_iload_n hx hb dX9_w4_0 rfl (lv_at hl 0 rfl) ?_
  refine lv_iload_n hx hb dX9_w4_1 rfl (lv_at hl 1 rfl) ?_
  refine lv_iload_n hx hb dX9_w4_2 rfl (lv_at hl 2 rfl) ?_
  obtain ⟨q1, eq1, hM⟩ := xb hM
  refine x_gol (x_runS (rest := []) X (kX9_w3 l G S p0 p1 p2 q1.1 q1.2  eq1) qw241 okX9_w3 ⟨Nat.le_of_ble_eq_true rfl, Nat.le_of_ble_eq_true rfl⟩ hP hS rfl hl.1 rfl (Nat.le_of_ble_eq_true rfl) dX9_w4_3) hS (fun H locs hP hS => ?_)
  refine lv_bipush (v := 8) hx hb dX9_w4_6 (by decide) ?_
  refine lv_lshl hx hb dX9_w4_8 rfl ?_
  refine lv_iload_n hx hb dX9_w4_9 rfl (lv_at hl 3 rfl) ?_
  refine lv_i2l hx hb dX9_w4_10 rfl ?_
  refine lv_lor hx hb dX9_w4_11 ?_
  exact x_lret X hP hS hM dX9_w4_12

def mX9_w6 (S : xS) (p0 : Int32) (p1 : Int32) (p2 : Int32) (p3 : Int32) (p4 : Int32) (p5 : Int32) : Option (Int64 × xS) := (mX9_w5 S p0 p1 p2 p3 p4).bind fun q1 => some ((q1.1 <<< ((8 : Int32).toInt64 &&& 63)) ||| ((p5 : Int32).toInt64), q1.2)
set_option maxHeartbeats 4000000 in
set_option maxRecDepth 100000 in
theorem kX9_w6 (l : Launch) (G : xG) (S : xS) (p0 : Int32) (p1 : Int32) (p2 : Int32) (p3 : Int32) (p4 : Int32) (p5 : Int32) (r : Int64) (S' : xS) (hM : mX9_w6 S p0 p1 p2 p3 p4 p5 = some (r, S')) : xM l yX9_w6 cX9_w6 6 (some .long) 2 46 G Ym [.int p0, .int p1, .int p2, .int p3, .int p4, .int p5] S (xQl G Ym r S') := by
  refine x_start (own := RX9) (by decide +kernel) rfl (Nat.le_of_ble_eq_true rfl) ?_
  intro p e s m below meth c ls X hl hP hS
  obtain ⟨hx, hb, hml, hown, hts, hr, hlk, hK, hE, hJ⟩ := id X
  have hl : lv_has ls 6 [(0, .int p0), (1, .int p1), (2, .int p2), (3, .int p3), (4, .int p4), (5, .int p5)] := hl
  unfold mX9_w6 at hM
  refine lv_iload_n hx hb dX9_w6_0 rfl (lv_at hl 0 rfl) ?_
  refine lv_iload_n hx hb dX9_w6_1 rfl (lv_at hl 1 rfl) ?_
  refine lv_iload_n hx hb dX9_w6_2 rfl (lv_at hl 2 rfl) ?_
  refine lv_iload_n hx hb dX9_w6_3 rfl (lv_at hl 3 rfl) ?_
  refine lv_iload hx hb dX9_w6_4 (lv_at hl 4 rfl) ?_
  obtain ⟨q1, eq1, hM⟩ := xb hM
  refine x_gol (x_runS (rest := []) X (kX9_w5 l G S p0 p1 p2 p3 p4 q1.1 q1.2  eq1) qw242 okX9_w5 ⟨Nat.le_of_ble_eq_true rfl, Nat.le_of_ble_eq_true rfl⟩ hP hS rfl hl.1 rfl (Nat.le_of_ble_eq_true rfl) dX9_w6_6) hS (fun H locs hP hS => ?_)
  refine lv_bipush (v := 8) hx hb dX9_w6_9 (by decide) ?_
  refine lv_lshl hx hb dX9_w6_11 rfl ?_
  refine lv_iload hx hb dX9_w6_12 (lv_at hl 5 rfl) ?_
  refine lv_i2l hx hb dX9_w6_14 rfl ?_
  refine lv_lor hx hb dX9_w6_15 ?_
  exact x_lret X hP hS hM dX9_w6_16

def mX9_isWord (S : xS) (h0 : Nat) (p1 : Int64) : Option (Int32 × xS) := if ((gI S h0 9) = 2 : Prop) then (if ((lg_cmp (gJ S h0 11) p1) = 0 : Prop) then (some (1, S)) else (some (0, S))) else (some (0, S))
set_option maxHeartbeats 4000000 in
set_option maxRecDepth 100000 in
theorem kX9_isWord (l : Launch) (G : xG) (S : xS) (h0 : Nat) (p1 : Int64) (r : Int32) (S' : xS) (hk0 : xk Ym h0 = 9) (hM : mX9_isWord S h0 p1 = some (r, S')) : xM l yX9_isWord cX9_isWord 3 (some .boolean) 0 0 G Ym [.ref (xad G h0), .long p1] S (xQi G Ym r S') := by
  refine x_start (own := RX9) (by decide +kernel) rfl (Nat.le_of_ble_eq_true rfl) ?_
  intro p e s m below meth c ls X hl hP hS
  obtain ⟨hx, hb, hml, hown, hts, hr, hlk, hK, hE, hJ⟩ := id X
  have hl : lv_has ls 3 [(0, .ref (xad G h0)), (1, .long p1)] := hl
  unfold mX9_isWord at hM
  refine lv_aload_n hx hb dX9_isWord_0 rfl (lv_at hl 0 rfl) ?_
  refine fgX9_9 X hP hk0 qw237 dX9_isWord_1 ?_
  refine lv_iconst (v := 2) hx hb dX9_isWord_4 (by decide) ?_
  refine lv_icmp_ne (tgt := 21) hx hb dX9_isWord_5 (by decide) (fun c1 => ?_) (fun c1 => ?_)
  · replace hM := (if_neg c1).symm.trans hM
    refine lv_iconst (v := 0) hx hb dX9_isWord_21 (by decide) ?_
    exact x_zret X hP hS (Or.inl rfl) hM dX9_isWord_22
  · replace hM := (if_pos c1).symm.trans hM
    refine lv_aload_n hx hb dX9_isWord_8 rfl (lv_at hl 0 rfl) ?_
    refine fgX9_11 X hP hk0 qw238 dX9_isWord_9 ?_
    refine lv_lload_n hx hb dX9_isWord_12 rfl (lv_at hl 1 rfl) ?_
    refine W.lcmp hx hb dX9_isWord_13 ?_
    refine lv_if_ne (tgt := 21) hx hb dX9_isWord_14 (by decide) (fun c2 => ?_) (fun c2 => ?_)
    · replace hM := (if_neg c2).symm.trans hM
      refine lv_iconst (v := 0) hx hb dX9_isWord_21 (by decide) ?_
      exact x_zret X hP hS (Or.inl rfl) hM dX9_isWord_22
    · replace hM := (if_pos c2).symm.trans hM
      refine lv_iconst (v := 1) hx hb dX9_isWord_17 (by decide) ?_
      refine lv_goto (tgt := 22) hx hb dX9_isWord_18 (by decide) ?_
      exact x_zret X hP hS (Or.inr rfl) hM dX9_isWord_22

def mX9_emit (S : xS) (h0 : Nat) (p1 : Int32) (p2 : Int32) : Option xS := (dO Ym (gR S h0 2) 10).bind fun d1 => (sI Ym S d1 (((gI S h0 12) + 75) + (2 * (gI S h0 14))) p1).bind fun S2 => (dO Ym (gR S2 h0 2) 10).bind fun d3 => (sI Ym S2 d3 ((((gI S2 h0 12) + 75) + (2 * (gI S2 h0 14))) + 1) p2).bind fun S4 => xlet (pI S4 h0 14 ((gI S4 h0 14) + 1)) fun S5 => some S5
set_option maxHeartbeats 4000000 in
set_option maxRecDepth 100000 in
theorem kX9_emit (l : Launch) (G : xG) (S : xS) (h0 : Nat) (p1 : Int32) (p2 : Int32) (S' : xS) (hk0 : xk Ym h0 = 9) (hM : mX9_emit S h0 p1 p2 = some S') : xM l yX9_emit cX9_emit 3 none 0 0 G Ym [.ref (xad G h0), .int p1, .int p2] S (xQv G Ym S') := by
  refine x_start (own := RX9) (by decide +kernel) rfl (Nat.le_of_ble_eq_true rfl) ?_
  intro p e s m below meth c ls X hl hP hS
  obtain ⟨hx, hb, hml, hown, hts, hr, hlk, hK, hE, hJ⟩ := id X
  have hl : lv_has ls 3 [(0, .ref (xad G h0)), (1, .int p1), (2, .int p2)] := hl
  unfold mX9_emit at hM
  refine lv_aload_n hx hb dX9_emit_0 rfl (lv_at hl 0 rfl) ?_
  obtain ⟨d1, ed1, hM⟩ := xb hM
  refine fdX9_2 X hP hk0 qw243 dX9_emit_1 ed1 ?_
  refine lv_aload_n hx hb dX9_emit_4 rfl (lv_at hl 0 rfl) ?_
  refine fgX9_12 X hP hk0 qw244 dX9_emit_5 ?_
  refine lv_bipush (v := 75) hx hb dX9_emit_8 (by decide) ?_
  refine lv_iadd hx hb dX9_emit_10 ?_
  refine lv_iconst (v := 2) hx hb dX9_emit_11 (by decide) ?_
  refine lv_aload_n hx hb dX9_emit_12 rfl (lv_at hl 0 rfl) ?_
  refine fgX9_14 X hP hk0 qw245 dX9_emit_13 ?_
  refine lv_imul hx hb dX9_emit_16 ?_
  refine lv_iadd hx hb dX9_emit_17 ?_
  refine lv_iload_n hx hb dX9_emit_18 rfl (lv_at hl 1 rfl) ?_
  obtain ⟨S2, eS2, hM⟩ := xb hM
  refine x_iast X hP hS (dO_k ed1) eS2 dX9_emit_19 (fun H locs hP hS => ?_)
  refine lv_aload_n hx hb dX9_emit_20 rfl (lv_at hl 0 rfl) ?_
  obtain ⟨d3, ed3, hM⟩ := xb hM
  refine fdX9_2 X hP hk0 qw243 dX9_emit_21 ed3 ?_
  refine lv_aload_n hx hb dX9_emit_24 rfl (lv_at hl 0 rfl) ?_
  refine fgX9_12 X hP hk0 qw244 dX9_emit_25 ?_
  refine lv_bipush (v := 75) hx hb dX9_emit_28 (by decide) ?_
  refine lv_iadd hx hb dX9_emit_30 ?_
  refine lv_iconst (v := 2) hx hb dX9_emit_31 (by decide) ?_
  refine lv_aload_n hx hb dX9_emit_32 rfl (lv_at hl 0 rfl) ?_
  refine fgX9_14 X hP hk0 qw245 dX9_emit_33 ?_
  refine lv_imul hx hb dX9_emit_36 ?_
  refine lv_iadd hx hb dX9_emit_37 ?_
  refine lv_iconst (v := 1) hx hb dX9_emit_38 (by decide) ?_
  refine lv_iadd hx hb dX9_emit_39 ?_
  refine lv_iload_n hx hb dX9_emit_40 rfl (lv_at hl 2 rfl) ?_
  obtain ⟨S4, eS4, hM⟩ := xb hM
  refine x_iast X hP hS (dO_k ed3) eS4 dX9_emit_41 (fun H locs hP hS => ?_)
  refine lv_aload_n hx hb dX9_emit_42 rfl (lv_at hl 0 rfl) ?_
  refine lv_dup hx hb dX9_emit_43 rfl ?_
  refine fgX9_14 X hP hk0 qw245 dX9_emit_44 ?_
  refine lv_iconst (v := 1) hx hb dX9_emit_47 (by decide) ?_
  refine lv_iadd hx hb dX9_emit_48 ?_
  obtain ⟨S5, eS5, hM⟩ := xlet_ex hM
  refine fpX9_14 X hP hS hk0 qw245 dX9_emit_49 eS5 (fun H locs hP hS => ?_)
  exact x_vret X hP hS hM dX9_emit_52

def mX9_push (S : xS) (h0 : Nat) (p1 : Int32) : Option xS := (dO Ym (gR S h0 16) 10).bind fun d1 => (sI Ym S d1 (gI S h0 17) p1).bind fun S2 => xlet (pI S2 h0 17 ((gI S2 h0 17) + 1)) fun S3 => some S3
set_option maxHeartbeats 4000000 in
set_option maxRecDepth 100000 in
theorem kX9_push (l : Launch) (G : xG) (S : xS) (h0 : Nat) (p1 : Int32) (S' : xS) (hk0 : xk Ym h0 = 9) (hM : mX9_push S h0 p1 = some S') : xM l yX9_push cX9_push 2 none 0 0 G Ym [.ref (xad G h0), .int p1] S (xQv G Ym S') := by
  refine x_start (own := RX9) (by decide +kernel) rfl (Nat.le_of_ble_eq_true rfl) ?_
  intro p e s m below meth c ls X hl hP hS
  obtain ⟨hx, hb, hml, hown, hts, hr, hlk, hK, hE, hJ⟩ := id X
  have hl : lv_has ls 2 [(0, .ref (xad G h0)), (1, .int p1)] := hl
  unfold mX9_push at hM
  refine lv_aload_n hx hb dX9_push_0 rfl (lv_at hl 0 rfl) ?_
  obtain ⟨d1, ed1, hM⟩ := xb hM
  refine fdX9_16 X hP hk0 qw246 dX9_push_1 ed1 ?_
  refine lv_aload_n hx hb dX9_push_4 rfl (lv_at hl 0 rfl) ?_
  refine fgX9_17 X hP hk0 qw247 dX9_push_5 ?_
  refine lv_iload_n hx hb dX9_push_8 rfl (lv_at hl 1 rfl) ?_
  obtain ⟨S2, eS2, hM⟩ := xb hM
  refine x_iast X hP hS (dO_k ed1) eS2 dX9_push_9 (fun H locs hP hS => ?_)
  refine lv_aload_n hx hb dX9_push_10 rfl (lv_at hl 0 rfl) ?_
  refine lv_dup hx hb dX9_push_11 rfl ?_
  refine fgX9_17 X hP hk0 qw247 dX9_push_12 ?_
  refine lv_iconst (v := 1) hx hb dX9_push_15 (by decide) ?_
  refine lv_iadd hx hb dX9_push_16 ?_
  obtain ⟨S3, eS3, hM⟩ := xlet_ex hM
  refine fpX9_17 X hP hS hk0 qw247 dX9_push_17 eS3 (fun H locs hP hS => ?_)
  exact x_vret X hP hS hM dX9_push_20

def mX9_rank (S : xS) (p0 : Int32) : Option (Int32 × xS) := if (p0 < 40 : Prop) then (if (p0 = 22 : Prop) then (some (1, S)) else (if (p0 = 21 : Prop) then (some (2, S)) else (if (p0 = 20 : Prop) then (some (3, S)) else (if (p0 < 10 : Prop) then (if (p0 = 2 : Prop) then (some (7, S)) else (if (p0 < 5 : Prop) then (some (5, S)) else (some (6, S)))) else (some (4, S)))))) else (some (0, S))
set_option maxHeartbeats 4000000 in
set_option maxRecDepth 100000 in
theorem kX9_rank (l : Launch) (G : xG) (S : xS) (p0 : Int32) (r : Int32) (S' : xS) (hM : mX9_rank S p0 = some (r, S')) : xM l yX9_rank cX9_rank 1 (some .int) 0 0 G Ym [.int p0] S (xQi G Ym r S') := by
  refine x_start (own := RX9) (by decide +kernel) rfl (Nat.le_of_ble_eq_true rfl) ?_
  intro p e s m below meth c ls X hl hP hS
  obtain ⟨hx, hb, hml, hown, hts, hr, hlk, hK, hE, hJ⟩ := id X
  have hl : lv_has ls 1 [(0, .int p0)] := hl
  unfold mX9_rank at hM
  refine lv_iload_n hx hb dX9_rank_0 rfl (lv_at hl 0 rfl) ?_
  refine lv_bipush (v := 40) hx hb dX9_rank_1 (by decide) ?_
  refine lv_icmp_lt (tgt := 10) hx hb dX9_rank_3 (by decide) (fun c1 => ?_) (fun c1 => ?_)
  · replace hM := (if_pos c1).symm.trans hM
    refine lv_iload_n hx hb dX9_rank_10 rfl (lv_at hl 0 rfl) ?_
    refine lv_bipush (v := 22) hx hb dX9_rank_11 (by decide) ?_
    refine lv_icmp_ne (tgt := 20) hx hb dX9_rank_13 (by decide) (fun c2 => ?_) (fun c2 => ?_)
    · replace hM := (if_neg c2).symm.trans hM
      refine lv_iload_n hx hb dX9_rank_20 rfl (lv_at hl 0 rfl) ?_
      refine lv_bipush (v := 21) hx hb dX9_rank_21 (by decide) ?_
      refine lv_icmp_ne (tgt := 30) hx hb dX9_rank_23 (by decide) (fun c3 => ?_) (fun c3 => ?_)
      · replace hM := (if_neg c3).symm.trans hM
        refine lv_iload_n hx hb dX9_rank_30 rfl (lv_at hl 0 rfl) ?_
        refine lv_bipush (v := 20) hx hb dX9_rank_31 (by decide) ?_
        refine lv_icmp_ne (tgt := 40) hx hb dX9_rank_33 (by decide) (fun c4 => ?_) (fun c4 => ?_)
        · replace hM := (if_neg c4).symm.trans hM
          refine lv_iload_n hx hb dX9_rank_40 rfl (lv_at hl 0 rfl) ?_
          refine lv_bipush (v := 10) hx hb dX9_rank_41 (by decide) ?_
          refine lv_icmp_lt (tgt := 50) hx hb dX9_rank_43 (by decide) (fun c5 => ?_) (fun c5 => ?_)
          · replace hM := (if_pos c5).symm.trans hM
            refine lv_iload_n hx hb dX9_rank_50 rfl (lv_at hl 0 rfl) ?_
            refine lv_iconst (v := 2) hx hb dX9_rank_51 (by decide) ?_
            refine lv_icmp_ne (tgt := 60) hx hb dX9_rank_52 (by decide) (fun c6 => ?_) (fun c6 => ?_)
            · replace hM := (if_neg c6).symm.trans hM
              refine lv_iload_n hx hb dX9_rank_60 rfl (lv_at hl 0 rfl) ?_
              refine lv_iconst (v := 5) hx hb dX9_rank_61 (by decide) ?_
              refine lv_icmp_lt (tgt := 70) hx hb dX9_rank_62 (by decide) (fun c7 => ?_) (fun c7 => ?_)
              · replace hM := (if_pos c7).symm.trans hM
                refine lv_iconst (v := 5) hx hb dX9_rank_70 (by decide) ?_
                exact x_iret X hP hS hM dX9_rank_71
              · replace hM := (if_neg c7).symm.trans hM
                refine lv_bipush (v := 6) hx hb dX9_rank_65 (by decide) ?_
                refine lv_goto (tgt := 71) hx hb dX9_rank_67 (by decide) ?_
                exact x_iret X hP hS hM dX9_rank_71
            · replace hM := (if_pos c6).symm.trans hM
              refine lv_bipush (v := 7) hx hb dX9_rank_55 (by decide) ?_
              refine lv_goto (tgt := 71) hx hb dX9_rank_57 (by decide) ?_
              exact x_iret X hP hS hM dX9_rank_71
          · replace hM := (if_neg c5).symm.trans hM
            refine lv_iconst (v := 4) hx hb dX9_rank_46 (by decide) ?_
            refine lv_goto (tgt := 71) hx hb dX9_rank_47 (by decide) ?_
            exact x_iret X hP hS hM dX9_rank_71
        · replace hM := (if_pos c4).symm.trans hM
          refine lv_iconst (v := 3) hx hb dX9_rank_36 (by decide) ?_
          refine lv_goto (tgt := 71) hx hb dX9_rank_37 (by decide) ?_
          exact x_iret X hP hS hM dX9_rank_71
      · replace hM := (if_pos c3).symm.trans hM
        refine lv_iconst (v := 2) hx hb dX9_rank_26 (by decide) ?_
        refine lv_goto (tgt := 71) hx hb dX9_rank_27 (by decide) ?_
        exact x_iret X hP hS hM dX9_rank_71
    · replace hM := (if_pos c2).symm.trans hM
      refine lv_iconst (v := 1) hx hb dX9_rank_16 (by decide) ?_
      refine lv_goto (tgt := 71) hx hb dX9_rank_17 (by decide) ?_
      exact x_iret X hP hS hM dX9_rank_71
  · replace hM := (if_neg c1).symm.trans hM
    refine lv_iconst (v := 0) hx hb dX9_rank_6 (by decide) ?_
    refine lv_goto (tgt := 71) hx hb dX9_rank_7 (by decide) ?_
    exact x_iret X hP hS hM dX9_rank_71

def jX9_settle_76 (k0 : xS → Nat → Int32 → Option xS) (S : xS) (h0 : Nat) (v1 : Int32) : Option xS := xlet (pI S h0 18 ((gI S h0 18) - 1)) fun S1 => k0 S1 h0 v1
set_option maxHeartbeats 4000000 in
set_option maxRecDepth 100000 in
theorem wX9_settle_76 {p : Program} {l : Launch} {e : Env} {s : State} {m : MethodId} {args : Array Value} {below : List Frame} {meth : Method} {c : Code} {G : xG} {S' : xS} (X : xX p s m args meth c cX9_settle 2 none RX9 G Ym) (k0 : xS → Nat → Int32 → Option xS) (hh0 : ∀ (S : xS) (h0 : Nat) (v1 : Int32) (H : Heap) (locs : List Loc) (ls : Array Slot), k0 S h0 v1 = some S' → xk Ym h0 = 9 → xP G Ym S H → va_S (xA G Ym) s.heap H locs → lv_has ls 2 [(0, .ref (xad G h0)), (1, .int v1)] → W p l e (xr 1 22) s m args below meth c H locs 0 0 (MQ below (xQv G Ym S') args s 0 0 (xA G Ym)) (F0 m 0 ls [])) : ∀ (S : xS) (h0 : Nat) (v1 : Int32) (H : Heap) (locs : List Loc) (ls : Array Slot), jX9_settle_76 k0 S h0 v1 = some S' → xk Ym h0 = 9 → xP G Ym S H → va_S (xA G Ym) s.heap H locs → lv_has ls 2 [(0, .ref (xad G h0)), (1, .int v1)] → W p l e (xr 1 22) s m args below meth c H locs 0 0 (MQ below (xQv G Ym S') args s 0 0 (xA G Ym)) (F0 m 76 ls []) := by
  obtain ⟨hx, hb, hml, hown, hts, hr, hlk, hK, hE, hJ⟩ := id X
  intro S h0 v1 H locs ls hM hk0 hP hS hl
  unfold jX9_settle_76 at hM
  refine lv_aload_n hx hb dX9_settle_76 rfl (lv_at hl 0 rfl) ?_
  refine lv_dup hx hb dX9_settle_77 rfl ?_
  refine fgX9_18 X hP hk0 qw250 dX9_settle_78 ?_
  refine lv_iconst (v := 1) hx hb dX9_settle_81 (by decide) ?_
  refine lv_isub hx hb dX9_settle_82 ?_
  obtain ⟨S1, eS1, hM⟩ := xlet_ex hM
  refine fpX9_18 X hP hS hk0 qw250 dX9_settle_83 eS1 (fun H locs hP hS => ?_)
  refine lv_goto (tgt := 0) hx hb dX9_settle_86 (by decide) ?_
  exact hh0 S1 h0 v1 _ _ _ hM hk0 hP hS (lv_sub hl [0, 1] rfl)
def lX9_settle_0 : Nat → xS → Nat → Int32 → Option xS
  | 0, _, _, _ => none
  | n + 1, S, h0, v1 => if ((gI S h0 17) ≤ 0 : Prop) then (some S) else ((dO Ym (gR S h0 16) 10).bind fun d2 => (aI Ym S d2 ((gI S h0 17) - 1)).bind fun x3 => (mX9_rank S x3).bind fun q4 => if (q4.1 < v1 : Prop) then (some q4.2) else (xlet (pI q4.2 h0 17 ((gI q4.2 h0 17) - 1)) fun S6 => (dO Ym (gR S6 h0 16) 10).bind fun d7 => (aI Ym S6 d7 (gI S6 h0 17)).bind fun x8 => (mX9_emit S6 h0 x8 0).bind fun S9 => (dO Ym (gR S9 h0 16) 10).bind fun d10 => (aI Ym S9 d10 (gI S9 h0 17)).bind fun x11 => if (x11 = 2 : Prop) then (jX9_settle_76 (lX9_settle_0  n) S9 h0 v1) else ((dO Ym (gR S9 h0 16) 10).bind fun d13 => (aI Ym S9 d13 (gI S9 h0 17)).bind fun x14 => if (x14 = 20 : Prop) then (jX9_settle_76 (lX9_settle_0  n) S9 h0 v1) else (lX9_settle_0 n S9 h0 v1))))
set_option maxHeartbeats 4000000 in
set_option maxRecDepth 100000 in
theorem wX9_settle_0 {p : Program} {l : Launch} {e : Env} {s : State} {m : MethodId} {args : Array Value} {below : List Frame} {meth : Method} {c : Code} {G : xG} {S' : xS} (X : xX p s m args meth c cX9_settle 2 none RX9 G Ym) : ∀ (n : Nat), ∀ (S : xS) (h0 : Nat) (v1 : Int32) (H : Heap) (locs : List Loc) (ls : Array Slot), lX9_settle_0  n S h0 v1 = some S' → xk Ym h0 = 9 → xP G Ym S H → va_S (xA G Ym) s.heap H locs → lv_has ls 2 [(0, .ref (xad G h0)), (1, .int v1)] → W p l e (xr 1 22) s m args below meth c H locs 0 0 (MQ below (xQv G Ym S') args s 0 0 (xA G Ym)) (F0 m 0 ls []) := by
  obtain ⟨hx, hb, hml, hown, hts, hr, hlk, hK, hE, hJ⟩ := id X
  intro n
  induction n with
  | zero =>
    intro S h0 v1 H locs ls hM
    rw [lX9_settle_0.eq_1] at hM
    cases hM
  | succ n ih =>
    intro S h0 v1 H locs ls hM hk0 hP hS hl
    rw [lX9_settle_0.eq_2] at hM
    refine lv_aload_n hx hb dX9_settle_0 rfl (lv_at hl 0 rfl) ?_
    refine fgX9_17 X hP hk0 qw247 dX9_settle_1 ?_
    refine lv_if_le (tgt := 89) hx hb dX9_settle_4 (by decide) (fun c1 => ?_) (fun c1 => ?_)
    · replace hM := (if_pos c1).symm.trans hM
      exact x_vret X hP hS hM dX9_settle_89
    · replace hM := (if_neg c1).symm.trans hM
      refine lv_aload_n hx hb dX9_settle_7 rfl (lv_at hl 0 rfl) ?_
      obtain ⟨d2, ed2, hM⟩ := xb hM
      refine fdX9_16 X hP hk0 qw246 dX9_settle_8 ed2 ?_
      refine lv_aload_n hx hb dX9_settle_11 rfl (lv_at hl 0 rfl) ?_
      refine fgX9_17 X hP hk0 qw247 dX9_settle_12 ?_
      refine lv_iconst (v := 1) hx hb dX9_settle_15 (by decide) ?_
      refine lv_isub hx hb dX9_settle_16 ?_
      obtain ⟨x3, ex3, hM⟩ := xb hM
      refine x_iald X hP (dO_k ed2) ex3 dX9_settle_17 ?_
      obtain ⟨q4, eq4, hM⟩ := xb hM
      refine x_goi (x_runS (rest := []) X (kX9_rank l G S x3 q4.1 q4.2  eq4) qw248 okX9_rank ⟨Nat.le_of_ble_eq_true rfl, Nat.le_of_ble_eq_true rfl⟩ hP hS rfl hl.1 rfl (Nat.le_of_ble_eq_true rfl) dX9_settle_18) hS (fun H locs hP hS => ?_)
      refine lv_iload_n hx hb dX9_settle_21 rfl (lv_at hl 1 rfl) ?_
      refine lv_icmp_lt (tgt := 89) hx hb dX9_settle_22 (by decide) (fun c5 => ?_) (fun c5 => ?_)
      · replace hM := (if_pos c5).symm.trans hM
        exact x_vret X hP hS hM dX9_settle_89
      · replace hM := (if_neg c5).symm.trans hM
        refine lv_aload_n hx hb dX9_settle_25 rfl (lv_at hl 0 rfl) ?_
        refine lv_dup hx hb dX9_settle_26 rfl ?_
        refine fgX9_17 X hP hk0 qw247 dX9_settle_27 ?_
        refine lv_iconst (v := 1) hx hb dX9_settle_30 (by decide) ?_
        refine lv_isub hx hb dX9_settle_31 ?_
        obtain ⟨S6, eS6, hM⟩ := xlet_ex hM
        refine fpX9_17 X hP hS hk0 qw247 dX9_settle_32 eS6 (fun H locs hP hS => ?_)
        refine lv_aload_n hx hb dX9_settle_35 rfl (lv_at hl 0 rfl) ?_
        refine lv_aload_n hx hb dX9_settle_36 rfl (lv_at hl 0 rfl) ?_
        obtain ⟨d7, ed7, hM⟩ := xb hM
        refine fdX9_16 X hP hk0 qw246 dX9_settle_37 ed7 ?_
        refine lv_aload_n hx hb dX9_settle_40 rfl (lv_at hl 0 rfl) ?_
        refine fgX9_17 X hP hk0 qw247 dX9_settle_41 ?_
        obtain ⟨x8, ex8, hM⟩ := xb hM
        refine x_iald X hP (dO_k ed7) ex8 dX9_settle_44 ?_
        refine lv_iconst (v := 0) hx hb dX9_settle_45 (by decide) ?_
        obtain ⟨S9, eS9, hM⟩ := xb hM
        refine x_gov (x_runV (rest := []) X (kX9_emit l G S6 h0 x8 0 S9 hk0 eS9) qw249 okX9_emit ⟨Nat.le_of_ble_eq_true rfl, Nat.le_of_ble_eq_true rfl⟩ hk0 (by decide) rfl hP hS rfl hl.1 rfl (Nat.le_of_ble_eq_true rfl) dX9_settle_46) hS (fun H locs hP hS => ?_)
        refine lv_aload_n hx hb dX9_settle_49 rfl (lv_at hl 0 rfl) ?_
        obtain ⟨d10, ed10, hM⟩ := xb hM
        refine fdX9_16 X hP hk0 qw246 dX9_settle_50 ed10 ?_
        refine lv_aload_n hx hb dX9_settle_53 rfl (lv_at hl 0 rfl) ?_
        refine fgX9_17 X hP hk0 qw247 dX9_settle_54 ?_
        obtain ⟨x11, ex11, hM⟩ := xb hM
        refine x_iald X hP (dO_k ed10) ex11 dX9_settle_57 ?_
        refine lv_iconst (v := 2) hx hb dX9_settle_58 (by decide) ?_
        refine lv_icmp_eq (tgt := 76) hx hb dX9_settle_59 (by decide) (fun c12 => ?_) (fun c12 => ?_)
        · replace hM := (if_pos c12).symm.trans hM
          exact wX9_settle_76 X (lX9_settle_0  n) ih S9 h0 v1 _ _ _ hM hk0 hP hS (lv_sub hl [0, 1] rfl)
        · replace hM := (if_neg c12).symm.trans hM
          refine lv_aload_n hx hb dX9_settle_62 rfl (lv_at hl 0 rfl) ?_
          obtain ⟨d13, ed13, hM⟩ := xb hM
          refine fdX9_16 X hP hk0 qw246 dX9_settle_63 ed13 ?_
          refine lv_aload_n hx hb dX9_settle_66 rfl (lv_at hl 0 rfl) ?_
          refine fgX9_17 X hP hk0 qw247 dX9_settle_67 ?_
          obtain ⟨x14, ex14, hM⟩ := xb hM
          refine x_iald X hP (dO_k ed13) ex14 dX9_settle_70 ?_
          refine lv_bipush (v := 20) hx hb dX9_settle_71 (by decide) ?_
          refine lv_icmp_ne (tgt := 0) hx hb dX9_settle_73 (by decide) (fun c15 => ?_) (fun c15 => ?_)
          · replace hM := (if_neg c15).symm.trans hM
            exact ih S9 h0 v1 _ _ _ hM hk0 hP hS (lv_sub hl [0, 1] rfl)
          · replace hM := (if_pos c15).symm.trans hM
            exact wX9_settle_76 X (lX9_settle_0  n) ih S9 h0 v1 _ _ _ hM hk0 hP hS (lv_sub hl [0, 1] rfl)
def mX9_settle (S : xS) (h0 : Nat) (p1 : Int32) : Option xS := lX9_settle_0  5000 S h0 p1
set_option maxHeartbeats 4000000 in
set_option maxRecDepth 100000 in
theorem kX9_settle (l : Launch) (G : xG) (S : xS) (h0 : Nat) (p1 : Int32) (S' : xS) (hk0 : xk Ym h0 = 9) (hM : mX9_settle S h0 p1 = some S') : xM l yX9_settle cX9_settle 2 none 1 22 G Ym [.ref (xad G h0), .int p1] S (xQv G Ym S') := by
  refine x_start (own := RX9) (by decide +kernel) rfl (Nat.le_of_ble_eq_true rfl) ?_
  intro p e s m below meth c ls X hl hP hS
  obtain ⟨hx, hb, hml, hown, hts, hr, hlk, hK, hE, hJ⟩ := id X
  have hl : lv_has ls 2 [(0, .ref (xad G h0)), (1, .int p1)] := hl
  unfold mX9_settle at hM
  exact wX9_settle_0 X  5000 S h0 p1 _ _ _ hM hk0 hP hS (lv_sub hl [0, 1] rfl)

def mX9_whole (S : xS) (h0 : Nat) : Option xS := xlet (pI S h0 19 1) fun S1 => (mX9_settle S1 h0 7).bind fun S2 => some S2
set_option maxHeartbeats 4000000 in
set_option maxRecDepth 100000 in
theorem kX9_whole (l : Launch) (G : xG) (S : xS) (h0 : Nat) (S' : xS) (hk0 : xk Ym h0 = 9) (hM : mX9_whole S h0 = some S') : xM l yX9_whole cX9_whole 1 none 2 43 G Ym [.ref (xad G h0)] S (xQv G Ym S') := by
  refine x_start (own := RX9) (by decide +kernel) rfl (Nat.le_of_ble_eq_true rfl) ?_
  intro p e s m below meth c ls X hl hP hS
  obtain ⟨hx, hb, hml, hown, hts, hr, hlk, hK, hE, hJ⟩ := id X
  have hl : lv_has ls 1 [(0, .ref (xad G h0))] := hl
  unfold mX9_whole at hM
  refine lv_aload_n hx hb dX9_whole_0 rfl (lv_at hl 0 rfl) ?_
  refine lv_iconst (v := 1) hx hb dX9_whole_1 (by decide) ?_
  obtain ⟨S1, eS1, hM⟩ := xlet_ex hM
  refine fpX9_19 X hP hS (Or.inr rfl) hk0 qw251 dX9_whole_2 eS1 (fun H locs hP hS => ?_)
  refine lv_aload_n hx hb dX9_whole_5 rfl (lv_at hl 0 rfl) ?_
  refine lv_bipush (v := 7) hx hb dX9_whole_6 (by decide) ?_
  obtain ⟨S2, eS2, hM⟩ := xb hM
  refine x_gov (x_runV (rest := []) X (kX9_settle l G S1 h0 7 S2 hk0 eS2) qw252 okX9_settle ⟨Nat.le_of_ble_eq_true rfl, Nat.le_of_ble_eq_true rfl⟩ hk0 (by decide) rfl hP hS rfl hl.1 rfl (Nat.le_of_ble_eq_true rfl) dX9_whole_8) hS (fun H locs hP hS => ?_)
  exact x_vret X hP hS hM dX9_whole_11

def lX9_marker_7 : Nat → xS → Nat → Int32 → Option (Int32 × xS)
  | 0, _, _, _ => none
  | n + 1, S, h0, v1 => if (v1 < 0 : Prop) then (some (v1, S)) else ((dO Ym (gR S h0 16) 10).bind fun d2 => (aI Ym S d2 v1).bind fun x3 => if (40 ≤ x3 : Prop) then (some (v1, S)) else (lX9_marker_7 n S h0 (v1 + (-1))))
set_option maxHeartbeats 4000000 in
set_option maxRecDepth 100000 in
theorem wX9_marker_7 {p : Program} {l : Launch} {e : Env} {s : State} {m : MethodId} {args : Array Value} {below : List Frame} {meth : Method} {c : Code} {G : xG} {r : Int32} {S' : xS} (X : xX p s m args meth c cX9_marker 2 (some .int) RX9 G Ym) : ∀ (n : Nat), ∀ (S : xS) (h0 : Nat) (v1 : Int32) (H : Heap) (locs : List Loc) (ls : Array Slot), lX9_marker_7  n S h0 v1 = some (r, S') → xk Ym h0 = 9 → xP G Ym S H → va_S (xA G Ym) s.heap H locs → lv_has ls 2 [(0, .ref (xad G h0)), (1, .int v1)] → W p l e (xr 0 0) s m args below meth c H locs 0 0 (MQ below (xQi G Ym r S') args s 0 0 (xA G Ym)) (F0 m 7 ls []) := by
  obtain ⟨hx, hb, hml, hown, hts, hr, hlk, hK, hE, hJ⟩ := id X
  intro n
  induction n with
  | zero =>
    intro S h0 v1 H locs ls hM
    rw [lX9_marker_7.eq_1] at hM
    cases hM
  | succ n ih =>
    intro S h0 v1 H locs ls hM hk0 hP hS hl
    rw [lX9_marker_7.eq_2] at hM
    refine lv_iload_n hx hb dX9_marker_7 rfl (lv_at hl 1 rfl) ?_
    refine lv_if_lt (tgt := 28) hx hb dX9_marker_8 (by decide) (fun c1 => ?_) (fun c1 => ?_)
    · replace hM := (if_pos c1).symm.trans hM
      refine lv_iload_n hx hb dX9_marker_28 rfl (lv_at hl 1 rfl) ?_
      exact x_iret X hP hS hM dX9_marker_29
    · replace hM := (if_neg c1).symm.trans hM
      refine lv_aload_n hx hb dX9_marker_11 rfl (lv_at hl 0 rfl) ?_
      obtain ⟨d2, ed2, hM⟩ := xb hM
      refine fdX9_16 X hP hk0 qw246 dX9_marker_12 ed2 ?_
      refine lv_iload_n hx hb dX9_marker_15 rfl (lv_at hl 1 rfl) ?_
      obtain ⟨x3, ex3, hM⟩ := xb hM
      refine x_iald X hP (dO_k ed2) ex3 dX9_marker_16 ?_
      refine lv_bipush (v := 40) hx hb dX9_marker_17 (by decide) ?_
      refine lv_icmp_ge (tgt := 28) hx hb dX9_marker_19 (by decide) (fun c4 => ?_) (fun c4 => ?_)
      · replace hM := (if_pos c4).symm.trans hM
        refine lv_iload_n hx hb dX9_marker_28 rfl (lv_at hl 1 rfl) ?_
        exact x_iret X hP hS hM dX9_marker_29
      · replace hM := (if_neg c4).symm.trans hM
        refine lv_iinc (v := v1 + (-1)) (lv' := [(1, .int (v1 + (-1))), (0, .ref (xad G h0))]) hx hb dX9_marker_22 hl (k := 1) rfl (by first | rfl | exact congrArg (fun z => v1 + z) (by decide)) (by decide) rfl (fun ls hl => ?_)
        refine lv_goto (tgt := 7) hx hb dX9_marker_25 (by decide) ?_
        exact ih S h0 (v1 + (-1)) _ _ _ hM hk0 hP hS (lv_sub hl [1, 0] rfl)
def mX9_marker (S : xS) (h0 : Nat) : Option (Int32 × xS) := lX9_marker_7  5000 S h0 ((gI S h0 17) - 1)
set_option maxHeartbeats 4000000 in
set_option maxRecDepth 100000 in
theorem kX9_marker (l : Launch) (G : xG) (S : xS) (h0 : Nat) (r : Int32) (S' : xS) (hk0 : xk Ym h0 = 9) (hM : mX9_marker S h0 = some (r, S')) : xM l yX9_marker cX9_marker 2 (some .int) 0 0 G Ym [.ref (xad G h0)] S (xQi G Ym r S') := by
  refine x_start (own := RX9) (by decide +kernel) rfl (Nat.le_of_ble_eq_true rfl) ?_
  intro p e s m below meth c ls X hl hP hS
  obtain ⟨hx, hb, hml, hown, hts, hr, hlk, hK, hE, hJ⟩ := id X
  have hl : lv_has ls 2 [(0, .ref (xad G h0))] := hl
  unfold mX9_marker at hM
  refine lv_aload_n hx hb dX9_marker_0 rfl (lv_at hl 0 rfl) ?_
  refine fgX9_17 X hP hk0 qw247 dX9_marker_1 ?_
  refine lv_iconst (v := 1) hx hb dX9_marker_4 (by decide) ?_
  refine lv_isub hx hb dX9_marker_5 ?_
  refine lv_istore_n (lv' := [(1, .int ((gI S h0 17) - 1)), (0, .ref (xad G h0))]) hx hb dX9_marker_6 rfl hl (by decide) rfl (fun ls hl => ?_)
  exact wX9_marker_7 X  5000 S h0 ((gI S h0 17) - 1) _ _ _ hM hk0 hP hS (lv_sub hl [1, 0] rfl)

def mX9_kindOpen (S : xS) (h0 : Nat) (p1 : Int32) : Option (Int32 × xS) := (mX9_marker S h0).bind fun q1 => if (q1.1 < 0 : Prop) then (if (p1 = 0 : Prop) then (some (40, q1.2)) else (some (41, q1.2))) else ((dO Ym (gR q1.2 h0 16) 10).bind fun d4 => (aI Ym q1.2 d4 q1.1).bind fun x5 => some (x5, q1.2))
set_option maxHeartbeats 4000000 in
set_option maxRecDepth 100000 in
theorem kX9_kindOpen (l : Launch) (G : xG) (S : xS) (h0 : Nat) (p1 : Int32) (r : Int32) (S' : xS) (hk0 : xk Ym h0 = 9) (hM : mX9_kindOpen S h0 p1 = some (r, S')) : xM l yX9_kindOpen cX9_kindOpen 3 (some .int) 1 21 G Ym [.ref (xad G h0), .int p1] S (xQi G Ym r S') := by
  refine x_start (own := RX9) (by decide +kernel) rfl (Nat.le_of_ble_eq_true rfl) ?_
  intro p e s m below meth c ls X hl hP hS
  obtain ⟨hx, hb, hml, hown, hts, hr, hlk, hK, hE, hJ⟩ := id X
  have hl : lv_has ls 3 [(0, .ref (xad G h0)), (1, .int p1)] := hl
  unfold mX9_kindOpen at hM
  refine lv_aload_n hx hb dX9_kindOpen_0 rfl (lv_at hl 0 rfl) ?_
  obtain ⟨q1, eq1, hM⟩ := xb hM
  refine x_goi (x_runV (rest := []) X (kX9_marker l G S h0 q1.1 q1.2 hk0 eq1) qw253 okX9_marker ⟨Nat.le_of_ble_eq_true rfl, Nat.le_of_ble_eq_true rfl⟩ hk0 (by decide) rfl hP hS rfl hl.1 rfl (Nat.le_of_ble_eq_true rfl) dX9_kindOpen_1) hS (fun H locs hP hS => ?_)
  refine lv_istore_n (lv' := [(2, .int q1.1), (0, .ref (xad G h0)), (1, .int p1)]) hx hb dX9_kindOpen_4 rfl hl (by decide) rfl (fun ls hl => ?_)
  refine lv_iload_n hx hb dX9_kindOpen_5 rfl (lv_at hl 0 rfl) ?_
  refine lv_if_lt (tgt := 18) hx hb dX9_kindOpen_6 (by decide) (fun c2 => ?_) (fun c2 => ?_)
  · replace hM := (if_pos c2).symm.trans hM
    refine lv_iload_n hx hb dX9_kindOpen_18 rfl (lv_at hl 2 rfl) ?_
    refine lv_if_eq (tgt := 27) hx hb dX9_kindOpen_19 (by decide) (fun c3 => ?_) (fun c3 => ?_)
    · replace hM := (if_pos c3).symm.trans hM
      refine lv_bipush (v := 40) hx hb dX9_kindOpen_27 (by decide) ?_
      exact x_iret X hP hS hM dX9_kindOpen_29
    · replace hM := (if_neg c3).symm.trans hM
      refine lv_bipush (v := 41) hx hb dX9_kindOpen_22 (by decide) ?_
      refine lv_goto (tgt := 29) hx hb dX9_kindOpen_24 (by decide) ?_
      exact x_iret X hP hS hM dX9_kindOpen_29
  · replace hM := (if_neg c2).symm.trans hM
    refine lv_aload_n hx hb dX9_kindOpen_9 rfl (lv_at hl 1 rfl) ?_
    obtain ⟨d4, ed4, hM⟩ := xb hM
    refine fdX9_16 X hP hk0 qw246 dX9_kindOpen_10 ed4 ?_
    refine lv_iload_n hx hb dX9_kindOpen_13 rfl (lv_at hl 0 rfl) ?_
    obtain ⟨x5, ex5, hM⟩ := xb hM
    refine x_iald X hP (dO_k ed4) ex5 dX9_kindOpen_14 ?_
    refine lv_goto (tgt := 29) hx hb dX9_kindOpen_15 (by decide) ?_
    exact x_iret X hP hS hM dX9_kindOpen_29

def mX9_apart (S : xS) (h0 : Nat) (p1 : Int32) : Option (Int32 × xS) := (mX9_isIn S p1 0 60).bind fun q1 => if (q1.1 = 0 : Prop) then (some ((-1000), q1.2)) else ((mX9_dayBehind q1.2 h0 0 p1).bind fun q3 => (mX9_dayBehind q3.2 h0 1 p1).bind fun q4 => some (q3.1 - q4.1, q4.2))
set_option maxHeartbeats 4000000 in
set_option maxRecDepth 100000 in
theorem kX9_apart (l : Launch) (G : xG) (S : xS) (h0 : Nat) (p1 : Int32) (r : Int32) (S' : xS) (hk0 : xk Ym h0 = 9) (hM : mX9_apart S h0 p1 = some (r, S')) : xM l yX9_apart cX9_apart 3 (some .int) 8 193 G Ym [.ref (xad G h0), .int p1] S (xQi G Ym r S') := by
  refine x_start (own := RX9) (by decide +kernel) rfl (Nat.le_of_ble_eq_true rfl) ?_
  intro p e s m below meth c ls X hl hP hS
  obtain ⟨hx, hb, hml, hown, hts, hr, hlk, hK, hE, hJ⟩ := id X
  have hl : lv_has ls 3 [(0, .ref (xad G h0)), (1, .int p1)] := hl
  unfold mX9_apart at hM
  refine lv_iload_n hx hb dX9_apart_0 rfl (lv_at hl 1 rfl) ?_
  refine lv_iconst (v := 0) hx hb dX9_apart_1 (by decide) ?_
  refine lv_bipush (v := 60) hx hb dX9_apart_2 (by decide) ?_
  obtain ⟨q1, eq1, hM⟩ := xb hM
  refine x_goi (x_runS (rest := []) X (kX9_isIn l G S p1 0 60 q1.1 q1.2  eq1) qw228 okX9_isIn ⟨Nat.le_of_ble_eq_true rfl, Nat.le_of_ble_eq_true rfl⟩ hP hS rfl hl.1 rfl (Nat.le_of_ble_eq_true rfl) dX9_apart_4) hS (fun H locs hP hS => ?_)
  refine lv_if_ne (tgt := 14) hx hb dX9_apart_7 (by decide) (fun c2 => ?_) (fun c2 => ?_)
  · replace hM := (if_neg c2).symm.trans hM
    refine lv_aload_n hx hb dX9_apart_14 rfl (lv_at hl 0 rfl) ?_
    refine lv_iconst (v := 0) hx hb dX9_apart_15 (by decide) ?_
    refine lv_iload_n hx hb dX9_apart_16 rfl (lv_at hl 1 rfl) ?_
    obtain ⟨q3, eq3, hM⟩ := xb hM
    refine x_goi (x_runV (rest := []) X (kX9_dayBehind l G q1.2 h0 0 p1 q3.1 q3.2 hk0 eq3) qw326 okX9_dayBehind ⟨Nat.le_of_ble_eq_true rfl, Nat.le_of_ble_eq_true rfl⟩ hk0 (by decide) rfl hP hS rfl hl.1 rfl (Nat.le_of_ble_eq_true rfl) dX9_apart_17) hS (fun H locs hP hS => ?_)
    refine lv_istore_n (lv' := [(2, .int q3.1), (0, .ref (xad G h0)), (1, .int p1)]) hx hb dX9_apart_20 rfl hl (by decide) rfl (fun ls hl => ?_)
    refine lv_iload_n hx hb dX9_apart_21 rfl (lv_at hl 0 rfl) ?_
    refine lv_aload_n hx hb dX9_apart_22 rfl (lv_at hl 1 rfl) ?_
    refine lv_iconst (v := 1) hx hb dX9_apart_23 (by decide) ?_
    refine lv_iload_n hx hb dX9_apart_24 rfl (lv_at hl 2 rfl) ?_
    obtain ⟨q4, eq4, hM⟩ := xb hM
    refine x_goi (x_runV (rest := [.int q3.1]) X (kX9_dayBehind l G q3.2 h0 1 p1 q4.1 q4.2 hk0 eq4) qw326 okX9_dayBehind ⟨Nat.le_of_ble_eq_true rfl, Nat.le_of_ble_eq_true rfl⟩ hk0 (by decide) rfl hP hS rfl hl.1 rfl (Nat.le_of_ble_eq_true rfl) dX9_apart_25) hS (fun H locs hP hS => ?_)
    refine lv_isub hx hb dX9_apart_28 ?_
    exact x_iret X hP hS hM dX9_apart_29
  · replace hM := (if_pos c2).symm.trans hM
    refine lv_sipush (v := (-1000)) hx hb dX9_apart_10 (by decide) ?_
    exact x_iret X hP hS hM dX9_apart_13

def lX9_flour_34 : Nat → xS → Nat → Int32 → Int32 → Int32 → Int32 → Option (Int32 × xS)
  | 0, _, _, _, _, _, _ => none
  | n + 1, S, h0, v1, v3, v4, v5 => if (v3 < v5 : Prop) then (some (v4, S)) else ((dO Ym (gR S h0 0) 10).bind fun d2 => (aI Ym S d2 1).bind fun x3 => (mX9_slicesOf S h0 v1 v5 x3).bind fun q4 => lX9_flour_34 n q4.2 h0 v1 v3 (v4 + q4.1) (v5 + 1))
set_option maxHeartbeats 4000000 in
set_option maxRecDepth 100000 in
theorem wX9_flour_34 {p : Program} {l : Launch} {e : Env} {s : State} {m : MethodId} {args : Array Value} {below : List Frame} {meth : Method} {c : Code} {G : xG} {r : Int32} {S' : xS} (X : xX p s m args meth c cX9_flour 6 (some .int) RX9 G Ym) : ∀ (n : Nat), ∀ (S : xS) (h0 : Nat) (v1 : Int32) (v3 : Int32) (v4 : Int32) (v5 : Int32) (H : Heap) (locs : List Loc) (ls : Array Slot), lX9_flour_34  n S h0 v1 v3 v4 v5 = some (r, S') → xk Ym h0 = 9 → xP G Ym S H → va_S (xA G Ym) s.heap H locs → lv_has ls 6 [(0, .ref (xad G h0)), (1, .int v1), (3, .int v3), (4, .int v4), (5, .int v5)] → W p l e (xr 5 121) s m args below meth c H locs 0 0 (MQ below (xQi G Ym r S') args s 0 0 (xA G Ym)) (F0 m 34 ls []) := by
  obtain ⟨hx, hb, hml, hown, hts, hr, hlk, hK, hE, hJ⟩ := id X
  intro n
  induction n with
  | zero =>
    intro S h0 v1 v3 v4 v5 H locs ls hM
    rw [lX9_flour_34.eq_1] at hM
    cases hM
  | succ n ih =>
    intro S h0 v1 v3 v4 v5 H locs ls hM hk0 hP hS hl
    rw [lX9_flour_34.eq_2] at hM
    refine lv_iload hx hb dX9_flour_34 (lv_at hl 4 rfl) ?_
    refine lv_iload_n hx hb dX9_flour_36 rfl (lv_at hl 2 rfl) ?_
    refine lv_icmp_gt (tgt := 64) hx hb dX9_flour_37 (by decide) (fun c1 => ?_) (fun c1 => ?_)
    · replace hM := (if_pos c1).symm.trans hM
      refine lv_iload hx hb dX9_flour_64 (lv_at hl 3 rfl) ?_
      exact x_iret X hP hS hM dX9_flour_66
    · replace hM := (if_neg c1).symm.trans hM
      refine lv_iload hx hb dX9_flour_40 (lv_at hl 3 rfl) ?_
      refine lv_aload_n hx hb dX9_flour_42 rfl (lv_at hl 0 rfl) ?_
      refine lv_iload_n hx hb dX9_flour_43 rfl (lv_at hl 1 rfl) ?_
      refine lv_iload hx hb dX9_flour_44 (lv_at hl 4 rfl) ?_
      refine lv_aload_n hx hb dX9_flour_46 rfl (lv_at hl 0 rfl) ?_
      obtain ⟨d2, ed2, hM⟩ := xb hM
      refine fdX9_0 X hP hk0 qw227 dX9_flour_47 ed2 ?_
      refine lv_iconst (v := 1) hx hb dX9_flour_50 (by decide) ?_
      obtain ⟨x3, ex3, hM⟩ := xb hM
      refine x_iald X hP (dO_k ed2) ex3 dX9_flour_51 ?_
      obtain ⟨q4, eq4, hM⟩ := xb hM
      refine x_goi (x_runV (rest := [.int v4]) X (kX9_slicesOf l G S h0 v1 v5 x3 q4.1 q4.2 hk0 eq4) qw297 okX9_slicesOf ⟨Nat.le_of_ble_eq_true rfl, Nat.le_of_ble_eq_true rfl⟩ hk0 (by decide) rfl hP hS rfl hl.1 rfl (Nat.le_of_ble_eq_true rfl) dX9_flour_52) hS (fun H locs hP hS => ?_)
      refine lv_iadd hx hb dX9_flour_55 ?_
      refine lv_istore (lv' := [(4, .int (v4 + q4.1)), (0, .ref (xad G h0)), (1, .int v1), (3, .int v3), (5, .int v5)]) hx hb dX9_flour_56 hl (by decide) rfl (fun ls hl => ?_)
      refine lv_iinc (v := v5 + 1) (lv' := [(5, .int (v5 + 1)), (4, .int (v4 + q4.1)), (0, .ref (xad G h0)), (1, .int v1), (3, .int v3)]) hx hb dX9_flour_58 hl (k := 4) rfl (by first | rfl | exact congrArg (fun z => v5 + z) (by decide)) (by decide) rfl (fun ls hl => ?_)
      refine lv_goto (tgt := 34) hx hb dX9_flour_61 (by decide) ?_
      exact ih q4.2 h0 v1 v3 (v4 + q4.1) (v5 + 1) _ _ _ hM hk0 hP hS (lv_sub hl [2, 3, 4, 1, 0] rfl)
def mX9_flour (S : xS) (h0 : Nat) (p1 : Int32) (p2 : Int32) (p3 : Int32) : Option (Int32 × xS) := (mX9_isTable S p1).bind fun q1 => if (q1.1 = 0 : Prop) then (some ((-1), q1.2)) else ((mX9_isDay q1.2 p2).bind fun q3 => if (q3.1 = 0 : Prop) then (some ((-1), q3.2)) else ((mX9_isDay q3.2 p3).bind fun q5 => if (q5.1 = 0 : Prop) then (some ((-1), q5.2)) else (if (p2 ≤ p3 : Prop) then (lX9_flour_34  5000 q5.2 h0 p1 p3 0 p2) else (some ((-1), q5.2)))))
set_option maxHeartbeats 4000000 in
set_option maxRecDepth 100000 in
theorem kX9_flour (l : Launch) (G : xG) (S : xS) (h0 : Nat) (p1 : Int32) (p2 : Int32) (p3 : Int32) (r : Int32) (S' : xS) (hk0 : xk Ym h0 = 9) (hM : mX9_flour S h0 p1 p2 p3 = some (r, S')) : xM l yX9_flour cX9_flour 6 (some .int) 5 121 G Ym [.ref (xad G h0), .int p1, .int p2, .int p3] S (xQi G Ym r S') := by
  refine x_start (own := RX9) (by decide +kernel) rfl (Nat.le_of_ble_eq_true rfl) ?_
  intro p e s m below meth c ls X hl hP hS
  obtain ⟨hx, hb, hml, hown, hts, hr, hlk, hK, hE, hJ⟩ := id X
  have hl : lv_has ls 6 [(0, .ref (xad G h0)), (1, .int p1), (2, .int p2), (3, .int p3)] := hl
  unfold mX9_flour at hM
  refine lv_iload_n hx hb dX9_flour_0 rfl (lv_at hl 1 rfl) ?_
  obtain ⟨q1, eq1, hM⟩ := xb hM
  refine x_goi (x_runS (rest := []) X (kX9_isTable l G S p1 q1.1 q1.2  eq1) qw295 okX9_isTable ⟨Nat.le_of_ble_eq_true rfl, Nat.le_of_ble_eq_true rfl⟩ hP hS rfl hl.1 rfl (Nat.le_of_ble_eq_true rfl) dX9_flour_1) hS (fun H locs hP hS => ?_)
  refine lv_if_eq (tgt := 26) hx hb dX9_flour_4 (by decide) (fun c2 => ?_) (fun c2 => ?_)
  · replace hM := (if_pos c2).symm.trans hM
    refine lv_iconst (v := (-1)) hx hb dX9_flour_26 (by decide) ?_
    exact x_iret X hP hS hM dX9_flour_27
  · replace hM := (if_neg c2).symm.trans hM
    refine lv_iload_n hx hb dX9_flour_7 rfl (lv_at hl 2 rfl) ?_
    obtain ⟨q3, eq3, hM⟩ := xb hM
    refine x_goi (x_runS (rest := []) X (kX9_isDay l G q1.2 p2 q3.1 q3.2  eq3) qw296 okX9_isDay ⟨Nat.le_of_ble_eq_true rfl, Nat.le_of_ble_eq_true rfl⟩ hP hS rfl hl.1 rfl (Nat.le_of_ble_eq_true rfl) dX9_flour_8) hS (fun H locs hP hS => ?_)
    refine lv_if_eq (tgt := 26) hx hb dX9_flour_11 (by decide) (fun c4 => ?_) (fun c4 => ?_)
    · replace hM := (if_pos c4).symm.trans hM
      refine lv_iconst (v := (-1)) hx hb dX9_flour_26 (by decide) ?_
      exact x_iret X hP hS hM dX9_flour_27
    · replace hM := (if_neg c4).symm.trans hM
      refine lv_iload_n hx hb dX9_flour_14 rfl (lv_at hl 3 rfl) ?_
      obtain ⟨q5, eq5, hM⟩ := xb hM
      refine x_goi (x_runS (rest := []) X (kX9_isDay l G q3.2 p3 q5.1 q5.2  eq5) qw296 okX9_isDay ⟨Nat.le_of_ble_eq_true rfl, Nat.le_of_ble_eq_true rfl⟩ hP hS rfl hl.1 rfl (Nat.le_of_ble_eq_true rfl) dX9_flour_15) hS (fun H locs hP hS => ?_)
      refine lv_if_eq (tgt := 26) hx hb dX9_flour_18 (by decide) (fun c6 => ?_) (fun c6 => ?_)
      · replace hM := (if_pos c6).symm.trans hM
        refine lv_iconst (v := (-1)) hx hb dX9_flour_26 (by decide) ?_
        exact x_iret X hP hS hM dX9_flour_27
      · replace hM := (if_neg c6).symm.trans hM
        refine lv_iload_n hx hb dX9_flour_21 rfl (lv_at hl 3 rfl) ?_
        refine lv_iload_n hx hb dX9_flour_22 rfl (lv_at hl 2 rfl) ?_
        refine lv_icmp_ge (tgt := 28) hx hb dX9_flour_23 (by decide) (fun c7 => ?_) (fun c7 => ?_)
        · replace hM := (if_pos c7).symm.trans hM
          refine lv_iconst (v := 0) hx hb dX9_flour_28 (by decide) ?_
          refine lv_istore (lv' := [(4, .int 0), (0, .ref (xad G h0)), (1, .int p1), (2, .int p2), (3, .int p3)]) hx hb dX9_flour_29 hl (by decide) rfl (fun ls hl => ?_)
          refine lv_iload_n hx hb dX9_flour_31 rfl (lv_at hl 3 rfl) ?_
          refine lv_istore (lv' := [(5, .int p2), (4, .int 0), (0, .ref (xad G h0)), (1, .int p1), (2, .int p2), (3, .int p3)]) hx hb dX9_flour_32 hl (by decide) rfl (fun ls hl => ?_)
          exact wX9_flour_34 X  5000 q5.2 h0 p1 p3 0 p2 _ _ _ hM hk0 hP hS (lv_sub hl [2, 3, 5, 1, 0] rfl)
        · replace hM := (if_neg c7).symm.trans hM
          refine lv_iconst (v := (-1)) hx hb dX9_flour_26 (by decide) ?_
          exact x_iret X hP hS hM dX9_flour_27

def lX9_isSaint_14 : Nat → xS → Nat → Int32 → Int32 → Int32 → Option (Int32 × xS)
  | 0, _, _, _, _, _ => none
  | n + 1, S, h0, v2, v3, v5 => if (v3 < v5 : Prop) then (if ((gI S h0 26) < v2 : Prop) then (some (0, S)) else (some (1, S))) else (if ((gI S h0 26) < v2 : Prop) then ((dO Ym (gR S h0 0) 10).bind fun d4 => (aI Ym S d4 1).bind fun x5 => (mX9_goOn S h0 (x5 + v5) 0).bind fun S6 => lX9_isSaint_14 n S6 h0 v2 v3 (v5 + 1)) else (some (0, S)))
set_option maxHeartbeats 4000000 in
set_option maxRecDepth 100000 in
theorem wX9_isSaint_14 {p : Program} {l : Launch} {e : Env} {s : State} {m : MethodId} {args : Array Value} {below : List Frame} {meth : Method} {c : Code} {G : xG} {r : Int32} {S' : xS} (X : xX p s m args meth c cX9_isSaint 6 (some .boolean) RX9 G Ym) : ∀ (n : Nat), ∀ (S : xS) (h0 : Nat) (v2 : Int32) (v3 : Int32) (v5 : Int32) (H : Heap) (locs : List Loc) (ls : Array Slot), lX9_isSaint_14  n S h0 v2 v3 v5 = some (r, S') → xk Ym h0 = 9 → xP G Ym S H → va_S (xA G Ym) s.heap H locs → lv_has ls 6 [(0, .ref (xad G h0)), (2, .int v2), (3, .int v3), (5, .int v5)] → W p l e (xr 7 170) s m args below meth c H locs 0 0 (MQ below (xQi G Ym r S') args s 0 0 (xA G Ym)) (F0 m 14 ls []) := by
  obtain ⟨hx, hb, hml, hown, hts, hr, hlk, hK, hE, hJ⟩ := id X
  intro n
  induction n with
  | zero =>
    intro S h0 v2 v3 v5 H locs ls hM
    rw [lX9_isSaint_14.eq_1] at hM
    cases hM
  | succ n ih =>
    intro S h0 v2 v3 v5 H locs ls hM hk0 hP hS hl
    rw [lX9_isSaint_14.eq_2] at hM
    refine lv_iload hx hb dX9_isSaint_14 (lv_at hl 3 rfl) ?_
    refine lv_iload_n hx hb dX9_isSaint_16 rfl (lv_at hl 2 rfl) ?_
    refine lv_icmp_gt (tgt := 50) hx hb dX9_isSaint_17 (by decide) (fun c1 => ?_) (fun c1 => ?_)
    · replace hM := (if_pos c1).symm.trans hM
      refine lv_aload_n hx hb dX9_isSaint_50 rfl (lv_at hl 0 rfl) ?_
      refine fgX9_26 X hP hk0 qw300 dX9_isSaint_51 ?_
      refine lv_iload_n hx hb dX9_isSaint_54 rfl (lv_at hl 1 rfl) ?_
      refine lv_icmp_lt (tgt := 62) hx hb dX9_isSaint_55 (by decide) (fun c2 => ?_) (fun c2 => ?_)
      · replace hM := (if_pos c2).symm.trans hM
        refine lv_iconst (v := 0) hx hb dX9_isSaint_62 (by decide) ?_
        exact x_zret X hP hS (Or.inl rfl) hM dX9_isSaint_63
      · replace hM := (if_neg c2).symm.trans hM
        refine lv_iconst (v := 1) hx hb dX9_isSaint_58 (by decide) ?_
        refine lv_goto (tgt := 63) hx hb dX9_isSaint_59 (by decide) ?_
        exact x_zret X hP hS (Or.inr rfl) hM dX9_isSaint_63
    · replace hM := (if_neg c1).symm.trans hM
      refine lv_aload_n hx hb dX9_isSaint_20 rfl (lv_at hl 0 rfl) ?_
      refine fgX9_26 X hP hk0 qw300 dX9_isSaint_21 ?_
      refine lv_iload_n hx hb dX9_isSaint_24 rfl (lv_at hl 1 rfl) ?_
      refine lv_icmp_lt (tgt := 30) hx hb dX9_isSaint_25 (by decide) (fun c3 => ?_) (fun c3 => ?_)
      · replace hM := (if_pos c3).symm.trans hM
        refine lv_aload_n hx hb dX9_isSaint_30 rfl (lv_at hl 0 rfl) ?_
        refine lv_aload_n hx hb dX9_isSaint_31 rfl (lv_at hl 0 rfl) ?_
        obtain ⟨d4, ed4, hM⟩ := xb hM
        refine fdX9_0 X hP hk0 qw227 dX9_isSaint_32 ed4 ?_
        refine lv_iconst (v := 1) hx hb dX9_isSaint_35 (by decide) ?_
        obtain ⟨x5, ex5, hM⟩ := xb hM
        refine x_iald X hP (dO_k ed4) ex5 dX9_isSaint_36 ?_
        refine lv_iload hx hb dX9_isSaint_37 (lv_at hl 3 rfl) ?_
        refine lv_iadd hx hb dX9_isSaint_39 ?_
        refine lv_iconst (v := 0) hx hb dX9_isSaint_40 (by decide) ?_
        obtain ⟨S6, eS6, hM⟩ := xb hM
        refine x_gov (x_runV (rest := []) X (kX9_goOn l G S h0 (x5 + v5) 0 S6 hk0 eS6) qw319 okX9_goOn ⟨Nat.le_of_ble_eq_true rfl, Nat.le_of_ble_eq_true rfl⟩ hk0 (by decide) rfl hP hS rfl hl.1 rfl (Nat.le_of_ble_eq_true rfl) dX9_isSaint_41) hS (fun H locs hP hS => ?_)
        refine lv_iinc (v := v5 + 1) (lv' := [(5, .int (v5 + 1)), (0, .ref (xad G h0)), (2, .int v2), (3, .int v3)]) hx hb dX9_isSaint_44 hl (k := 3) rfl (by first | rfl | exact congrArg (fun z => v5 + z) (by decide)) (by decide) rfl (fun ls hl => ?_)
        refine lv_goto (tgt := 14) hx hb dX9_isSaint_47 (by decide) ?_
        exact ih S6 h0 v2 v3 (v5 + 1) _ _ _ hM hk0 hP hS (lv_sub hl [1, 2, 3, 0] rfl)
      · replace hM := (if_neg c3).symm.trans hM
        refine lv_iconst (v := 0) hx hb dX9_isSaint_28 (by decide) ?_
        exact x_zret X hP hS (Or.inl rfl) hM dX9_isSaint_29
def mX9_isSaint (S : xS) (h0 : Nat) (p1 : Int32) (p2 : Int32) (p3 : Int32) (p4 : Int32) : Option (Int32 × xS) := (mX9_setTable S h0 p1).bind fun S1 => xlet (pI S1 h0 29 p4) fun S2 => lX9_isSaint_14  5000 S2 h0 p2 p3 1
set_option maxHeartbeats 4000000 in
set_option maxRecDepth 100000 in
theorem kX9_isSaint (l : Launch) (G : xG) (S : xS) (h0 : Nat) (p1 : Int32) (p2 : Int32) (p3 : Int32) (p4 : Int32) (r : Int32) (S' : xS) (hk0 : xk Ym h0 = 9) (hM : mX9_isSaint S h0 p1 p2 p3 p4 = some (r, S')) : xM l yX9_isSaint cX9_isSaint 6 (some .boolean) 7 170 G Ym [.ref (xad G h0), .int p1, .int p2, .int p3, .int p4] S (xQi G Ym r S') := by
  refine x_start (own := RX9) (by decide +kernel) rfl (Nat.le_of_ble_eq_true rfl) ?_
  intro p e s m below meth c ls X hl hP hS
  obtain ⟨hx, hb, hml, hown, hts, hr, hlk, hK, hE, hJ⟩ := id X
  have hl : lv_has ls 6 [(0, .ref (xad G h0)), (1, .int p1), (2, .int p2), (3, .int p3), (4, .int p4)] := hl
  unfold mX9_isSaint at hM
  refine lv_aload_n hx hb dX9_isSaint_0 rfl (lv_at hl 0 rfl) ?_
  refine lv_iload_n hx hb dX9_isSaint_1 rfl (lv_at hl 1 rfl) ?_
  obtain ⟨S1, eS1, hM⟩ := xb hM
  refine x_gov (x_runV (rest := []) X (kX9_setTable l G S h0 p1 S1 hk0 eS1) qw312 okX9_setTable ⟨Nat.le_of_ble_eq_true rfl, Nat.le_of_ble_eq_true rfl⟩ hk0 (by decide) rfl hP hS rfl hl.1 rfl (Nat.le_of_ble_eq_true rfl) dX9_isSaint_2) hS (fun H locs hP hS => ?_)
  refine lv_aload_n hx hb dX9_isSaint_5 rfl (lv_at hl 0 rfl) ?_
  refine lv_iload hx hb dX9_isSaint_6 (lv_at hl 4 rfl) ?_
  obtain ⟨S2, eS2, hM⟩ := xlet_ex hM
  refine fpX9_29 X hP hS hk0 qw304 dX9_isSaint_8 eS2 (fun H locs hP hS => ?_)
  refine lv_iconst (v := 1) hx hb dX9_isSaint_11 (by decide) ?_
  refine lv_istore (lv' := [(5, .int 1), (0, .ref (xad G h0)), (1, .int p1), (2, .int p2), (3, .int p3), (4, .int p4)]) hx hb dX9_isSaint_12 hl (by decide) rfl (fun ls hl => ?_)
  exact wX9_isSaint_14 X  5000 S2 h0 p2 p3 1 _ _ _ hM hk0 hP hS (lv_sub hl [1, 3, 4, 0] rfl)

def lX9_power_4 : Nat → xS → Int32 → Int32 → Int32 → Option (Int32 × xS)
  | 0, _, _, _, _ => none
  | n + 1, S, v0, v1, v2 => if (v0 ≤ v2 : Prop) then (some (v1, S)) else (lX9_power_4 n S v0 (v1 * 3) (v2 + 1))
set_option maxHeartbeats 4000000 in
set_option maxRecDepth 100000 in
theorem wX9_power_4 {p : Program} {l : Launch} {e : Env} {s : State} {m : MethodId} {args : Array Value} {below : List Frame} {meth : Method} {c : Code} {G : xG} {r : Int32} {S' : xS} (X : xX p s m args meth c cX9_power 3 (some .int) RX9 G Ym) : ∀ (n : Nat), ∀ (S : xS) (v0 : Int32) (v1 : Int32) (v2 : Int32) (H : Heap) (locs : List Loc) (ls : Array Slot), lX9_power_4  n S v0 v1 v2 = some (r, S') → xP G Ym S H → va_S (xA G Ym) s.heap H locs → lv_has ls 3 [(0, .int v0), (1, .int v1), (2, .int v2)] → W p l e (xr 0 0) s m args below meth c H locs 0 0 (MQ below (xQi G Ym r S') args s 0 0 (xA G Ym)) (F0 m 4 ls []) := by
  obtain ⟨hx, hb, hml, hown, hts, hr, hlk, hK, hE, hJ⟩ := id X
  intro n
  induction n with
  | zero =>
    intro S v0 v1 v2 H locs ls hM
    rw [lX9_power_4.eq_1] at hM
    cases hM
  | succ n ih =>
    intro S v0 v1 v2 H locs ls hM  hP hS hl
    rw [lX9_power_4.eq_2] at hM
    refine lv_iload_n hx hb dX9_power_4 rfl (lv_at hl 2 rfl) ?_
    refine lv_iload_n hx hb dX9_power_5 rfl (lv_at hl 0 rfl) ?_
    refine lv_icmp_ge (tgt := 19) hx hb dX9_power_6 (by decide) (fun c1 => ?_) (fun c1 => ?_)
    · replace hM := (if_pos c1).symm.trans hM
      refine lv_iload_n hx hb dX9_power_19 rfl (lv_at hl 1 rfl) ?_
      exact x_iret X hP hS hM dX9_power_20
    · replace hM := (if_neg c1).symm.trans hM
      refine lv_iload_n hx hb dX9_power_9 rfl (lv_at hl 1 rfl) ?_
      refine lv_iconst (v := 3) hx hb dX9_power_10 (by decide) ?_
      refine lv_imul hx hb dX9_power_11 ?_
      refine lv_istore_n (lv' := [(1, .int (v1 * 3)), (0, .int v0), (2, .int v2)]) hx hb dX9_power_12 rfl hl (by decide) rfl (fun ls hl => ?_)
      refine lv_iinc (v := v2 + 1) (lv' := [(2, .int (v2 + 1)), (1, .int (v1 * 3)), (0, .int v0)]) hx hb dX9_power_13 hl (k := 2) rfl (by first | rfl | exact congrArg (fun z => v2 + z) (by decide)) (by decide) rfl (fun ls hl => ?_)
      refine lv_goto (tgt := 4) hx hb dX9_power_16 (by decide) ?_
      exact ih S v0 (v1 * 3) (v2 + 1) _ _ _ hM  hP hS (lv_sub hl [2, 1, 0] rfl)
def mX9_power (S : xS) (p0 : Int32) : Option (Int32 × xS) := lX9_power_4  5000 S p0 1 0
set_option maxHeartbeats 4000000 in
set_option maxRecDepth 100000 in
theorem kX9_power (l : Launch) (G : xG) (S : xS) (p0 : Int32) (r : Int32) (S' : xS) (hM : mX9_power S p0 = some (r, S')) : xM l yX9_power cX9_power 3 (some .int) 0 0 G Ym [.int p0] S (xQi G Ym r S') := by
  refine x_start (own := RX9) (by decide +kernel) rfl (Nat.le_of_ble_eq_true rfl) ?_
  intro p e s m below meth c ls X hl hP hS
  obtain ⟨hx, hb, hml, hown, hts, hr, hlk, hK, hE, hJ⟩ := id X
  have hl : lv_has ls 3 [(0, .int p0)] := hl
  unfold mX9_power at hM
  refine lv_iconst (v := 1) hx hb dX9_power_0 (by decide) ?_
  refine lv_istore_n (lv' := [(1, .int 1), (0, .int p0)]) hx hb dX9_power_1 rfl hl (by decide) rfl (fun ls hl => ?_)
  refine lv_iconst (v := 0) hx hb dX9_power_2 (by decide) ?_
  refine lv_istore_n (lv' := [(2, .int 0), (1, .int 1), (0, .int p0)]) hx hb dX9_power_3 rfl hl (by decide) rfl (fun ls hl => ?_)
  exact wX9_power_4 X  5000 S p0 1 0 _ _ _ hM  hP hS (lv_sub hl [2, 1, 0] rfl)

def mX9_seatIn (S : xS) (h0 : Nat) (p1 : Int32) (p2 : Int32) : Option (Int32 × xS) := (dO Ym (gR S h0 0) 10).bind fun d1 => (aI Ym S d1 0).bind fun x2 => (mX9_power S ((x2 - 1) - p2)).bind fun q3 => (if q3.1 = 0 then none else some ((p1 / q3.1) - (p1 / q3.1) / 3 * 3, q3.2))
set_option maxHeartbeats 4000000 in
set_option maxRecDepth 100000 in
theorem kX9_seatIn (l : Launch) (G : xG) (S : xS) (h0 : Nat) (p1 : Int32) (p2 : Int32) (r : Int32) (S' : xS) (hk0 : xk Ym h0 = 9) (hM : mX9_seatIn S h0 p1 p2 = some (r, S')) : xM l yX9_seatIn cX9_seatIn 3 (some .int) 1 22 G Ym [.ref (xad G h0), .int p1, .int p2] S (xQi G Ym r S') := by
  refine x_start (own := RX9) (by decide +kernel) rfl (Nat.le_of_ble_eq_true rfl) ?_
  intro p e s m below meth c ls X hl hP hS
  obtain ⟨hx, hb, hml, hown, hts, hr, hlk, hK, hE, hJ⟩ := id X
  have hl : lv_has ls 3 [(0, .ref (xad G h0)), (1, .int p1), (2, .int p2)] := hl
  unfold mX9_seatIn at hM
  refine lv_iload_n hx hb dX9_seatIn_0 rfl (lv_at hl 1 rfl) ?_
  refine lv_aload_n hx hb dX9_seatIn_1 rfl (lv_at hl 0 rfl) ?_
  obtain ⟨d1, ed1, hM⟩ := xb hM
  refine fdX9_0 X hP hk0 qw227 dX9_seatIn_2 ed1 ?_
  refine lv_iconst (v := 0) hx hb dX9_seatIn_5 (by decide) ?_
  obtain ⟨x2, ex2, hM⟩ := xb hM
  refine x_iald X hP (dO_k ed1) ex2 dX9_seatIn_6 ?_
  refine lv_iconst (v := 1) hx hb dX9_seatIn_7 (by decide) ?_
  refine lv_isub hx hb dX9_seatIn_8 ?_
  refine lv_iload_n hx hb dX9_seatIn_9 rfl (lv_at hl 2 rfl) ?_
  refine lv_isub hx hb dX9_seatIn_10 ?_
  obtain ⟨q3, eq3, hM⟩ := xb hM
  refine x_goi (x_runS (rest := [.int p1]) X (kX9_power l G S ((x2 - 1) - p2) q3.1 q3.2  eq3) qw327 okX9_power ⟨Nat.le_of_ble_eq_true rfl, Nat.le_of_ble_eq_true rfl⟩ hP hS rfl hl.1 rfl (Nat.le_of_ble_eq_true rfl) dX9_seatIn_11) hS (fun H locs hP hS => ?_)
  by_cases ec4 : q3.1 = 0
  · replace hM := (if_pos ec4).symm.trans hM; cases hM
  replace hM := (if_neg ec4).symm.trans hM
  refine lv_idiv hx hb dX9_seatIn_14 ec4 ?_
  refine lv_iconst (v := 3) hx hb dX9_seatIn_15 (by decide) ?_
  refine lv_irem hx hb dX9_seatIn_16 (by decide) ?_
  exact x_iret X hP hS hM dX9_seatIn_17

def jX9_saint_211 (k75 : xS → Nat → Int32 → Int32 → Int32 → Int32 → Int32 → Int32 → Int32 → Option (Int32 × xS)) (k98 : xS → Nat → Int32 → Int32 → Int32 → Int32 → Int32 → Int32 → Int32 → Int32 → Int32 → Int32 → Option (Int32 × xS)) (S : xS) (h0 : Nat) (v1 : Int32) (v2 : Int32) (v3 : Int32) (v4 : Int32) (v5 : Int32) (v6 : Int32) (v7 : Int32) (v8 : Int32) (v9 : Int32) : Option (Int32 × xS) := (dO Ym (gR S h0 32) 10).bind fun d1 => (aI Ym S d1 v8).bind fun x2 => if (x2 = 1 : Prop) then (k75 S h0 v1 v2 v3 v4 v5 v6 (v7 + 1)) else (k75 S h0 v1 v2 v3 v4 v7 v9 (v7 + 1))
set_option maxHeartbeats 4000000 in
set_option maxRecDepth 100000 in
theorem wX9_saint_211 {p : Program} {l : Launch} {e : Env} {s : State} {m : MethodId} {args : Array Value} {below : List Frame} {meth : Method} {c : Code} {G : xG} {r : Int32} {S' : xS} (X : xX p s m args meth c cX9_saint 11 (some .int) RX9 G Ym) (k75 : xS → Nat → Int32 → Int32 → Int32 → Int32 → Int32 → Int32 → Int32 → Option (Int32 × xS)) (hh75 : ∀ (S : xS) (h0 : Nat) (v1 : Int32) (v2 : Int32) (v3 : Int32) (v4 : Int32) (v5 : Int32) (v6 : Int32) (v7 : Int32) (H : Heap) (locs : List Loc) (ls : Array Slot), k75 S h0 v1 v2 v3 v4 v5 v6 v7 = some (r, S') → xk Ym h0 = 9 → xP G Ym S H → va_S (xA G Ym) s.heap H locs → lv_has ls 11 [(0, .ref (xad G h0)), (1, .int v1), (2, .int v2), (3, .int v3), (4, .int v4), (5, .int v5), (6, .int v6), (7, .int v7)] → W p l e (xr 8 195) s m args below meth c H locs 0 0 (MQ below (xQi G Ym r S') args s 0 0 (xA G Ym)) (F0 m 75 ls [])) (k98 : xS → Nat → Int32 → Int32 → Int32 → Int32 → Int32 → Int32 → Int32 → Int32 → Int32 → Int32 → Option (Int32 × xS)) (hh98 : ∀ (S : xS) (h0 : Nat) (v1 : Int32) (v2 : Int32) (v3 : Int32) (v4 : Int32) (v5 : Int32) (v6 : Int32) (v7 : Int32) (v8 : Int32) (v9 : Int32) (v10 : Int32) (H : Heap) (locs : List Loc) (ls : Array Slot), k98 S h0 v1 v2 v3 v4 v5 v6 v7 v8 v9 v10 = some (r, S') → xk Ym h0 = 9 → xP G Ym S H → va_S (xA G Ym) s.heap H locs → lv_has ls 11 [(0, .ref (xad G h0)), (1, .int v1), (2, .int v2), (3, .int v3), (4, .int v4), (5, .int v5), (6, .int v6), (7, .int v7), (8, .int v8), (9, .int v9), (10, .int v10)] → W p l e (xr 8 195) s m args below meth c H locs 0 0 (MQ below (xQi G Ym r S') args s 0 0 (xA G Ym)) (F0 m 98 ls [])) : ∀ (S : xS) (h0 : Nat) (v1 : Int32) (v2 : Int32) (v3 : Int32) (v4 : Int32) (v5 : Int32) (v6 : Int32) (v7 : Int32) (v8 : Int32) (v9 : Int32) (H : Heap) (locs : List Loc) (ls : Array Slot), jX9_saint_211 k75 k98 S h0 v1 v2 v3 v4 v5 v6 v7 v8 v9 = some (r, S') → xk Ym h0 = 9 → xP G Ym S H → va_S (xA G Ym) s.heap H locs → lv_has ls 11 [(0, .ref (xad G h0)), (1, .int v1), (2, .int v2), (3, .int v3), (4, .int v4), (5, .int v5), (6, .int v6), (7, .int v7), (8, .int v8), (9, .int v9)] → W p l e (xr 8 195) s m args below meth c H locs 0 0 (MQ below (xQi G Ym r S') args s 0 0 (xA G Ym)) (F0 m 211 ls []) := by
  obtain ⟨hx, hb, hml, hown, hts, hr, hlk, hK, hE, hJ⟩ := id X
  intro S h0 v1 v2 v3 v4 v5 v6 v7 v8 v9 H locs ls hM hk0 hP hS hl
  unfold jX9_saint_211 at hM
  refine lv_aload_n hx hb dX9_saint_211 rfl (lv_at hl 0 rfl) ?_
  obtain ⟨d1, ed1, hM⟩ := xb hM
  refine fdX9_32 X hP hk0 qw328 dX9_saint_212 ed1 ?_
  refine lv_iload hx hb dX9_saint_215 (lv_at hl 8 rfl) ?_
  obtain ⟨x2, ex2, hM⟩ := xb hM
  refine x_iald X hP (dO_k ed1) ex2 dX9_saint_217 ?_
  refine lv_iconst (v := 1) hx hb dX9_saint_218 (by decide) ?_
  refine lv_icmp_ne (tgt := 225) hx hb dX9_saint_219 (by decide) (fun c3 => ?_) (fun c3 => ?_)
  · replace hM := (if_neg c3).symm.trans hM
    refine lv_iload hx hb dX9_saint_225 (lv_at hl 7 rfl) ?_
    refine lv_istore (lv' := [(5, .int v7), (0, .ref (xad G h0)), (1, .int v1), (2, .int v2), (3, .int v3), (4, .int v4), (6, .int v6), (7, .int v7), (8, .int v8), (9, .int v9)]) hx hb dX9_saint_227 hl (by decide) rfl (fun ls hl => ?_)
    refine lv_iload hx hb dX9_saint_229 (lv_at hl 9 rfl) ?_
    refine lv_istore (lv' := [(6, .int v9), (5, .int v7), (0, .ref (xad G h0)), (1, .int v1), (2, .int v2), (3, .int v3), (4, .int v4), (7, .int v7), (8, .int v8), (9, .int v9)]) hx hb dX9_saint_231 hl (by decide) rfl (fun ls hl => ?_)
    refine lv_iinc (v := v7 + 1) (lv' := [(7, .int (v7 + 1)), (6, .int v9), (5, .int v7), (0, .ref (xad G h0)), (1, .int v1), (2, .int v2), (3, .int v3), (4, .int v4), (8, .int v8), (9, .int v9)]) hx hb dX9_saint_233 hl (k := 7) rfl (by first | rfl | exact congrArg (fun z => v7 + z) (by decide)) (by decide) rfl (fun ls hl => ?_)
    refine lv_goto (tgt := 75) hx hb dX9_saint_236 (by decide) ?_
    exact hh75 S h0 v1 v2 v3 v4 v7 v9 (v7 + 1) _ _ _ hM hk0 hP hS (lv_sub hl [3, 4, 5, 6, 7, 2, 1, 0] rfl)
  · replace hM := (if_pos c3).symm.trans hM
    refine lv_goto (tgt := 233) hx hb dX9_saint_222 (by decide) ?_
    refine lv_iinc (v := v7 + 1) (lv' := [(7, .int (v7 + 1)), (0, .ref (xad G h0)), (1, .int v1), (2, .int v2), (3, .int v3), (4, .int v4), (5, .int v5), (6, .int v6), (8, .int v8), (9, .int v9)]) hx hb dX9_saint_233 hl (k := 7) rfl (by first | rfl | exact congrArg (fun z => v7 + z) (by decide)) (by decide) rfl (fun ls hl => ?_)
    refine lv_goto (tgt := 75) hx hb dX9_saint_236 (by decide) ?_
    exact hh75 S h0 v1 v2 v3 v4 v5 v6 (v7 + 1) _ _ _ hM hk0 hP hS (lv_sub hl [1, 2, 3, 4, 5, 6, 7, 0] rfl)
def jX9_saint_210 (k75 : xS → Nat → Int32 → Int32 → Int32 → Int32 → Int32 → Int32 → Int32 → Option (Int32 × xS)) (k98 : xS → Nat → Int32 → Int32 → Int32 → Int32 → Int32 → Int32 → Int32 → Int32 → Int32 → Int32 → Option (Int32 × xS)) (S : xS) (h0 : Nat) (v1 : Int32) (v2 : Int32) (v3 : Int32) (v4 : Int32) (v5 : Int32) (v6 : Int32) (v7 : Int32) (v8 : Int32) (v9 : Int32) (t0 : Int32) (t1 : Int32) (t2 : Nat) : Option (Int32 × xS) := (sI Ym S t2 t1 t0).bind fun S1 => jX9_saint_211 k75 k98 S1 h0 v1 v2 v3 v4 v5 v6 v7 v8 v9
set_option maxHeartbeats 4000000 in
set_option maxRecDepth 100000 in
theorem wX9_saint_210 {p : Program} {l : Launch} {e : Env} {s : State} {m : MethodId} {args : Array Value} {below : List Frame} {meth : Method} {c : Code} {G : xG} {r : Int32} {S' : xS} (X : xX p s m args meth c cX9_saint 11 (some .int) RX9 G Ym) (k75 : xS → Nat → Int32 → Int32 → Int32 → Int32 → Int32 → Int32 → Int32 → Option (Int32 × xS)) (hh75 : ∀ (S : xS) (h0 : Nat) (v1 : Int32) (v2 : Int32) (v3 : Int32) (v4 : Int32) (v5 : Int32) (v6 : Int32) (v7 : Int32) (H : Heap) (locs : List Loc) (ls : Array Slot), k75 S h0 v1 v2 v3 v4 v5 v6 v7 = some (r, S') → xk Ym h0 = 9 → xP G Ym S H → va_S (xA G Ym) s.heap H locs → lv_has ls 11 [(0, .ref (xad G h0)), (1, .int v1), (2, .int v2), (3, .int v3), (4, .int v4), (5, .int v5), (6, .int v6), (7, .int v7)] → W p l e (xr 8 195) s m args below meth c H locs 0 0 (MQ below (xQi G Ym r S') args s 0 0 (xA G Ym)) (F0 m 75 ls [])) (k98 : xS → Nat → Int32 → Int32 → Int32 → Int32 → Int32 → Int32 → Int32 → Int32 → Int32 → Int32 → Option (Int32 × xS)) (hh98 : ∀ (S : xS) (h0 : Nat) (v1 : Int32) (v2 : Int32) (v3 : Int32) (v4 : Int32) (v5 : Int32) (v6 : Int32) (v7 : Int32) (v8 : Int32) (v9 : Int32) (v10 : Int32) (H : Heap) (locs : List Loc) (ls : Array Slot), k98 S h0 v1 v2 v3 v4 v5 v6 v7 v8 v9 v10 = some (r, S') → xk Ym h0 = 9 → xP G Ym S H → va_S (xA G Ym) s.heap H locs → lv_has ls 11 [(0, .ref (xad G h0)), (1, .int v1), (2, .int v2), (3, .int v3), (4, .int v4), (5, .int v5), (6, .int v6), (7, .int v7), (8, .int v8), (9, .int v9), (10, .int v10)] → W p l e (xr 8 195) s m args below meth c H locs 0 0 (MQ below (xQi G Ym r S') args s 0 0 (xA G Ym)) (F0 m 98 ls [])) : ∀ (S : xS) (h0 : Nat) (v1 : Int32) (v2 : Int32) (v3 : Int32) (v4 : Int32) (v5 : Int32) (v6 : Int32) (v7 : Int32) (v8 : Int32) (v9 : Int32) (t0 : Int32) (t1 : Int32) (t2 : Nat) (H : Heap) (locs : List Loc) (ls : Array Slot), jX9_saint_210 k75 k98 S h0 v1 v2 v3 v4 v5 v6 v7 v8 v9 t0 t1 t2 = some (r, S') → xk Ym h0 = 9 → xk Ym t2 = 10 → xP G Ym S H → va_S (xA G Ym) s.heap H locs → lv_has ls 11 [(0, .ref (xad G h0)), (1, .int v1), (2, .int v2), (3, .int v3), (4, .int v4), (5, .int v5), (6, .int v6), (7, .int v7), (8, .int v8), (9, .int v9)] → W p l e (xr 8 195) s m args below meth c H locs 0 0 (MQ below (xQi G Ym r S') args s 0 0 (xA G Ym)) (F0 m 210 ls [.int t0, .int t1, .ref (xad G t2)]) := by
  obtain ⟨hx, hb, hml, hown, hts, hr, hlk, hK, hE, hJ⟩ := id X
  intro S h0 v1 v2 v3 v4 v5 v6 v7 v8 v9 t0 t1 t2 H locs ls hM hk0 hkt2 hP hS hl
  unfold jX9_saint_210 at hM
  obtain ⟨S1, eS1, hM⟩ := xb hM
  refine x_iast X hP hS hkt2 eS1 dX9_saint_210 (fun H locs hP hS => ?_)
  exact wX9_saint_211 X k75 hh75 k98 hh98 S1 h0 v1 v2 v3 v4 v5 v6 v7 v8 v9 _ _ _ hM hk0 hP hS (lv_sub hl [0, 1, 2, 3, 4, 5, 6, 7, 8, 9] rfl)
def jX9_saint_131 (k75 : xS → Nat → Int32 → Int32 → Int32 → Int32 → Int32 → Int32 → Int32 → Option (Int32 × xS)) (k98 : xS → Nat → Int32 → Int32 → Int32 → Int32 → Int32 → Int32 → Int32 → Int32 → Int32 → Int32 → Option (Int32 × xS)) (S : xS) (h0 : Nat) (v1 : Int32) (v2 : Int32) (v3 : Int32) (v4 : Int32) (v5 : Int32) (v6 : Int32) (v7 : Int32) (v9 : Int32) (v10 : Int32) (t0 : Int32) (t1 : Int32) : Option (Int32 × xS) := (mX9_seatIn S h0 v7 v10).bind fun q1 => (mX9_seatOf q1.2 h0 v10).bind fun q2 => if (q1.1 = q2.1 : Prop) then (k98 q2.2 h0 v1 v2 v3 v4 v5 v6 v7 (t1 ||| t0) (v9 + 0) (v10 + 1)) else (k98 q2.2 h0 v1 v2 v3 v4 v5 v6 v7 (t1 ||| t0) (v9 + 1) (v10 + 1))
set_option maxHeartbeats 4000000 in
set_option maxRecDepth 100000 in
theorem wX9_saint_131 {p : Program} {l : Launch} {e : Env} {s : State} {m : MethodId} {args : Array Value} {below : List Frame} {meth : Method} {c : Code} {G : xG} {r : Int32} {S' : xS} (X : xX p s m args meth c cX9_saint 11 (some .int) RX9 G Ym) (k75 : xS → Nat → Int32 → Int32 → Int32 → Int32 → Int32 → Int32 → Int32 → Option (Int32 × xS)) (hh75 : ∀ (S : xS) (h0 : Nat) (v1 : Int32) (v2 : Int32) (v3 : Int32) (v4 : Int32) (v5 : Int32) (v6 : Int32) (v7 : Int32) (H : Heap) (locs : List Loc) (ls : Array Slot), k75 S h0 v1 v2 v3 v4 v5 v6 v7 = some (r, S') → xk Ym h0 = 9 → xP G Ym S H → va_S (xA G Ym) s.heap H locs → lv_has ls 11 [(0, .ref (xad G h0)), (1, .int v1), (2, .int v2), (3, .int v3), (4, .int v4), (5, .int v5), (6, .int v6), (7, .int v7)] → W p l e (xr 8 195) s m args below meth c H locs 0 0 (MQ below (xQi G Ym r S') args s 0 0 (xA G Ym)) (F0 m 75 ls [])) (k98 : xS → Nat → Int32 → Int32 → Int32 → Int32 → Int32 → Int32 → Int32 → Int32 → Int32 → Int32 → Option (Int32 × xS)) (hh98 : ∀ (S : xS) (h0 : Nat) (v1 : Int32) (v2 : Int32) (v3 : Int32) (v4 : Int32) (v5 : Int32) (v6 : Int32) (v7 : Int32) (v8 : Int32) (v9 : Int32) (v10 : Int32) (H : Heap) (locs : List Loc) (ls : Array Slot), k98 S h0 v1 v2 v3 v4 v5 v6 v7 v8 v9 v10 = some (r, S') → xk Ym h0 = 9 → xP G Ym S H → va_S (xA G Ym) s.heap H locs → lv_has ls 11 [(0, .ref (xad G h0)), (1, .int v1), (2, .int v2), (3, .int v3), (4, .int v4), (5, .int v5), (6, .int v6), (7, .int v7), (8, .int v8), (9, .int v9), (10, .int v10)] → W p l e (xr 8 195) s m args below meth c H locs 0 0 (MQ below (xQi G Ym r S') args s 0 0 (xA G Ym)) (F0 m 98 ls [])) : ∀ (S : xS) (h0 : Nat) (v1 : Int32) (v2 : Int32) (v3 : Int32) (v4 : Int32) (v5 : Int32) (v6 : Int32) (v7 : Int32) (v9 : Int32) (v10 : Int32) (t0 : Int32) (t1 : Int32) (H : Heap) (locs : List Loc) (ls : Array Slot), jX9_saint_131 k75 k98 S h0 v1 v2 v3 v4 v5 v6 v7 v9 v10 t0 t1 = some (r, S') → xk Ym h0 = 9 → xP G Ym S H → va_S (xA G Ym) s.heap H locs → lv_has ls 11 [(0, .ref (xad G h0)), (1, .int v1), (2, .int v2), (3, .int v3), (4, .int v4), (5, .int v5), (6, .int v6), (7, .int v7), (9, .int v9), (10, .int v10)] → W p l e (xr 8 195) s m args below meth c H locs 0 0 (MQ below (xQi G Ym r S') args s 0 0 (xA G Ym)) (F0 m 131 ls [.int t0, .int t1]) := by
  obtain ⟨hx, hb, hml, hown, hts, hr, hlk, hK, hE, hJ⟩ := id X
  intro S h0 v1 v2 v3 v4 v5 v6 v7 v9 v10 t0 t1 H locs ls hM hk0 hP hS hl
  unfold jX9_saint_131 at hM
  refine lv_ior hx hb dX9_saint_131 ?_
  refine lv_istore (lv' := [(8, .int (t1 ||| t0)), (0, .ref (xad G h0)), (1, .int v1), (2, .int v2), (3, .int v3), (4, .int v4), (5, .int v5), (6, .int v6), (7, .int v7), (9, .int v9), (10, .int v10)]) hx hb dX9_saint_132 hl (by decide) rfl (fun ls hl => ?_)
  refine lv_iload hx hb dX9_saint_134 (lv_at hl 9 rfl) ?_
  refine lv_aload_n hx hb dX9_saint_136 rfl (lv_at hl 1 rfl) ?_
  refine lv_iload hx hb dX9_saint_137 (lv_at hl 8 rfl) ?_
  refine lv_iload hx hb dX9_saint_139 (lv_at hl 10 rfl) ?_
  obtain ⟨q1, eq1, hM⟩ := xb hM
  refine x_goi (x_runV (rest := [.int v9]) X (kX9_seatIn l G S h0 v7 v10 q1.1 q1.2 hk0 eq1) qw329 okX9_seatIn ⟨Nat.le_of_ble_eq_true rfl, Nat.le_of_ble_eq_true rfl⟩ hk0 (by decide) rfl hP hS rfl hl.1 rfl (Nat.le_of_ble_eq_true rfl) dX9_saint_141) hS (fun H locs hP hS => ?_)
  refine lv_aload_n hx hb dX9_saint_144 rfl (lv_at hl 1 rfl) ?_
  refine lv_iload hx hb dX9_saint_145 (lv_at hl 10 rfl) ?_
  obtain ⟨q2, eq2, hM⟩ := xb hM
  refine x_goi (x_runV (rest := [.int q1.1, .int v9]) X (kX9_seatOf l G q1.2 h0 v10 q2.1 q2.2 hk0 eq2) qw298 okX9_seatOf ⟨Nat.le_of_ble_eq_true rfl, Nat.le_of_ble_eq_true rfl⟩ hk0 (by decide) rfl hP hS rfl hl.1 rfl (Nat.le_of_ble_eq_true rfl) dX9_saint_147) hS (fun H locs hP hS => ?_)
  refine lv_icmp_eq (tgt := 157) hx hb dX9_saint_150 (by decide) (fun c3 => ?_) (fun c3 => ?_)
  · replace hM := (if_pos c3).symm.trans hM
    refine lv_iconst (v := 0) hx hb dX9_saint_157 (by decide) ?_
    refine lv_iadd hx hb dX9_saint_158 ?_
    refine lv_istore (lv' := [(9, .int (v9 + 0)), (8, .int (t1 ||| t0)), (0, .ref (xad G h0)), (1, .int v1), (2, .int v2), (3, .int v3), (4, .int v4), (5, .int v5), (6, .int v6), (7, .int v7), (10, .int v10)]) hx hb dX9_saint_159 hl (by decide) rfl (fun ls hl => ?_)
    refine lv_iinc (v := v10 + 1) (lv' := [(10, .int (v10 + 1)), (9, .int (v9 + 0)), (8, .int (t1 ||| t0)), (0, .ref (xad G h0)), (1, .int v1), (2, .int v2), (3, .int v3), (4, .int v4), (5, .int v5), (6, .int v6), (7, .int v7)]) hx hb dX9_saint_161 hl (k := 10) rfl (by first | rfl | exact congrArg (fun z => v10 + z) (by decide)) (by decide) rfl (fun ls hl => ?_)
    refine lv_goto (tgt := 98) hx hb dX9_saint_164 (by decide) ?_
    exact hh98 q2.2 h0 v1 v2 v3 v4 v5 v6 v7 (t1 ||| t0) (v9 + 0) (v10 + 1) _ _ _ hM hk0 hP hS (lv_sub hl [3, 4, 5, 6, 7, 8, 9, 10, 2, 1, 0] rfl)
  · replace hM := (if_neg c3).symm.trans hM
    refine lv_iconst (v := 1) hx hb dX9_saint_153 (by decide) ?_
    refine lv_goto (tgt := 158) hx hb dX9_saint_154 (by decide) ?_
    refine lv_iadd hx hb dX9_saint_158 ?_
    refine lv_istore (lv' := [(9, .int (v9 + 1)), (8, .int (t1 ||| t0)), (0, .ref (xad G h0)), (1, .int v1), (2, .int v2), (3, .int v3), (4, .int v4), (5, .int v5), (6, .int v6), (7, .int v7), (10, .int v10)]) hx hb dX9_saint_159 hl (by decide) rfl (fun ls hl => ?_)
    refine lv_iinc (v := v10 + 1) (lv' := [(10, .int (v10 + 1)), (9, .int (v9 + 1)), (8, .int (t1 ||| t0)), (0, .ref (xad G h0)), (1, .int v1), (2, .int v2), (3, .int v3), (4, .int v4), (5, .int v5), (6, .int v6), (7, .int v7)]) hx hb dX9_saint_161 hl (k := 10) rfl (by first | rfl | exact congrArg (fun z => v10 + z) (by decide)) (by decide) rfl (fun ls hl => ?_)
    refine lv_goto (tgt := 98) hx hb dX9_saint_164 (by decide) ?_
    exact hh98 q2.2 h0 v1 v2 v3 v4 v5 v6 v7 (t1 ||| t0) (v9 + 1) (v10 + 1) _ _ _ hM hk0 hP hS (lv_sub hl [3, 4, 5, 6, 7, 8, 9, 10, 2, 1, 0] rfl)
def lX9_saint_98 (k75 : xS → Nat → Int32 → Int32 → Int32 → Int32 → Int32 → Int32 → Int32 → Option (Int32 × xS)) : Nat → xS → Nat → Int32 → Int32 → Int32 → Int32 → Int32 → Int32 → Int32 → Int32 → Int32 → Int32 → Option (Int32 × xS)
  | 0, _, _, _, _, _, _, _, _, _, _, _, _ => none
  | n + 1, S, h0, v1, v2, v3, v4, v5, v6, v7, v8, v9, v10 => (dO Ym (gR S h0 0) 10).bind fun d1 => (aI Ym S d1 0).bind fun x2 => if (x2 ≤ v10 : Prop) then (if (v9 < v6 : Prop) then ((dO Ym (gR S h0 32) 10).bind fun d5 => (aI Ym S d5 v8).bind fun x6 => if (x6 = 0 : Prop) then ((dO Ym (gR S h0 32) 10).bind fun d8 => (mX9_isSaint S h0 v1 v2 v3 v8).bind fun q9 => if (q9.1 = 0 : Prop) then (jX9_saint_210 k75 (lX9_saint_98 k75 n) q9.2 h0 v1 v2 v3 v4 v5 v6 v7 v8 v9 1 v8 d8) else (jX9_saint_210 k75 (lX9_saint_98 k75 n) q9.2 h0 v1 v2 v3 v4 v5 v6 v7 v8 v9 2 v8 d8)) else (jX9_saint_211 k75 (lX9_saint_98 k75 n) S h0 v1 v2 v3 v4 v5 v6 v7 v8 v9)) else (k75 S h0 v1 v2 v3 v4 v5 v6 (v7 + 1))) else ((mX9_seatIn S h0 v7 v10).bind fun q11 => if (q11.1 = v1 : Prop) then (jX9_saint_131 k75 (lX9_saint_98 k75 n) q11.2 h0 v1 v2 v3 v4 v5 v6 v7 v9 v10 (1 <<< (v10 &&& 31)) v8) else (jX9_saint_131 k75 (lX9_saint_98 k75 n) q11.2 h0 v1 v2 v3 v4 v5 v6 v7 v9 v10 0 v8))
set_option maxHeartbeats 4000000 in
set_option maxRecDepth 100000 in
theorem wX9_saint_98 {p : Program} {l : Launch} {e : Env} {s : State} {m : MethodId} {args : Array Value} {below : List Frame} {meth : Method} {c : Code} {G : xG} {r : Int32} {S' : xS} (X : xX p s m args meth c cX9_saint 11 (some .int) RX9 G Ym) (k75 : xS → Nat → Int32 → Int32 → Int32 → Int32 → Int32 → Int32 → Int32 → Option (Int32 × xS)) (hh75 : ∀ (S : xS) (h0 : Nat) (v1 : Int32) (v2 : Int32) (v3 : Int32) (v4 : Int32) (v5 : Int32) (v6 : Int32) (v7 : Int32) (H : Heap) (locs : List Loc) (ls : Array Slot), k75 S h0 v1 v2 v3 v4 v5 v6 v7 = some (r, S') → xk Ym h0 = 9 → xP G Ym S H → va_S (xA G Ym) s.heap H locs → lv_has ls 11 [(0, .ref (xad G h0)), (1, .int v1), (2, .int v2), (3, .int v3), (4, .int v4), (5, .int v5), (6, .int v6), (7, .int v7)] → W p l e (xr 8 195) s m args below meth c H locs 0 0 (MQ below (xQi G Ym r S') args s 0 0 (xA G Ym)) (F0 m 75 ls [])) : ∀ (n : Nat), ∀ (S : xS) (h0 : Nat) (v1 : Int32) (v2 : Int32) (v3 : Int32) (v4 : Int32) (v5 : Int32) (v6 : Int32) (v7 : Int32) (v8 : Int32) (v9 : Int32) (v10 : Int32) (H : Heap) (locs : List Loc) (ls : Array Slot), lX9_saint_98 k75 n S h0 v1 v2 v3 v4 v5 v6 v7 v8 v9 v10 = some (r, S') → xk Ym h0 = 9 → xP G Ym S H → va_S (xA G Ym) s.heap H locs → lv_has ls 11 [(0, .ref (xad G h0)), (1, .int v1), (2, .int v2), (3, .int v3), (4, .int v4), (5, .int v5), (6, .int v6), (7, .int v7), (8, .int v8), (9, .int v9), (10, .int v10)] → W p l e (xr 8 195) s m args below meth c H locs 0 0 (MQ below (xQi G Ym r S') args s 0 0 (xA G Ym)) (F0 m 98 ls []) := by
  obtain ⟨hx, hb, hml, hown, hts, hr, hlk, hK, hE, hJ⟩ := id X
  intro n
  induction n with
  | zero =>
    intro S h0 v1 v2 v3 v4 v5 v6 v7 v8 v9 v10 H locs ls hM
    rw [lX9_saint_98.eq_1] at hM
    cases hM
  | succ n ih =>
    intro S h0 v1 v2 v3 v4 v5 v6 v7 v8 v9 v10 H locs ls hM hk0 hP hS hl
    rw [lX9_saint_98.eq_2] at hM
    refine lv_iload hx hb dX9_saint_98 (lv_at hl 10 rfl) ?_
    refine lv_aload_n hx hb dX9_saint_100 rfl (lv_at hl 0 rfl) ?_
    obtain ⟨d1, ed1, hM⟩ := xb hM
    refine fdX9_0 X hP hk0 qw227 dX9_saint_101 ed1 ?_
    refine lv_iconst (v := 0) hx hb dX9_saint_104 (by decide) ?_
    obtain ⟨x2, ex2, hM⟩ := xb hM
    refine x_iald X hP (dO_k ed1) ex2 dX9_saint_105 ?_
    refine lv_icmp_ge (tgt := 167) hx hb dX9_saint_106 (by decide) (fun c3 => ?_) (fun c3 => ?_)
    · replace hM := (if_pos c3).symm.trans hM
      refine lv_iload hx hb dX9_saint_167 (lv_at hl 9 rfl) ?_
      refine lv_iload hx hb dX9_saint_169 (lv_at hl 6 rfl) ?_
      refine lv_icmp_lt (tgt := 177) hx hb dX9_saint_171 (by decide) (fun c4 => ?_) (fun c4 => ?_)
      · replace hM := (if_pos c4).symm.trans hM
        refine lv_aload_n hx hb dX9_saint_177 rfl (lv_at hl 0 rfl) ?_
        obtain ⟨d5, ed5, hM⟩ := xb hM
        refine fdX9_32 X hP hk0 qw328 dX9_saint_178 ed5 ?_
        refine lv_iload hx hb dX9_saint_181 (lv_at hl 8 rfl) ?_
        obtain ⟨x6, ex6, hM⟩ := xb hM
        refine x_iald X hP (dO_k ed5) ex6 dX9_saint_183 ?_
        refine lv_if_ne (tgt := 211) hx hb dX9_saint_184 (by decide) (fun c7 => ?_) (fun c7 => ?_)
        · replace hM := (if_neg c7).symm.trans hM
          exact wX9_saint_211 X k75 hh75 (lX9_saint_98 k75 n) ih S h0 v1 v2 v3 v4 v5 v6 v7 v8 v9 _ _ _ hM hk0 hP hS (lv_sub hl [0, 1, 2, 3, 4, 5, 6, 7, 8, 9] rfl)
        · replace hM := (if_pos c7).symm.trans hM
          refine lv_aload_n hx hb dX9_saint_187 rfl (lv_at hl 0 rfl) ?_
          obtain ⟨d8, ed8, hM⟩ := xb hM
          refine fdX9_32 X hP hk0 qw328 dX9_saint_188 ed8 ?_
          refine lv_iload hx hb dX9_saint_191 (lv_at hl 8 rfl) ?_
          refine lv_aload_n hx hb dX9_saint_193 rfl (lv_at hl 0 rfl) ?_
          refine lv_iload_n hx hb dX9_saint_194 rfl (lv_at hl 1 rfl) ?_
          refine lv_iload_n hx hb dX9_saint_195 rfl (lv_at hl 2 rfl) ?_
          refine lv_iload_n hx hb dX9_saint_196 rfl (lv_at hl 3 rfl) ?_
          refine lv_iload hx hb dX9_saint_197 (lv_at hl 8 rfl) ?_
          obtain ⟨q9, eq9, hM⟩ := xb hM
          refine x_goi (x_runV (rest := [.int v8, .ref (xad G d8)]) X (kX9_isSaint l G S h0 v1 v2 v3 v8 q9.1 q9.2 hk0 eq9) qw330 okX9_isSaint ⟨Nat.le_of_ble_eq_true rfl, Nat.le_of_ble_eq_true rfl⟩ hk0 (by decide) rfl hP hS rfl hl.1 rfl (Nat.le_of_ble_eq_true rfl) dX9_saint_199) hS (fun H locs hP hS => ?_)
          refine lv_if_eq (tgt := 209) hx hb dX9_saint_202 (by decide) (fun c10 => ?_) (fun c10 => ?_)
          · replace hM := (if_pos c10).symm.trans hM
            refine lv_iconst (v := 1) hx hb dX9_saint_209 (by decide) ?_
            exact wX9_saint_210 X k75 hh75 (lX9_saint_98 k75 n) ih q9.2 h0 v1 v2 v3 v4 v5 v6 v7 v8 v9 1 v8 d8 _ _ _ hM hk0 (dO_k ed8) hP hS (lv_sub hl [0, 1, 2, 3, 4, 5, 6, 7, 8, 9] rfl)
          · replace hM := (if_neg c10).symm.trans hM
            refine lv_iconst (v := 2) hx hb dX9_saint_205 (by decide) ?_
            refine lv_goto (tgt := 210) hx hb dX9_saint_206 (by decide) ?_
            exact wX9_saint_210 X k75 hh75 (lX9_saint_98 k75 n) ih q9.2 h0 v1 v2 v3 v4 v5 v6 v7 v8 v9 2 v8 d8 _ _ _ hM hk0 (dO_k ed8) hP hS (lv_sub hl [0, 1, 2, 3, 4, 5, 6, 7, 8, 9] rfl)
      · replace hM := (if_neg c4).symm.trans hM
        refine lv_goto (tgt := 233) hx hb dX9_saint_174 (by decide) ?_
        refine lv_iinc (v := v7 + 1) (lv' := [(7, .int (v7 + 1)), (0, .ref (xad G h0)), (1, .int v1), (2, .int v2), (3, .int v3), (4, .int v4), (5, .int v5), (6, .int v6), (8, .int v8), (9, .int v9), (10, .int v10)]) hx hb dX9_saint_233 hl (k := 7) rfl (by first | rfl | exact congrArg (fun z => v7 + z) (by decide)) (by decide) rfl (fun ls hl => ?_)
        refine lv_goto (tgt := 75) hx hb dX9_saint_236 (by decide) ?_
        exact hh75 S h0 v1 v2 v3 v4 v5 v6 (v7 + 1) _ _ _ hM hk0 hP hS (lv_sub hl [1, 2, 3, 4, 5, 6, 7, 0] rfl)
    · replace hM := (if_neg c3).symm.trans hM
      refine lv_iload hx hb dX9_saint_109 (lv_at hl 8 rfl) ?_
      refine lv_aload_n hx hb dX9_saint_111 rfl (lv_at hl 0 rfl) ?_
      refine lv_iload hx hb dX9_saint_112 (lv_at hl 7 rfl) ?_
      refine lv_iload hx hb dX9_saint_114 (lv_at hl 10 rfl) ?_
      obtain ⟨q11, eq11, hM⟩ := xb hM
      refine x_goi (x_runV (rest := [.int v8]) X (kX9_seatIn l G S h0 v7 v10 q11.1 q11.2 hk0 eq11) qw329 okX9_seatIn ⟨Nat.le_of_ble_eq_true rfl, Nat.le_of_ble_eq_true rfl⟩ hk0 (by decide) rfl hP hS rfl hl.1 rfl (Nat.le_of_ble_eq_true rfl) dX9_saint_116) hS (fun H locs hP hS => ?_)
      refine lv_iload_n hx hb dX9_saint_119 rfl (lv_at hl 1 rfl) ?_
      refine lv_icmp_ne (tgt := 130) hx hb dX9_saint_120 (by decide) (fun c12 => ?_) (fun c12 => ?_)
      · replace hM := (if_neg c12).symm.trans hM
        refine lv_iconst (v := 0) hx hb dX9_saint_130 (by decide) ?_
        exact wX9_saint_131 X k75 hh75 (lX9_saint_98 k75 n) ih q11.2 h0 v1 v2 v3 v4 v5 v6 v7 v9 v10 0 v8 _ _ _ hM hk0 hP hS (lv_sub hl [0, 1, 2, 3, 4, 5, 6, 7, 9, 10] rfl)
      · replace hM := (if_pos c12).symm.trans hM
        refine lv_iconst (v := 1) hx hb dX9_saint_123 (by decide) ?_
        refine lv_iload hx hb dX9_saint_124 (lv_at hl 10 rfl) ?_
        refine lv_ishl hx hb dX9_saint_126 ?_
        refine lv_goto (tgt := 131) hx hb dX9_saint_127 (by decide) ?_
        exact wX9_saint_131 X k75 hh75 (lX9_saint_98 k75 n) ih q11.2 h0 v1 v2 v3 v4 v5 v6 v7 v9 v10 (1 <<< (v10 &&& 31)) v8 _ _ _ hM hk0 hP hS (lv_sub hl [0, 1, 2, 3, 4, 5, 6, 7, 9, 10] rfl)
def lX9_saint_75 : Nat → xS → Nat → Int32 → Int32 → Int32 → Int32 → Int32 → Int32 → Int32 → Option (Int32 × xS)
  | 0, _, _, _, _, _, _, _, _, _ => none
  | n + 1, S, h0, v1, v2, v3, v4, v5, v6, v7 => (dO Ym (gR S h0 0) 10).bind fun d1 => (aI Ym S d1 0).bind fun x2 => (mX9_power S x2).bind fun q3 => if (q3.1 ≤ v7 : Prop) then (if (0 ≤ v5 : Prop) then (if (v4 = (-1) : Prop) then (some (v6, q3.2)) else ((mX9_seatIn q3.2 h0 v5 v4).bind fun q7 => some (q7.1, q7.2))) else (some ((-1), q3.2))) else (lX9_saint_98 (lX9_saint_75  n) 5000 q3.2 h0 v1 v2 v3 v4 v5 v6 v7 0 0 0)
set_option maxHeartbeats 4000000 in
set_option maxRecDepth 100000 in
theorem wX9_saint_75 {p : Program} {l : Launch} {e : Env} {s : State} {m : MethodId} {args : Array Value} {below : List Frame} {meth : Method} {c : Code} {G : xG} {r : Int32} {S' : xS} (X : xX p s m args meth c cX9_saint 11 (some .int) RX9 G Ym) : ∀ (n : Nat), ∀ (S : xS) (h0 : Nat) (v1 : Int32) (v2 : Int32) (v3 : Int32) (v4 : Int32) (v5 : Int32) (v6 : Int32) (v7 : Int32) (H : Heap) (locs : List Loc) (ls : Array Slot), lX9_saint_75  n S h0 v1 v2 v3 v4 v5 v6 v7 = some (r, S') → xk Ym h0 = 9 → xP G Ym S H → va_S (xA G Ym) s.heap H locs → lv_has ls 11 [(0, .ref (xad G h0)), (1, .int v1), (2, .int v2), (3, .int v3), (4, .int v4), (5, .int v5), (6, .int v6), (7, .int v7)] → W p l e (xr 8 195) s m args below meth c H locs 0 0 (MQ below (xQi G Ym r S') args s 0 0 (xA G Ym)) (F0 m 75 ls []) := by
  obtain ⟨hx, hb, hml, hown, hts, hr, hlk, hK, hE, hJ⟩ := id X
  intro n
  induction n with
  | zero =>
    intro S h0 v1 v2 v3 v4 v5 v6 v7 H locs ls hM
    rw [lX9_saint_75.eq_1] at hM
    cases hM
  | succ n ih =>
    intro S h0 v1 v2 v3 v4 v5 v6 v7 H locs ls hM hk0 hP hS hl
    rw [lX9_saint_75.eq_2] at hM
    refine lv_iload hx hb dX9_saint_75 (lv_at hl 7 rfl) ?_
    refine lv_aload_n hx hb dX9_saint_77 rfl (lv_at hl 0 rfl) ?_
    obtain ⟨d1, ed1, hM⟩ := xb hM
    refine fdX9_0 X hP hk0 qw227 dX9_saint_78 ed1 ?_
    refine lv_iconst (v := 0) hx hb dX9_saint_81 (by decide) ?_
    obtain ⟨x2, ex2, hM⟩ := xb hM
    refine x_iald X hP (dO_k ed1) ex2 dX9_saint_82 ?_
    obtain ⟨q3, eq3, hM⟩ := xb hM
    refine x_goi (x_runS (rest := [.int v7]) X (kX9_power l G S x2 q3.1 q3.2  eq3) qw327 okX9_power ⟨Nat.le_of_ble_eq_true rfl, Nat.le_of_ble_eq_true rfl⟩ hP hS rfl hl.1 rfl (Nat.le_of_ble_eq_true rfl) dX9_saint_83) hS (fun H locs hP hS => ?_)
    refine lv_icmp_ge (tgt := 239) hx hb dX9_saint_86 (by decide) (fun c4 => ?_) (fun c4 => ?_)
    · replace hM := (if_pos c4).symm.trans hM
      refine lv_iload hx hb dX9_saint_239 (lv_at hl 5 rfl) ?_
      refine lv_if_ge (tgt := 246) hx hb dX9_saint_241 (by decide) (fun c5 => ?_) (fun c5 => ?_)
      · replace hM := (if_pos c5).symm.trans hM
        refine lv_iload hx hb dX9_saint_246 (lv_at hl 4 rfl) ?_
        refine lv_iconst (v := (-1)) hx hb dX9_saint_248 (by decide) ?_
        refine lv_icmp_ne (tgt := 257) hx hb dX9_saint_249 (by decide) (fun c6 => ?_) (fun c6 => ?_)
        · replace hM := (if_neg c6).symm.trans hM
          refine lv_aload_n hx hb dX9_saint_257 rfl (lv_at hl 0 rfl) ?_
          refine lv_iload hx hb dX9_saint_258 (lv_at hl 5 rfl) ?_
          refine lv_iload hx hb dX9_saint_260 (lv_at hl 4 rfl) ?_
          obtain ⟨q7, eq7, hM⟩ := xb hM
          refine x_goi (x_runV (rest := []) X (kX9_seatIn l G q3.2 h0 v5 v4 q7.1 q7.2 hk0 eq7) qw329 okX9_seatIn ⟨Nat.le_of_ble_eq_true rfl, Nat.le_of_ble_eq_true rfl⟩ hk0 (by decide) rfl hP hS rfl hl.1 rfl (Nat.le_of_ble_eq_true rfl) dX9_saint_262) hS (fun H locs hP hS => ?_)
          exact x_iret X hP hS hM dX9_saint_265
        · replace hM := (if_pos c6).symm.trans hM
          refine lv_iload hx hb dX9_saint_252 (lv_at hl 6 rfl) ?_
          refine lv_goto (tgt := 265) hx hb dX9_saint_254 (by decide) ?_
          exact x_iret X hP hS hM dX9_saint_265
      · replace hM := (if_neg c5).symm.trans hM
        refine lv_iconst (v := (-1)) hx hb dX9_saint_244 (by decide) ?_
        exact x_iret X hP hS hM dX9_saint_245
    · replace hM := (if_neg c4).symm.trans hM
      refine lv_iconst (v := 0) hx hb dX9_saint_89 (by decide) ?_
      refine lv_istore (lv' := [(8, .int 0), (0, .ref (xad G h0)), (1, .int v1), (2, .int v2), (3, .int v3), (4, .int v4), (5, .int v5), (6, .int v6), (7, .int v7)]) hx hb dX9_saint_90 hl (by decide) rfl (fun ls hl => ?_)
      refine lv_iconst (v := 0) hx hb dX9_saint_92 (by decide) ?_
      refine lv_istore (lv' := [(9, .int 0), (8, .int 0), (0, .ref (xad G h0)), (1, .int v1), (2, .int v2), (3, .int v3), (4, .int v4), (5, .int v5), (6, .int v6), (7, .int v7)]) hx hb dX9_saint_93 hl (by decide) rfl (fun ls hl => ?_)
      refine lv_iconst (v := 0) hx hb dX9_saint_95 (by decide) ?_
      refine lv_istore (lv' := [(10, .int 0), (9, .int 0), (8, .int 0), (0, .ref (xad G h0)), (1, .int v1), (2, .int v2), (3, .int v3), (4, .int v4), (5, .int v5), (6, .int v6), (7, .int v7)]) hx hb dX9_saint_96 hl (by decide) rfl (fun ls hl => ?_)
      exact wX9_saint_98 X (lX9_saint_75  n) ih 5000 q3.2 h0 v1 v2 v3 v4 v5 v6 v7 0 0 0 _ _ _ hM hk0 hP hS (lv_sub hl [3, 4, 5, 6, 7, 8, 9, 10, 2, 1, 0] rfl)
def lX9_saint_44 : Nat → xS → Nat → Int32 → Int32 → Int32 → Int32 → Int32 → Option (Int32 × xS)
  | 0, _, _, _, _, _, _, _ => none
  | n + 1, S, h0, v1, v2, v3, v4, v5 => if (64 ≤ v5 : Prop) then (lX9_saint_75  5000 S h0 v1 v2 v3 v4 (-1) 100 0) else ((dO Ym (gR S h0 32) 10).bind fun d2 => (sI Ym S d2 v5 0).bind fun S3 => lX9_saint_44 n S3 h0 v1 v2 v3 v4 (v5 + 1))
set_option maxHeartbeats 4000000 in
set_option maxRecDepth 100000 in
theorem wX9_saint_44 {p : Program} {l : Launch} {e : Env} {s : State} {m : MethodId} {args : Array Value} {below : List Frame} {meth : Method} {c : Code} {G : xG} {r : Int32} {S' : xS} (X : xX p s m args meth c cX9_saint 11 (some .int) RX9 G Ym) : ∀ (n : Nat), ∀ (S : xS) (h0 : Nat) (v1 : Int32) (v2 : Int32) (v3 : Int32) (v4 : Int32) (v5 : Int32) (H : Heap) (locs : List Loc) (ls : Array Slot), lX9_saint_44  n S h0 v1 v2 v3 v4 v5 = some (r, S') → xk Ym h0 = 9 → xP G Ym S H → va_S (xA G Ym) s.heap H locs → lv_has ls 11 [(0, .ref (xad G h0)), (1, .int v1), (2, .int v2), (3, .int v3), (4, .int v4), (5, .int v5)] → W p l e (xr 8 195) s m args below meth c H locs 0 0 (MQ below (xQi G Ym r S') args s 0 0 (xA G Ym)) (F0 m 44 ls []) := by
  obtain ⟨hx, hb, hml, hown, hts, hr, hlk, hK, hE, hJ⟩ := id X
  intro n
  induction n with
  | zero =>
    intro S h0 v1 v2 v3 v4 v5 H locs ls hM
    rw [lX9_saint_44.eq_1] at hM
    cases hM
  | succ n ih =>
    intro S h0 v1 v2 v3 v4 v5 H locs ls hM hk0 hP hS hl
    rw [lX9_saint_44.eq_2] at hM
    refine lv_iload hx hb dX9_saint_44 (lv_at hl 5 rfl) ?_
    refine lv_bipush (v := 64) hx hb dX9_saint_46 (by decide) ?_
    refine lv_icmp_ge (tgt := 65) hx hb dX9_saint_48 (by decide) (fun c1 => ?_) (fun c1 => ?_)
    · replace hM := (if_pos c1).symm.trans hM
      refine lv_iconst (v := (-1)) hx hb dX9_saint_65 (by decide) ?_
      refine lv_istore (lv' := [(5, .int (-1)), (0, .ref (xad G h0)), (1, .int v1), (2, .int v2), (3, .int v3), (4, .int v4)]) hx hb dX9_saint_66 hl (by decide) rfl (fun ls hl => ?_)
      refine lv_bipush (v := 100) hx hb dX9_saint_68 (by decide) ?_
      refine lv_istore (lv' := [(6, .int 100), (5, .int (-1)), (0, .ref (xad G h0)), (1, .int v1), (2, .int v2), (3, .int v3), (4, .int v4)]) hx hb dX9_saint_70 hl (by decide) rfl (fun ls hl => ?_)
      refine lv_iconst (v := 0) hx hb dX9_saint_72 (by decide) ?_
      refine lv_istore (lv' := [(7, .int 0), (6, .int 100), (5, .int (-1)), (0, .ref (xad G h0)), (1, .int v1), (2, .int v2), (3, .int v3), (4, .int v4)]) hx hb dX9_saint_73 hl (by decide) rfl (fun ls hl => ?_)
      exact wX9_saint_75 X  5000 S h0 v1 v2 v3 v4 (-1) 100 0 _ _ _ hM hk0 hP hS (lv_sub hl [3, 4, 5, 6, 7, 2, 1, 0] rfl)
    · replace hM := (if_neg c1).symm.trans hM
      refine lv_aload_n hx hb dX9_saint_51 rfl (lv_at hl 0 rfl) ?_
      obtain ⟨d2, ed2, hM⟩ := xb hM
      refine fdX9_32 X hP hk0 qw328 dX9_saint_52 ed2 ?_
      refine lv_iload hx hb dX9_saint_55 (lv_at hl 5 rfl) ?_
      refine lv_iconst (v := 0) hx hb dX9_saint_57 (by decide) ?_
      obtain ⟨S3, eS3, hM⟩ := xb hM
      refine x_iast X hP hS (dO_k ed2) eS3 dX9_saint_58 (fun H locs hP hS => ?_)
      refine lv_iinc (v := v5 + 1) (lv' := [(5, .int (v5 + 1)), (0, .ref (xad G h0)), (1, .int v1), (2, .int v2), (3, .int v3), (4, .int v4)]) hx hb dX9_saint_59 hl (k := 5) rfl (by first | rfl | exact congrArg (fun z => v5 + z) (by decide)) (by decide) rfl (fun ls hl => ?_)
      refine lv_goto (tgt := 44) hx hb dX9_saint_62 (by decide) ?_
      exact ih S3 h0 v1 v2 v3 v4 (v5 + 1) _ _ _ hM hk0 hP hS (lv_sub hl [1, 2, 3, 4, 5, 0] rfl)
def mX9_saint (S : xS) (h0 : Nat) (p1 : Int32) (p2 : Int32) (p3 : Int32) (p4 : Int32) : Option (Int32 × xS) := (mX9_isTable S p1).bind fun q1 => if (q1.1 = 0 : Prop) then (some ((-1), q1.2)) else ((mX9_isDay q1.2 p2).bind fun q3 => if (q3.1 = 0 : Prop) then (some ((-1), q3.2)) else ((mX9_isIn q3.2 p3 1 30).bind fun q5 => if (q5.1 = 0 : Prop) then (some ((-1), q5.2)) else (if (p4 = (-1) : Prop) then (lX9_saint_44  5000 q5.2 h0 p1 p2 p3 p4 0) else ((mX9_isSister q5.2 h0 p4).bind fun q8 => if (q8.1 = 0 : Prop) then (some ((-1), q8.2)) else (lX9_saint_44  5000 q8.2 h0 p1 p2 p3 p4 0)))))
set_option maxHeartbeats 4000000 in
set_option maxRecDepth 100000 in
theorem kX9_saint (l : Launch) (G : xG) (S : xS) (h0 : Nat) (p1 : Int32) (p2 : Int32) (p3 : Int32) (p4 : Int32) (r : Int32) (S' : xS) (hk0 : xk Ym h0 = 9) (hM : mX9_saint S h0 p1 p2 p3 p4 = some (r, S')) : xM l yX9_saint cX9_saint 11 (some .int) 8 195 G Ym [.ref (xad G h0), .int p1, .int p2, .int p3, .int p4] S (xQi G Ym r S') := by
  refine x_start (own := RX9) (by decide +kernel) rfl (Nat.le_of_ble_eq_true rfl) ?_
  intro p e s m below meth c ls X hl hP hS
  obtain ⟨hx, hb, hml, hown, hts, hr, hlk, hK, hE, hJ⟩ := id X
  have hl : lv_has ls 11 [(0, .ref (xad G h0)), (1, .int p1), (2, .int p2), (3, .int p3), (4, .int p4)] := hl
  unfold mX9_saint at hM
  refine lv_iload_n hx hb dX9_saint_0 rfl (lv_at hl 1 rfl) ?_
  obtain ⟨q1, eq1, hM⟩ := xb hM
  refine x_goi (x_runS (rest := []) X (kX9_isTable l G S p1 q1.1 q1.2  eq1) qw295 okX9_isTable ⟨Nat.le_of_ble_eq_true rfl, Nat.le_of_ble_eq_true rfl⟩ hP hS rfl hl.1 rfl (Nat.le_of_ble_eq_true rfl) dX9_saint_1) hS (fun H locs hP hS => ?_)
  refine lv_if_eq (tgt := 39) hx hb dX9_saint_4 (by decide) (fun c2 => ?_) (fun c2 => ?_)
  · replace hM := (if_pos c2).symm.trans hM
    refine lv_iconst (v := (-1)) hx hb dX9_saint_39 (by decide) ?_
    exact x_iret X hP hS hM dX9_saint_40
  · replace hM := (if_neg c2).symm.trans hM
    refine lv_iload_n hx hb dX9_saint_7 rfl (lv_at hl 2 rfl) ?_
    obtain ⟨q3, eq3, hM⟩ := xb hM
    refine x_goi (x_runS (rest := []) X (kX9_isDay l G q1.2 p2 q3.1 q3.2  eq3) qw296 okX9_isDay ⟨Nat.le_of_ble_eq_true rfl, Nat.le_of_ble_eq_true rfl⟩ hP hS rfl hl.1 rfl (Nat.le_of_ble_eq_true rfl) dX9_saint_8) hS (fun H locs hP hS => ?_)
    refine lv_if_eq (tgt := 39) hx hb dX9_saint_11 (by decide) (fun c4 => ?_) (fun c4 => ?_)
    · replace hM := (if_pos c4).symm.trans hM
      refine lv_iconst (v := (-1)) hx hb dX9_saint_39 (by decide) ?_
      exact x_iret X hP hS hM dX9_saint_40
    · replace hM := (if_neg c4).symm.trans hM
      refine lv_iload_n hx hb dX9_saint_14 rfl (lv_at hl 3 rfl) ?_
      refine lv_iconst (v := 1) hx hb dX9_saint_15 (by decide) ?_
      refine lv_bipush (v := 30) hx hb dX9_saint_16 (by decide) ?_
      obtain ⟨q5, eq5, hM⟩ := xb hM
      refine x_goi (x_runS (rest := []) X (kX9_isIn l G q3.2 p3 1 30 q5.1 q5.2  eq5) qw228 okX9_isIn ⟨Nat.le_of_ble_eq_true rfl, Nat.le_of_ble_eq_true rfl⟩ hP hS rfl hl.1 rfl (Nat.le_of_ble_eq_true rfl) dX9_saint_18) hS (fun H locs hP hS => ?_)
      refine lv_if_eq (tgt := 39) hx hb dX9_saint_21 (by decide) (fun c6 => ?_) (fun c6 => ?_)
      · replace hM := (if_pos c6).symm.trans hM
        refine lv_iconst (v := (-1)) hx hb dX9_saint_39 (by decide) ?_
        exact x_iret X hP hS hM dX9_saint_40
      · replace hM := (if_neg c6).symm.trans hM
        refine lv_iload hx hb dX9_saint_24 (lv_at hl 4 rfl) ?_
        refine lv_iconst (v := (-1)) hx hb dX9_saint_26 (by decide) ?_
        refine lv_icmp_eq (tgt := 41) hx hb dX9_saint_27 (by decide) (fun c7 => ?_) (fun c7 => ?_)
        · replace hM := (if_pos c7).symm.trans hM
          refine lv_iconst (v := 0) hx hb dX9_saint_41 (by decide) ?_
          refine lv_istore (lv' := [(5, .int 0), (0, .ref (xad G h0)), (1, .int p1), (2, .int p2), (3, .int p3), (4, .int p4)]) hx hb dX9_saint_42 hl (by decide) rfl (fun ls hl => ?_)
          exact wX9_saint_44 X  5000 q5.2 h0 p1 p2 p3 p4 0 _ _ _ hM hk0 hP hS (lv_sub hl [1, 2, 3, 4, 5, 0] rfl)
        · replace hM := (if_neg c7).symm.trans hM
          refine lv_aload_n hx hb dX9_saint_30 rfl (lv_at hl 0 rfl) ?_
          refine lv_iload hx hb dX9_saint_31 (lv_at hl 4 rfl) ?_
          obtain ⟨q8, eq8, hM⟩ := xb hM
          refine x_goi (x_runV (rest := []) X (kX9_isSister l G q5.2 h0 p4 q8.1 q8.2 hk0 eq8) qw309 okX9_isSister ⟨Nat.le_of_ble_eq_true rfl, Nat.le_of_ble_eq_true rfl⟩ hk0 (by decide) rfl hP hS rfl hl.1 rfl (Nat.le_of_ble_eq_true rfl) dX9_saint_33) hS (fun H locs hP hS => ?_)
          refine lv_if_ne (tgt := 41) hx hb dX9_saint_36 (by decide) (fun c9 => ?_) (fun c9 => ?_)
          · replace hM := (if_neg c9).symm.trans hM
            refine lv_iconst (v := 0) hx hb dX9_saint_41 (by decide) ?_
            refine lv_istore (lv' := [(5, .int 0), (0, .ref (xad G h0)), (1, .int p1), (2, .int p2), (3, .int p3), (4, .int p4)]) hx hb dX9_saint_42 hl (by decide) rfl (fun ls hl => ?_)
            exact wX9_saint_44 X  5000 q8.2 h0 p1 p2 p3 p4 0 _ _ _ hM hk0 hP hS (lv_sub hl [1, 2, 3, 4, 5, 0] rfl)
          · replace hM := (if_pos c9).symm.trans hM
            refine lv_iconst (v := (-1)) hx hb dX9_saint_39 (by decide) ?_
            exact x_iret X hP hS hM dX9_saint_40

def mX9_seen (S : xS) (h0 : Nat) (p1 : Int32) : Option (Int32 × xS) := if (p1 = (-1) : Prop) then ((dO Ym (gR S h0 0) 10).bind fun d16 => (sI Ym S d16 7 0).bind fun S17 => some (0, S17)) else ((mX9_isIn S p1 0 60).bind fun q2 => if (q2.1 = 0 : Prop) then (some ((-2), q2.2)) else ((dO Ym (gR q2.2 h0 0) 10).bind fun d4 => (aI Ym q2.2 d4 7).bind fun x5 => if (x5 = 8 : Prop) then (some ((-2), q2.2)) else ((dO Ym (gR q2.2 h0 0) 10).bind fun d7 => (dO Ym (gR q2.2 h0 0) 10).bind fun d8 => (aI Ym q2.2 d8 7).bind fun x9 => (sI Ym q2.2 d7 (28 + x9) p1).bind fun S10 => (dO Ym (gR S10 h0 0) 10).bind fun d11 => (aI Ym S10 d11 7).bind fun x12 => (sI Ym S10 d11 7 (x12 + 1)).bind fun S13 => (dO Ym (gR S13 h0 0) 10).bind fun d14 => (aI Ym S13 d14 7).bind fun x15 => some (x15, S13))))
set_option maxHeartbeats 4000000 in
set_option maxRecDepth 100000 in
theorem kX9_seen (l : Launch) (G : xG) (S : xS) (h0 : Nat) (p1 : Int32) (r : Int32) (S' : xS) (hk0 : xk Ym h0 = 9) (hM : mX9_seen S h0 p1 = some (r, S')) : xM l yX9_seen cX9_seen 2 (some .int) 1 22 G Ym [.ref (xad G h0), .int p1] S (xQi G Ym r S') := by
  refine x_start (own := RX9) (by decide +kernel) rfl (Nat.le_of_ble_eq_true rfl) ?_
  intro p e s m below meth c ls X hl hP hS
  obtain ⟨hx, hb, hml, hown, hts, hr, hlk, hK, hE, hJ⟩ := id X
  have hl : lv_has ls 2 [(0, .ref (xad G h0)), (1, .int p1)] := hl
  unfold mX9_seen at hM
  refine lv_iload_n hx hb dX9_seen_0 rfl (lv_at hl 1 rfl) ?_
  refine lv_iconst (v := (-1)) hx hb dX9_seen_1 (by decide) ?_
  refine lv_icmp_ne (tgt := 15) hx hb dX9_seen_2 (by decide) (fun c1 => ?_) (fun c1 => ?_)
  · replace hM := (if_neg c1).symm.trans hM
    refine lv_iload_n hx hb dX9_seen_15 rfl (lv_at hl 1 rfl) ?_
    refine lv_iconst (v := 0) hx hb dX9_seen_16 (by decide) ?_
    refine lv_bipush (v := 60) hx hb dX9_seen_17 (by decide) ?_
    obtain ⟨q2, eq2, hM⟩ := xb hM
    refine x_goi (x_runS (rest := []) X (kX9_isIn l G S p1 0 60 q2.1 q2.2  eq2) qw228 okX9_isIn ⟨Nat.le_of_ble_eq_true rfl, Nat.le_of_ble_eq_true rfl⟩ hP hS rfl hl.1 rfl (Nat.le_of_ble_eq_true rfl) dX9_seen_19) hS (fun H locs hP hS => ?_)
    refine lv_if_eq (tgt := 37) hx hb dX9_seen_22 (by decide) (fun c3 => ?_) (fun c3 => ?_)
    · replace hM := (if_pos c3).symm.trans hM
      refine lv_bipush (v := (-2)) hx hb dX9_seen_37 (by decide) ?_
      exact x_iret X hP hS hM dX9_seen_39
    · replace hM := (if_neg c3).symm.trans hM
      refine lv_aload_n hx hb dX9_seen_25 rfl (lv_at hl 0 rfl) ?_
      obtain ⟨d4, ed4, hM⟩ := xb hM
      refine fdX9_0 X hP hk0 qw227 dX9_seen_26 ed4 ?_
      refine lv_bipush (v := 7) hx hb dX9_seen_29 (by decide) ?_
      obtain ⟨x5, ex5, hM⟩ := xb hM
      refine x_iald X hP (dO_k ed4) ex5 dX9_seen_31 ?_
      refine lv_bipush (v := 8) hx hb dX9_seen_32 (by decide) ?_
      refine lv_icmp_ne (tgt := 40) hx hb dX9_seen_34 (by decide) (fun c6 => ?_) (fun c6 => ?_)
      · replace hM := (if_neg c6).symm.trans hM
        refine lv_aload_n hx hb dX9_seen_40 rfl (lv_at hl 0 rfl) ?_
        obtain ⟨d7, ed7, hM⟩ := xb hM
        refine fdX9_0 X hP hk0 qw227 dX9_seen_41 ed7 ?_
        refine lv_bipush (v := 28) hx hb dX9_seen_44 (by decide) ?_
        refine lv_aload_n hx hb dX9_seen_46 rfl (lv_at hl 0 rfl) ?_
        obtain ⟨d8, ed8, hM⟩ := xb hM
        refine fdX9_0 X hP hk0 qw227 dX9_seen_47 ed8 ?_
        refine lv_bipush (v := 7) hx hb dX9_seen_50 (by decide) ?_
        obtain ⟨x9, ex9, hM⟩ := xb hM
        refine x_iald X hP (dO_k ed8) ex9 dX9_seen_52 ?_
        refine lv_iadd hx hb dX9_seen_53 ?_
        refine lv_iload_n hx hb dX9_seen_54 rfl (lv_at hl 1 rfl) ?_
        obtain ⟨S10, eS10, hM⟩ := xb hM
        refine x_iast X hP hS (dO_k ed7) eS10 dX9_seen_55 (fun H locs hP hS => ?_)
        refine lv_aload_n hx hb dX9_seen_56 rfl (lv_at hl 0 rfl) ?_
        obtain ⟨d11, ed11, hM⟩ := xb hM
        refine fdX9_0 X hP hk0 qw227 dX9_seen_57 ed11 ?_
        refine lv_bipush (v := 7) hx hb dX9_seen_60 (by decide) ?_
        refine lv_dup2_11 hx hb dX9_seen_62 rfl rfl ?_
        obtain ⟨x12, ex12, hM⟩ := xb hM
        refine x_iald X hP (dO_k ed11) ex12 dX9_seen_63 ?_
        refine lv_iconst (v := 1) hx hb dX9_seen_64 (by decide) ?_
        refine lv_iadd hx hb dX9_seen_65 ?_
        obtain ⟨S13, eS13, hM⟩ := xb hM
        refine x_iast X hP hS (dO_k ed11) eS13 dX9_seen_66 (fun H locs hP hS => ?_)
        refine lv_aload_n hx hb dX9_seen_67 rfl (lv_at hl 0 rfl) ?_
        obtain ⟨d14, ed14, hM⟩ := xb hM
        refine fdX9_0 X hP hk0 qw227 dX9_seen_68 ed14 ?_
        refine lv_bipush (v := 7) hx hb dX9_seen_71 (by decide) ?_
        obtain ⟨x15, ex15, hM⟩ := xb hM
        refine x_iald X hP (dO_k ed14) ex15 dX9_seen_73 ?_
        exact x_iret X hP hS hM dX9_seen_74
      · replace hM := (if_pos c6).symm.trans hM
        refine lv_bipush (v := (-2)) hx hb dX9_seen_37 (by decide) ?_
        exact x_iret X hP hS hM dX9_seen_39
  · replace hM := (if_pos c1).symm.trans hM
    refine lv_aload_n hx hb dX9_seen_5 rfl (lv_at hl 0 rfl) ?_
    obtain ⟨d16, ed16, hM⟩ := xb hM
    refine fdX9_0 X hP hk0 qw227 dX9_seen_6 ed16 ?_
    refine lv_bipush (v := 7) hx hb dX9_seen_9 (by decide) ?_
    refine lv_iconst (v := 0) hx hb dX9_seen_11 (by decide) ?_
    obtain ⟨S17, eS17, hM⟩ := xb hM
    refine x_iast X hP hS (dO_k ed16) eS17 dX9_seen_12 (fun H locs hP hS => ?_)
    refine lv_iconst (v := 0) hx hb dX9_seen_13 (by decide) ?_
    exact x_iret X hP hS hM dX9_seen_14

def lX9_canBe_36 : Nat → xS → Nat → Int32 → Option (Int32 × xS)
  | 0, _, _, _ => none
  | n + 1, S, h0, v4 => (dO Ym (gR S h0 0) 10).bind fun d1 => (aI Ym S d1 7).bind fun x2 => if (x2 ≤ v4 : Prop) then (some (1, S)) else ((dO Ym (gR S h0 0) 10).bind fun d4 => (aI Ym S d4 1).bind fun x5 => (mX9_eat S h0 ((x5 + 1) + v4)).bind fun q6 => (dO Ym (gR q6.2 h0 0) 10).bind fun d7 => (aI Ym q6.2 d7 (28 + v4)).bind fun x8 => if ((gI q6.2 h0 27) = x8 : Prop) then (lX9_canBe_36 n q6.2 h0 (v4 + 1)) else (some (0, q6.2)))
set_option maxHeartbeats 4000000 in
set_option maxRecDepth 100000 in
theorem wX9_canBe_36 {p : Program} {l : Launch} {e : Env} {s : State} {m : MethodId} {args : Array Value} {below : List Frame} {meth : Method} {c : Code} {G : xG} {r : Int32} {S' : xS} (X : xX p s m args meth c cX9_canBe 6 (some .boolean) RX9 G Ym) : ∀ (n : Nat), ∀ (S : xS) (h0 : Nat) (v4 : Int32) (H : Heap) (locs : List Loc) (ls : Array Slot), lX9_canBe_36  n S h0 v4 = some (r, S') → xk Ym h0 = 9 → xP G Ym S H → va_S (xA G Ym) s.heap H locs → lv_has ls 6 [(0, .ref (xad G h0)), (4, .int v4)] → W p l e (xr 6 147) s m args below meth c H locs 0 0 (MQ below (xQi G Ym r S') args s 0 0 (xA G Ym)) (F0 m 36 ls []) := by
  obtain ⟨hx, hb, hml, hown, hts, hr, hlk, hK, hE, hJ⟩ := id X
  intro n
  induction n with
  | zero =>
    intro S h0 v4 H locs ls hM
    rw [lX9_canBe_36.eq_1] at hM
    cases hM
  | succ n ih =>
    intro S h0 v4 H locs ls hM hk0 hP hS hl
    rw [lX9_canBe_36.eq_2] at hM
    refine lv_iload hx hb dX9_canBe_36 (lv_at hl 1 rfl) ?_
    refine lv_aload_n hx hb dX9_canBe_38 rfl (lv_at hl 0 rfl) ?_
    obtain ⟨d1, ed1, hM⟩ := xb hM
    refine fdX9_0 X hP hk0 qw227 dX9_canBe_39 ed1 ?_
    refine lv_bipush (v := 7) hx hb dX9_canBe_42 (by decide) ?_
    obtain ⟨x2, ex2, hM⟩ := xb hM
    refine x_iald X hP (dO_k ed1) ex2 dX9_canBe_44 ?_
    refine lv_icmp_ge (tgt := 90) hx hb dX9_canBe_45 (by decide) (fun c3 => ?_) (fun c3 => ?_)
    · replace hM := (if_pos c3).symm.trans hM
      refine lv_iconst (v := 1) hx hb dX9_canBe_90 (by decide) ?_
      exact x_zret X hP hS (Or.inr rfl) hM dX9_canBe_91
    · replace hM := (if_neg c3).symm.trans hM
      refine lv_aload_n hx hb dX9_canBe_48 rfl (lv_at hl 0 rfl) ?_
      refine lv_aload_n hx hb dX9_canBe_49 rfl (lv_at hl 0 rfl) ?_
      obtain ⟨d4, ed4, hM⟩ := xb hM
      refine fdX9_0 X hP hk0 qw227 dX9_canBe_50 ed4 ?_
      refine lv_iconst (v := 1) hx hb dX9_canBe_53 (by decide) ?_
      obtain ⟨x5, ex5, hM⟩ := xb hM
      refine x_iald X hP (dO_k ed4) ex5 dX9_canBe_54 ?_
      refine lv_iconst (v := 1) hx hb dX9_canBe_55 (by decide) ?_
      refine lv_iadd hx hb dX9_canBe_56 ?_
      refine lv_iload hx hb dX9_canBe_57 (lv_at hl 1 rfl) ?_
      refine lv_iadd hx hb dX9_canBe_59 ?_
      obtain ⟨q6, eq6, hM⟩ := xb hM
      refine x_goi (x_runV (rest := []) X (kX9_eat l G S h0 ((x5 + 1) + v4) q6.1 q6.2 hk0 eq6) qw308 okX9_eat ⟨Nat.le_of_ble_eq_true rfl, Nat.le_of_ble_eq_true rfl⟩ hk0 (by decide) rfl hP hS rfl hl.1 rfl (Nat.le_of_ble_eq_true rfl) dX9_canBe_60) hS (fun H locs hP hS => ?_)
      refine lv_istore (lv' := [(5, .int q6.1), (0, .ref (xad G h0)), (4, .int v4)]) hx hb dX9_canBe_63 hl (by decide) rfl (fun ls hl => ?_)
      refine lv_aload_n hx hb dX9_canBe_65 rfl (lv_at hl 1 rfl) ?_
      refine fgX9_27 X hP hk0 qw301 dX9_canBe_66 ?_
      refine lv_aload_n hx hb dX9_canBe_69 rfl (lv_at hl 1 rfl) ?_
      obtain ⟨d7, ed7, hM⟩ := xb hM
      refine fdX9_0 X hP hk0 qw227 dX9_canBe_70 ed7 ?_
      refine lv_bipush (v := 28) hx hb dX9_canBe_73 (by decide) ?_
      refine lv_iload hx hb dX9_canBe_75 (lv_at hl 2 rfl) ?_
      refine lv_iadd hx hb dX9_canBe_77 ?_
      obtain ⟨x8, ex8, hM⟩ := xb hM
      refine x_iald X hP (dO_k ed7) ex8 dX9_canBe_78 ?_
      refine lv_icmp_eq (tgt := 84) hx hb dX9_canBe_79 (by decide) (fun c9 => ?_) (fun c9 => ?_)
      · replace hM := (if_pos c9).symm.trans hM
        refine lv_iinc (v := v4 + 1) (lv' := [(4, .int (v4 + 1)), (5, .int q6.1), (0, .ref (xad G h0))]) hx hb dX9_canBe_84 hl (k := 2) rfl (by first | rfl | exact congrArg (fun z => v4 + z) (by decide)) (by decide) rfl (fun ls hl => ?_)
        refine lv_goto (tgt := 36) hx hb dX9_canBe_87 (by decide) ?_
        exact ih q6.2 h0 (v4 + 1) _ _ _ hM hk0 hP hS (lv_sub hl [2, 0] rfl)
      · replace hM := (if_neg c9).symm.trans hM
        refine lv_iconst (v := 0) hx hb dX9_canBe_82 (by decide) ?_
        exact x_zret X hP hS (Or.inl rfl) hM dX9_canBe_83
def mX9_canBe (S : xS) (h0 : Nat) (p1 : Int32) (p2 : Int32) (p3 : Int32) : Option (Int32 × xS) := xlet (pI S h0 25 p1) fun S1 => xlet (pI S1 h0 26 p2) fun S2 => xlet (pI S2 h0 29 p3) fun S3 => (dO Ym (gR S3 h0 0) 10).bind fun d4 => (aI Ym S3 d4 1).bind fun x5 => (mX9_slicesOf S3 h0 p1 p2 (x5 + 1)).bind fun q6 => xlet (pI q6.2 h0 27 q6.1) fun S7 => lX9_canBe_36  5000 S7 h0 0
set_option maxHeartbeats 4000000 in
set_option maxRecDepth 100000 in
theorem kX9_canBe (l : Launch) (G : xG) (S : xS) (h0 : Nat) (p1 : Int32) (p2 : Int32) (p3 : Int32) (r : Int32) (S' : xS) (hk0 : xk Ym h0 = 9) (hM : mX9_canBe S h0 p1 p2 p3 = some (r, S')) : xM l yX9_canBe cX9_canBe 6 (some .boolean) 6 147 G Ym [.ref (xad G h0), .int p1, .int p2, .int p3] S (xQi G Ym r S') := by
  refine x_start (own := RX9) (by decide +kernel) rfl (Nat.le_of_ble_eq_true rfl) ?_
  intro p e s m below meth c ls X hl hP hS
  obtain ⟨hx, hb, hml, hown, hts, hr, hlk, hK, hE, hJ⟩ := id X
  have hl : lv_has ls 6 [(0, .ref (xad G h0)), (1, .int p1), (2, .int p2), (3, .int p3)] := hl
  unfold mX9_canBe at hM
  refine lv_aload_n hx hb dX9_canBe_0 rfl (lv_at hl 0 rfl) ?_
  refine lv_iload_n hx hb dX9_canBe_1 rfl (lv_at hl 1 rfl) ?_
  obtain ⟨S1, eS1, hM⟩ := xlet_ex hM
  refine fpX9_25 X hP hS hk0 qw299 dX9_canBe_2 eS1 (fun H locs hP hS => ?_)
  refine lv_aload_n hx hb dX9_canBe_5 rfl (lv_at hl 0 rfl) ?_
  refine lv_iload_n hx hb dX9_canBe_6 rfl (lv_at hl 2 rfl) ?_
  obtain ⟨S2, eS2, hM⟩ := xlet_ex hM
  refine fpX9_26 X hP hS hk0 qw300 dX9_canBe_7 eS2 (fun H locs hP hS => ?_)
  refine lv_aload_n hx hb dX9_canBe_10 rfl (lv_at hl 0 rfl) ?_
  refine lv_iload_n hx hb dX9_canBe_11 rfl (lv_at hl 3 rfl) ?_
  obtain ⟨S3, eS3, hM⟩ := xlet_ex hM
  refine fpX9_29 X hP hS hk0 qw304 dX9_canBe_12 eS3 (fun H locs hP hS => ?_)
  refine lv_aload_n hx hb dX9_canBe_15 rfl (lv_at hl 0 rfl) ?_
  refine lv_aload_n hx hb dX9_canBe_16 rfl (lv_at hl 0 rfl) ?_
  refine lv_iload_n hx hb dX9_canBe_17 rfl (lv_at hl 1 rfl) ?_
  refine lv_iload_n hx hb dX9_canBe_18 rfl (lv_at hl 2 rfl) ?_
  refine lv_aload_n hx hb dX9_canBe_19 rfl (lv_at hl 0 rfl) ?_
  obtain ⟨d4, ed4, hM⟩ := xb hM
  refine fdX9_0 X hP hk0 qw227 dX9_canBe_20 ed4 ?_
  refine lv_iconst (v := 1) hx hb dX9_canBe_23 (by decide) ?_
  obtain ⟨x5, ex5, hM⟩ := xb hM
  refine x_iald X hP (dO_k ed4) ex5 dX9_canBe_24 ?_
  refine lv_iconst (v := 1) hx hb dX9_canBe_25 (by decide) ?_
  refine lv_iadd hx hb dX9_canBe_26 ?_
  obtain ⟨q6, eq6, hM⟩ := xb hM
  refine x_goi (x_runV (rest := [.ref (xad G h0)]) X (kX9_slicesOf l G S3 h0 p1 p2 (x5 + 1) q6.1 q6.2 hk0 eq6) qw297 okX9_slicesOf ⟨Nat.le_of_ble_eq_true rfl, Nat.le_of_ble_eq_true rfl⟩ hk0 (by decide) rfl hP hS rfl hl.1 rfl (Nat.le_of_ble_eq_true rfl) dX9_canBe_27) hS (fun H locs hP hS => ?_)
  obtain ⟨S7, eS7, hM⟩ := xlet_ex hM
  refine fpX9_27 X hP hS hk0 qw301 dX9_canBe_30 eS7 (fun H locs hP hS => ?_)
  refine lv_iconst (v := 0) hx hb dX9_canBe_33 (by decide) ?_
  refine lv_istore (lv' := [(4, .int 0), (0, .ref (xad G h0)), (1, .int p1), (2, .int p2), (3, .int p3)]) hx hb dX9_canBe_34 hl (by decide) rfl (fun ls hl => ?_)
  exact wX9_canBe_36 X  5000 S7 h0 0 _ _ _ hM hk0 hP hS (lv_sub hl [1, 0] rfl)

def lX9_who_27 : Nat → xS → Nat → Int32 → Int32 → Int32 → Int32 → Int32 → Option (Int32 × xS)
  | 0, _, _, _, _, _, _, _ => none
  | n + 1, S, h0, v1, v2, v3, v4, v5 => (dO Ym (gR S h0 0) 10).bind fun d1 => (aI Ym S d1 0).bind fun x2 => if ((1 <<< (x2 &&& 31)) ≤ v5 : Prop) then (if (v3 = (-1) : Prop) then (some (v4, S)) else (some ((-1), S))) else ((mX9_canBe S h0 v1 v2 v5).bind fun q5 => if (q5.1 = 0 : Prop) then (lX9_who_27 n q5.2 h0 v1 v2 v3 v4 (v5 + 1)) else (if (v4 = v3 : Prop) then (some (v5, q5.2)) else (lX9_who_27 n q5.2 h0 v1 v2 v3 (v4 + 1) (v5 + 1))))
set_option maxHeartbeats 4000000 in
set_option maxRecDepth 100000 in
theorem wX9_who_27 {p : Program} {l : Launch} {e : Env} {s : State} {m : MethodId} {args : Array Value} {below : List Frame} {meth : Method} {c : Code} {G : xG} {r : Int32} {S' : xS} (X : xX p s m args meth c cX9_who 6 (some .int) RX9 G Ym) : ∀ (n : Nat), ∀ (S : xS) (h0 : Nat) (v1 : Int32) (v2 : Int32) (v3 : Int32) (v4 : Int32) (v5 : Int32) (H : Heap) (locs : List Loc) (ls : Array Slot), lX9_who_27  n S h0 v1 v2 v3 v4 v5 = some (r, S') → xk Ym h0 = 9 → xP G Ym S H → va_S (xA G Ym) s.heap H locs → lv_has ls 6 [(0, .ref (xad G h0)), (1, .int v1), (2, .int v2), (3, .int v3), (4, .int v4), (5, .int v5)] → W p l e (xr 7 172) s m args below meth c H locs 0 0 (MQ below (xQi G Ym r S') args s 0 0 (xA G Ym)) (F0 m 27 ls []) := by
  obtain ⟨hx, hb, hml, hown, hts, hr, hlk, hK, hE, hJ⟩ := id X
  intro n
  induction n with
  | zero =>
    intro S h0 v1 v2 v3 v4 v5 H locs ls hM
    rw [lX9_who_27.eq_1] at hM
    cases hM
  | succ n ih =>
    intro S h0 v1 v2 v3 v4 v5 H locs ls hM hk0 hP hS hl
    rw [lX9_who_27.eq_2] at hM
    refine lv_iload hx hb dX9_who_27 (lv_at hl 5 rfl) ?_
    refine lv_iconst (v := 1) hx hb dX9_who_29 (by decide) ?_
    refine lv_aload_n hx hb dX9_who_30 rfl (lv_at hl 0 rfl) ?_
    obtain ⟨d1, ed1, hM⟩ := xb hM
    refine fdX9_0 X hP hk0 qw227 dX9_who_31 ed1 ?_
    refine lv_iconst (v := 0) hx hb dX9_who_34 (by decide) ?_
    obtain ⟨x2, ex2, hM⟩ := xb hM
    refine x_iald X hP (dO_k ed1) ex2 dX9_who_35 ?_
    refine lv_ishl hx hb dX9_who_36 ?_
    refine lv_icmp_ge (tgt := 72) hx hb dX9_who_37 (by decide) (fun c3 => ?_) (fun c3 => ?_)
    · replace hM := (if_pos c3).symm.trans hM
      refine lv_iload_n hx hb dX9_who_72 rfl (lv_at hl 3 rfl) ?_
      refine lv_iconst (v := (-1)) hx hb dX9_who_73 (by decide) ?_
      refine lv_icmp_ne (tgt := 82) hx hb dX9_who_74 (by decide) (fun c4 => ?_) (fun c4 => ?_)
      · replace hM := (if_neg c4).symm.trans hM
        refine lv_iconst (v := (-1)) hx hb dX9_who_82 (by decide) ?_
        exact x_iret X hP hS hM dX9_who_83
      · replace hM := (if_pos c4).symm.trans hM
        refine lv_iload hx hb dX9_who_77 (lv_at hl 4 rfl) ?_
        refine lv_goto (tgt := 83) hx hb dX9_who_79 (by decide) ?_
        exact x_iret X hP hS hM dX9_who_83
    · replace hM := (if_neg c3).symm.trans hM
      refine lv_aload_n hx hb dX9_who_40 rfl (lv_at hl 0 rfl) ?_
      refine lv_iload_n hx hb dX9_who_41 rfl (lv_at hl 1 rfl) ?_
      refine lv_iload_n hx hb dX9_who_42 rfl (lv_at hl 2 rfl) ?_
      refine lv_iload hx hb dX9_who_43 (lv_at hl 5 rfl) ?_
      obtain ⟨q5, eq5, hM⟩ := xb hM
      refine x_goi (x_runV (rest := []) X (kX9_canBe l G S h0 v1 v2 v5 q5.1 q5.2 hk0 eq5) qw331 okX9_canBe ⟨Nat.le_of_ble_eq_true rfl, Nat.le_of_ble_eq_true rfl⟩ hk0 (by decide) rfl hP hS rfl hl.1 rfl (Nat.le_of_ble_eq_true rfl) dX9_who_45) hS (fun H locs hP hS => ?_)
      refine lv_if_ne (tgt := 54) hx hb dX9_who_48 (by decide) (fun c6 => ?_) (fun c6 => ?_)
      · replace hM := (if_neg c6).symm.trans hM
        refine lv_iload hx hb dX9_who_54 (lv_at hl 4 rfl) ?_
        refine lv_iload_n hx hb dX9_who_56 rfl (lv_at hl 3 rfl) ?_
        refine lv_icmp_ne (tgt := 63) hx hb dX9_who_57 (by decide) (fun c7 => ?_) (fun c7 => ?_)
        · replace hM := (if_neg c7).symm.trans hM
          refine lv_iinc (v := v4 + 1) (lv' := [(4, .int (v4 + 1)), (0, .ref (xad G h0)), (1, .int v1), (2, .int v2), (3, .int v3), (5, .int v5)]) hx hb dX9_who_63 hl (k := 4) rfl (by first | rfl | exact congrArg (fun z => v4 + z) (by decide)) (by decide) rfl (fun ls hl => ?_)
          refine lv_iinc (v := v5 + 1) (lv' := [(5, .int (v5 + 1)), (4, .int (v4 + 1)), (0, .ref (xad G h0)), (1, .int v1), (2, .int v2), (3, .int v3)]) hx hb dX9_who_66 hl (k := 5) rfl (by first | rfl | exact congrArg (fun z => v5 + z) (by decide)) (by decide) rfl (fun ls hl => ?_)
          refine lv_goto (tgt := 27) hx hb dX9_who_69 (by decide) ?_
          exact ih q5.2 h0 v1 v2 v3 (v4 + 1) (v5 + 1) _ _ _ hM hk0 hP hS (lv_sub hl [2, 3, 4, 5, 1, 0] rfl)
        · replace hM := (if_pos c7).symm.trans hM
          refine lv_iload hx hb dX9_who_60 (lv_at hl 5 rfl) ?_
          exact x_iret X hP hS hM dX9_who_62
      · replace hM := (if_pos c6).symm.trans hM
        refine lv_goto (tgt := 66) hx hb dX9_who_51 (by decide) ?_
        refine lv_iinc (v := v5 + 1) (lv' := [(5, .int (v5 + 1)), (0, .ref (xad G h0)), (1, .int v1), (2, .int v2), (3, .int v3), (4, .int v4)]) hx hb dX9_who_66 hl (k := 5) rfl (by first | rfl | exact congrArg (fun z => v5 + z) (by decide)) (by decide) rfl (fun ls hl => ?_)
        refine lv_goto (tgt := 27) hx hb dX9_who_69 (by decide) ?_
        exact ih q5.2 h0 v1 v2 v3 v4 (v5 + 1) _ _ _ hM hk0 hP hS (lv_sub hl [1, 2, 3, 4, 5, 0] rfl)
def mX9_who (S : xS) (h0 : Nat) (p1 : Int32) (p2 : Int32) (p3 : Int32) : Option (Int32 × xS) := (mX9_isTable S p1).bind fun q1 => if (q1.1 = 0 : Prop) then (some ((-1), q1.2)) else ((mX9_isDay q1.2 p2).bind fun q3 => if (q3.1 = 0 : Prop) then (some ((-1), q3.2)) else (if ((-1) ≤ p3 : Prop) then (lX9_who_27  5000 q3.2 h0 p1 p2 p3 0 0) else (some ((-1), q3.2))))
set_option maxHeartbeats 4000000 in
set_option maxRecDepth 100000 in
theorem kX9_who (l : Launch) (G : xG) (S : xS) (h0 : Nat) (p1 : Int32) (p2 : Int32) (p3 : Int32) (r : Int32) (S' : xS) (hk0 : xk Ym h0 = 9) (hM : mX9_who S h0 p1 p2 p3 = some (r, S')) : xM l yX9_who cX9_who 6 (some .int) 7 172 G Ym [.ref (xad G h0), .int p1, .int p2, .int p3] S (xQi G Ym r S') := by
  refine x_start (own := RX9) (by decide +kernel) rfl (Nat.le_of_ble_eq_true rfl) ?_
  intro p e s m below meth c ls X hl hP hS
  obtain ⟨hx, hb, hml, hown, hts, hr, hlk, hK, hE, hJ⟩ := id X
  have hl : lv_has ls 6 [(0, .ref (xad G h0)), (1, .int p1), (2, .int p2), (3, .int p3)] := hl
  unfold mX9_who at hM
  refine lv_iload_n hx hb dX9_who_0 rfl (lv_at hl 1 rfl) ?_
  obtain ⟨q1, eq1, hM⟩ := xb hM
  refine x_goi (x_runS (rest := []) X (kX9_isTable l G S p1 q1.1 q1.2  eq1) qw295 okX9_isTable ⟨Nat.le_of_ble_eq_true rfl, Nat.le_of_ble_eq_true rfl⟩ hP hS rfl hl.1 rfl (Nat.le_of_ble_eq_true rfl) dX9_who_1) hS (fun H locs hP hS => ?_)
  refine lv_if_eq (tgt := 19) hx hb dX9_who_4 (by decide) (fun c2 => ?_) (fun c2 => ?_)
  · replace hM := (if_pos c2).symm.trans hM
    refine lv_iconst (v := (-1)) hx hb dX9_who_19 (by decide) ?_
    exact x_iret X hP hS hM dX9_who_20
  · replace hM := (if_neg c2).symm.trans hM
    refine lv_iload_n hx hb dX9_who_7 rfl (lv_at hl 2 rfl) ?_
    obtain ⟨q3, eq3, hM⟩ := xb hM
    refine x_goi (x_runS (rest := []) X (kX9_isDay l G q1.2 p2 q3.1 q3.2  eq3) qw296 okX9_isDay ⟨Nat.le_of_ble_eq_true rfl, Nat.le_of_ble_eq_true rfl⟩ hP hS rfl hl.1 rfl (Nat.le_of_ble_eq_true rfl) dX9_who_8) hS (fun H locs hP hS => ?_)
    refine lv_if_eq (tgt := 19) hx hb dX9_who_11 (by decide) (fun c4 => ?_) (fun c4 => ?_)
    · replace hM := (if_pos c4).symm.trans hM
      refine lv_iconst (v := (-1)) hx hb dX9_who_19 (by decide) ?_
      exact x_iret X hP hS hM dX9_who_20
    · replace hM := (if_neg c4).symm.trans hM
      refine lv_iload_n hx hb dX9_who_14 rfl (lv_at hl 3 rfl) ?_
      refine lv_iconst (v := (-1)) hx hb dX9_who_15 (by decide) ?_
      refine lv_icmp_ge (tgt := 21) hx hb dX9_who_16 (by decide) (fun c5 => ?_) (fun c5 => ?_)
      · replace hM := (if_pos c5).symm.trans hM
        refine lv_iconst (v := 0) hx hb dX9_who_21 (by decide) ?_
        refine lv_istore (lv' := [(4, .int 0), (0, .ref (xad G h0)), (1, .int p1), (2, .int p2), (3, .int p3)]) hx hb dX9_who_22 hl (by decide) rfl (fun ls hl => ?_)
        refine lv_iconst (v := 0) hx hb dX9_who_24 (by decide) ?_
        refine lv_istore (lv' := [(5, .int 0), (4, .int 0), (0, .ref (xad G h0)), (1, .int p1), (2, .int p2), (3, .int p3)]) hx hb dX9_who_25 hl (by decide) rfl (fun ls hl => ?_)
        exact wX9_who_27 X  5000 q3.2 h0 p1 p2 p3 0 0 _ _ _ hM hk0 hP hS (lv_sub hl [2, 3, 4, 5, 1, 0] rfl)
      · replace hM := (if_neg c5).symm.trans hM
        refine lv_iconst (v := (-1)) hx hb dX9_who_19 (by decide) ?_
        exact x_iret X hP hS hM dX9_who_20

def mX9_image (S : xS) (h0 : Nat) : Option (Int32 × xS) := (dO Ym (gR S h0 0) 10).bind fun d1 => (dO Ym (gR S h0 1) 10).bind fun d2 => (mX9_copy S d1 d2).bind fun S3 => (dO Ym (gR S3 h0 0) 10).bind fun d4 => (aI Ym S3 d4 1).bind fun x5 => some (x5, S3)
set_option maxHeartbeats 4000000 in
set_option maxRecDepth 100000 in
theorem kX9_image (l : Launch) (G : xG) (S : xS) (h0 : Nat) (r : Int32) (S' : xS) (hk0 : xk Ym h0 = 9) (hM : mX9_image S h0 = some (r, S')) : xM l yX9_image cX9_image 1 (some .int) 1 22 G Ym [.ref (xad G h0)] S (xQi G Ym r S') := by
  refine x_start (own := RX9) (by decide +kernel) rfl (Nat.le_of_ble_eq_true rfl) ?_
  intro p e s m below meth c ls X hl hP hS
  obtain ⟨hx, hb, hml, hown, hts, hr, hlk, hK, hE, hJ⟩ := id X
  have hl : lv_has ls 1 [(0, .ref (xad G h0))] := hl
  unfold mX9_image at hM
  refine lv_aload_n hx hb dX9_image_0 rfl (lv_at hl 0 rfl) ?_
  obtain ⟨d1, ed1, hM⟩ := xb hM
  refine fdX9_0 X hP hk0 qw227 dX9_image_1 ed1 ?_
  refine lv_aload_n hx hb dX9_image_4 rfl (lv_at hl 0 rfl) ?_
  obtain ⟨d2, ed2, hM⟩ := xb hM
  refine fdX9_1 X hP hk0 qw332 dX9_image_5 ed2 ?_
  obtain ⟨S3, eS3, hM⟩ := xb hM
  refine x_gov (x_runS (rest := []) X (kX9_copy l G S d1 d2 S3 (dO_k ed1) (dO_k ed2) eS3) qw333 okX9_copy ⟨Nat.le_of_ble_eq_true rfl, Nat.le_of_ble_eq_true rfl⟩ hP hS rfl hl.1 rfl (Nat.le_of_ble_eq_true rfl) dX9_image_8) hS (fun H locs hP hS => ?_)
  refine lv_aload_n hx hb dX9_image_11 rfl (lv_at hl 0 rfl) ?_
  obtain ⟨d4, ed4, hM⟩ := xb hM
  refine fdX9_0 X hP hk0 qw227 dX9_image_12 ed4 ?_
  refine lv_iconst (v := 1) hx hb dX9_image_15 (by decide) ?_
  obtain ⟨x5, ex5, hM⟩ := xb hM
  refine x_iald X hP (dO_k ed4) ex5 dX9_image_16 ?_
  exact x_iret X hP hS hM dX9_image_17

def mX9_back (S : xS) (h0 : Nat) : Option (Int32 × xS) := (dO Ym (gR S h0 1) 10).bind fun d1 => (dO Ym (gR S h0 0) 10).bind fun d2 => (mX9_copy S d1 d2).bind fun S3 => (dO Ym (gR S3 h0 0) 10).bind fun d4 => (aI Ym S3 d4 1).bind fun x5 => some (x5, S3)
set_option maxHeartbeats 4000000 in
set_option maxRecDepth 100000 in
theorem kX9_back (l : Launch) (G : xG) (S : xS) (h0 : Nat) (r : Int32) (S' : xS) (hk0 : xk Ym h0 = 9) (hM : mX9_back S h0 = some (r, S')) : xM l yX9_back cX9_back 1 (some .int) 1 22 G Ym [.ref (xad G h0)] S (xQi G Ym r S') := by
  refine x_start (own := RX9) (by decide +kernel) rfl (Nat.le_of_ble_eq_true rfl) ?_
  intro p e s m below meth c ls X hl hP hS
  obtain ⟨hx, hb, hml, hown, hts, hr, hlk, hK, hE, hJ⟩ := id X
  have hl : lv_has ls 1 [(0, .ref (xad G h0))] := hl
  unfold mX9_back at hM
  refine lv_aload_n hx hb dX9_back_0 rfl (lv_at hl 0 rfl) ?_
  obtain ⟨d1, ed1, hM⟩ := xb hM
  refine fdX9_1 X hP hk0 qw332 dX9_back_1 ed1 ?_
  refine lv_aload_n hx hb dX9_back_4 rfl (lv_at hl 0 rfl) ?_
  obtain ⟨d2, ed2, hM⟩ := xb hM
  refine fdX9_0 X hP hk0 qw227 dX9_back_5 ed2 ?_
  obtain ⟨S3, eS3, hM⟩ := xb hM
  refine x_gov (x_runS (rest := []) X (kX9_copy l G S d1 d2 S3 (dO_k ed1) (dO_k ed2) eS3) qw333 okX9_copy ⟨Nat.le_of_ble_eq_true rfl, Nat.le_of_ble_eq_true rfl⟩ hP hS rfl hl.1 rfl (Nat.le_of_ble_eq_true rfl) dX9_back_8) hS (fun H locs hP hS => ?_)
  refine lv_aload_n hx hb dX9_back_11 rfl (lv_at hl 0 rfl) ?_
  obtain ⟨d4, ed4, hM⟩ := xb hM
  refine fdX9_0 X hP hk0 qw227 dX9_back_12 ed4 ?_
  refine lv_iconst (v := 1) hx hb dX9_back_15 (by decide) ?_
  obtain ⟨x5, ex5, hM⟩ := xb hM
  refine x_iald X hP (dO_k ed4) ex5 dX9_back_16 ?_
  exact x_iret X hP hS hM dX9_back_17

def mX9_about (S : xS) (h0 : Nat) (p1 : Int32) : Option (Int32 × xS) := (mX9_isIn S p1 0 7).bind fun q1 => if (q1.1 = 0 : Prop) then (if (p1 = 8 : Prop) then (some (gI q1.2 h0 4, q1.2)) else (some ((-2), q1.2))) else ((dO Ym (gR q1.2 h0 0) 10).bind fun d4 => (aI Ym q1.2 d4 p1).bind fun x5 => some (x5, q1.2))
set_option maxHeartbeats 4000000 in
set_option maxRecDepth 100000 in
theorem kX9_about (l : Launch) (G : xG) (S : xS) (h0 : Nat) (p1 : Int32) (r : Int32) (S' : xS) (hk0 : xk Ym h0 = 9) (hM : mX9_about S h0 p1 = some (r, S')) : xM l yX9_about cX9_about 2 (some .int) 1 22 G Ym [.ref (xad G h0), .int p1] S (xQi G Ym r S') := by
  refine x_start (own := RX9) (by decide +kernel) rfl (Nat.le_of_ble_eq_true rfl) ?_
  intro p e s m below meth c ls X hl hP hS
  obtain ⟨hx, hb, hml, hown, hts, hr, hlk, hK, hE, hJ⟩ := id X
  have hl : lv_has ls 2 [(0, .ref (xad G h0)), (1, .int p1)] := hl
  unfold mX9_about at hM
  refine lv_iload_n hx hb dX9_about_0 rfl (lv_at hl 1 rfl) ?_
  refine lv_iconst (v := 0) hx hb dX9_about_1 (by decide) ?_
  refine lv_bipush (v := 7) hx hb dX9_about_2 (by decide) ?_
  obtain ⟨q1, eq1, hM⟩ := xb hM
  refine x_goi (x_runS (rest := []) X (kX9_isIn l G S p1 0 7 q1.1 q1.2  eq1) qw228 okX9_isIn ⟨Nat.le_of_ble_eq_true rfl, Nat.le_of_ble_eq_true rfl⟩ hP hS rfl hl.1 rfl (Nat.le_of_ble_eq_true rfl) dX9_about_4) hS (fun H locs hP hS => ?_)
  refine lv_if_eq (tgt := 19) hx hb dX9_about_7 (by decide) (fun c2 => ?_) (fun c2 => ?_)
  · replace hM := (if_pos c2).symm.trans hM
    refine lv_iload_n hx hb dX9_about_19 rfl (lv_at hl 1 rfl) ?_
    refine lv_bipush (v := 8) hx hb dX9_about_20 (by decide) ?_
    refine lv_icmp_ne (tgt := 32) hx hb dX9_about_22 (by decide) (fun c3 => ?_) (fun c3 => ?_)
    · replace hM := (if_neg c3).symm.trans hM
      refine lv_bipush (v := (-2)) hx hb dX9_about_32 (by decide) ?_
      exact x_iret X hP hS hM dX9_about_34
    · replace hM := (if_pos c3).symm.trans hM
      refine lv_aload_n hx hb dX9_about_25 rfl (lv_at hl 0 rfl) ?_
      refine fgX9_4 X hP hk0 qw230 dX9_about_26 ?_
      refine lv_goto (tgt := 34) hx hb dX9_about_29 (by decide) ?_
      exact x_iret X hP hS hM dX9_about_34
  · replace hM := (if_neg c2).symm.trans hM
    refine lv_aload_n hx hb dX9_about_10 rfl (lv_at hl 0 rfl) ?_
    obtain ⟨d4, ed4, hM⟩ := xb hM
    refine fdX9_0 X hP hk0 qw227 dX9_about_11 ed4 ?_
    refine lv_iload_n hx hb dX9_about_14 rfl (lv_at hl 1 rfl) ?_
    obtain ⟨x5, ex5, hM⟩ := xb hM
    refine x_iald X hP (dO_k ed4) ex5 dX9_about_15 ?_
    refine lv_goto (tgt := 34) hx hb dX9_about_16 (by decide) ?_
    exact x_iret X hP hS hM dX9_about_34

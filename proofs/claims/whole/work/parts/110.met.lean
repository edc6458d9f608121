def lX9_sumOf_3 : Nat → xS → Nat → Int32 → Int32 → Int32 → Int32 → Int32 → Option (Int32 × xS)
  | 0, _, _, _, _, _, _, _ => none
  | n + 1, S, h0, v1, v2, v3, v4, v5 => (dO Ym (gR S h0 0) 10).bind fun d1 => (aI Ym S d1 5).bind fun x2 => if (x2 < 0 : Prop) then (some (v4, S)) else ((dO Ym (gR S h0 2) 10).bind fun d4 => (dO Ym (gR S h0 0) 10).bind fun d5 => (aI Ym S d5 5).bind fun x6 => (aI Ym S d4 (680 * x6)).bind fun x7 => if (x7 ≤ v5 : Prop) then (some (v4, S)) else ((dO Ym (gR S h0 2) 10).bind fun d9 => (dO Ym (gR S h0 0) 10).bind fun d10 => (aI Ym S d10 5).bind fun x11 => (aI Ym S d9 (((680 * x11) + 1) + (3 * v5))).bind fun x12 => if (x12 = v1 : Prop) then ((mX9_work S h0 v5).bind fun S14 => (dO Ym (gR S14 h0 23) 11).bind fun d15 => (aJ Ym S14 d15 0).bind fun x16 => (mX9_between S14 x16 v2 v3).bind fun q17 => some (q17.1, q17.2)) else (lX9_sumOf_3 n S h0 v1 v2 v3 v4 (v5 + 1))))
set_option maxHeartbeats 4000000 in
set_option maxRecDepth 100000 in
theorem wX9_sumOf_3 {p : Program} {l : Launch} {e : Env} {s : State} {m : MethodId} {args : Array Value} {below : List Frame} {meth : Method} {c : Code} {G : xG} {r : Int32} {S' : xS} (X : xX p s m args meth c cX9_sumOf 6 (some .int) RX9 G Ym) : ∀ (n : Nat), ∀ (S : xS) (h0 : Nat) (v1 : Int32) (v2 : Int32) (v3 : Int32) (v4 : Int32) (v5 : Int32) (H : Heap) (locs : List Loc) (ls : Array Slot), lX9_sumOf_3  n S h0 v1 v2 v3 v4 v5 = some (r, S') → xk Ym h0 = 9 → xP G Ym S H → va_S (xA G Ym) s.heap H locs → lv_has ls 6 [(0, .ref (xad G h0)), (1, .int v1), (2, .int v2), (3, .int v3), (4, .int v4), (5, .int v5)] → W p l e (xr 3 73) s m args below meth c H locs 0 0 (MQ below (xQi G Ym r S') args s 0 0 (xA G Ym)) (F0 m 3 ls []) := by
  obtain ⟨hx, hb, hml, hown, hts, hr, hlk, hK, hE, hJ⟩ := id X
  intro n
  induction n with
  | zero =>
    intro S h0 v1 v2 v3 v4 v5 H locs ls hM
    rw [lX9_sumOf_3.eq_1] at hM
    cases hM
  | succ n ih =>
    intro S h0 v1 v2 v3 v4 v5 H locs ls hM hk0 hP hS hl
    rw [lX9_sumOf_3.eq_2] at hM
    refine lv_aload_n hx hb dX9_sumOf_3 rfl (lv_at hl 0 rfl) ?_
    obtain ⟨d1, ed1, hM⟩ := xb hM
    refine fdX9_0 X hP hk0 qw227 dX9_sumOf_4 ed1 ?_
    refine lv_iconst (v := 5) hx hb dX9_sumOf_7 (by decide) ?_
    obtain ⟨x2, ex2, hM⟩ := xb hM
    refine x_iald X hP (dO_k ed1) ex2 dX9_sumOf_8 ?_
    refine lv_if_lt (tgt := 85) hx hb dX9_sumOf_9 (by decide) (fun c3 => ?_) (fun c3 => ?_)
    · replace hM := (if_pos c3).symm.trans hM
      refine lv_iload hx hb dX9_sumOf_85 (lv_at hl 4 rfl) ?_
      exact x_iret X hP hS hM dX9_sumOf_87
    · replace hM := (if_neg c3).symm.trans hM
      refine lv_iload hx hb dX9_sumOf_12 (lv_at hl 5 rfl) ?_
      refine lv_aload_n hx hb dX9_sumOf_14 rfl (lv_at hl 0 rfl) ?_
      obtain ⟨d4, ed4, hM⟩ := xb hM
      refine fdX9_2 X hP hk0 qw243 dX9_sumOf_15 ed4 ?_
      refine lv_sipush (v := 680) hx hb dX9_sumOf_18 (by decide) ?_
      refine lv_aload_n hx hb dX9_sumOf_21 rfl (lv_at hl 0 rfl) ?_
      obtain ⟨d5, ed5, hM⟩ := xb hM
      refine fdX9_0 X hP hk0 qw227 dX9_sumOf_22 ed5 ?_
      refine lv_iconst (v := 5) hx hb dX9_sumOf_25 (by decide) ?_
      obtain ⟨x6, ex6, hM⟩ := xb hM
      refine x_iald X hP (dO_k ed5) ex6 dX9_sumOf_26 ?_
      refine lv_imul hx hb dX9_sumOf_27 ?_
      obtain ⟨x7, ex7, hM⟩ := xb hM
      refine x_iald X hP (dO_k ed4) ex7 dX9_sumOf_28 ?_
      refine lv_icmp_ge (tgt := 85) hx hb dX9_sumOf_29 (by decide) (fun c8 => ?_) (fun c8 => ?_)
      · replace hM := (if_pos c8).symm.trans hM
        refine lv_iload hx hb dX9_sumOf_85 (lv_at hl 4 rfl) ?_
        exact x_iret X hP hS hM dX9_sumOf_87
      · replace hM := (if_neg c8).symm.trans hM
        refine lv_aload_n hx hb dX9_sumOf_32 rfl (lv_at hl 0 rfl) ?_
        obtain ⟨d9, ed9, hM⟩ := xb hM
        refine fdX9_2 X hP hk0 qw243 dX9_sumOf_33 ed9 ?_
        refine lv_sipush (v := 680) hx hb dX9_sumOf_36 (by decide) ?_
        refine lv_aload_n hx hb dX9_sumOf_39 rfl (lv_at hl 0 rfl) ?_
        obtain ⟨d10, ed10, hM⟩ := xb hM
        refine fdX9_0 X hP hk0 qw227 dX9_sumOf_40 ed10 ?_
        refine lv_iconst (v := 5) hx hb dX9_sumOf_43 (by decide) ?_
        obtain ⟨x11, ex11, hM⟩ := xb hM
        refine x_iald X hP (dO_k ed10) ex11 dX9_sumOf_44 ?_
        refine lv_imul hx hb dX9_sumOf_45 ?_
        refine lv_iconst (v := 1) hx hb dX9_sumOf_46 (by decide) ?_
        refine lv_iadd hx hb dX9_sumOf_47 ?_
        refine lv_iconst (v := 3) hx hb dX9_sumOf_48 (by decide) ?_
        refine lv_iload hx hb dX9_sumOf_49 (lv_at hl 5 rfl) ?_
        refine lv_imul hx hb dX9_sumOf_51 ?_
        refine lv_iadd hx hb dX9_sumOf_52 ?_
        obtain ⟨x12, ex12, hM⟩ := xb hM
        refine x_iald X hP (dO_k ed9) ex12 dX9_sumOf_53 ?_
        refine lv_iload_n hx hb dX9_sumOf_54 rfl (lv_at hl 1 rfl) ?_
        refine lv_icmp_eq (tgt := 61) hx hb dX9_sumOf_55 (by decide) (fun c13 => ?_) (fun c13 => ?_)
        · replace hM := (if_pos c13).symm.trans hM
          refine lv_aload_n hx hb dX9_sumOf_61 rfl (lv_at hl 0 rfl) ?_
          refine lv_iload hx hb dX9_sumOf_62 (lv_at hl 5 rfl) ?_
          obtain ⟨S14, eS14, hM⟩ := xb hM
          refine x_gov (x_runV (rest := []) X (kX9_work l G S h0 v5 S14 hk0 eS14) qw292 okX9_work ⟨Nat.le_of_ble_eq_true rfl, Nat.le_of_ble_eq_true rfl⟩ hk0 (by decide) rfl hP hS rfl hl.1 rfl (Nat.le_of_ble_eq_true rfl) dX9_sumOf_64) hS (fun H locs hP hS => ?_)
          refine lv_aload_n hx hb dX9_sumOf_67 rfl (lv_at hl 0 rfl) ?_
          obtain ⟨d15, ed15, hM⟩ := xb hM
          refine fdX9_23 X hP hk0 qw288 dX9_sumOf_68 ed15 ?_
          refine lv_iconst (v := 0) hx hb dX9_sumOf_71 (by decide) ?_
          obtain ⟨x16, ex16, hM⟩ := xb hM
          refine x_lald X hP (dO_k ed15) ex16 dX9_sumOf_72 ?_
          refine lv_iload_n hx hb dX9_sumOf_73 rfl (lv_at hl 2 rfl) ?_
          refine lv_iload_n hx hb dX9_sumOf_74 rfl (lv_at hl 3 rfl) ?_
          obtain ⟨q17, eq17, hM⟩ := xb hM
          refine x_goi (x_runS (rest := []) X (kX9_between l G S14 x16 v2 v3 q17.1 q17.2  eq17) qw293 okX9_between ⟨Nat.le_of_ble_eq_true rfl, Nat.le_of_ble_eq_true rfl⟩ hP hS rfl hl.1 rfl (Nat.le_of_ble_eq_true rfl) dX9_sumOf_75) hS (fun H locs hP hS => ?_)
          exact x_iret X hP hS hM dX9_sumOf_78
        · replace hM := (if_neg c13).symm.trans hM
          refine lv_goto (tgt := 79) hx hb dX9_sumOf_58 (by decide) ?_
          refine lv_iinc (v := v5 + 1) (lv' := [(5, .int (v5 + 1)), (0, .ref (xad G h0)), (1, .int v1), (2, .int v2), (3, .int v3), (4, .int v4)]) hx hb dX9_sumOf_79 hl (k := 5) rfl (by first | rfl | exact congrArg (fun z => v5 + z) (by decide)) (by decide) rfl (fun ls hl => ?_)
          refine lv_goto (tgt := 3) hx hb dX9_sumOf_82 (by decide) ?_
          exact ih S h0 v1 v2 v3 v4 (v5 + 1) _ _ _ hM hk0 hP hS (lv_sub hl [1, 2, 3, 4, 5, 0] rfl)
def mX9_sumOf (S : xS) (h0 : Nat) (p1 : Int32) (p2 : Int32) (p3 : Int32) (p4 : Int32) : Option (Int32 × xS) := lX9_sumOf_3  5000 S h0 p1 p2 p3 p4 0
set_option maxHeartbeats 4000000 in
set_option maxRecDepth 100000 in
theorem kX9_sumOf (l : Launch) (G : xG) (S : xS) (h0 : Nat) (p1 : Int32) (p2 : Int32) (p3 : Int32) (p4 : Int32) (r : Int32) (S' : xS) (hk0 : xk Ym h0 = 9) (hM : mX9_sumOf S h0 p1 p2 p3 p4 = some (r, S')) : xM l yX9_sumOf cX9_sumOf 6 (some .int) 3 73 G Ym [.ref (xad G h0), .int p1, .int p2, .int p3, .int p4] S (xQi G Ym r S') := by
  refine x_start (own := RX9) (by decide +kernel) rfl (Nat.le_of_ble_eq_true rfl) ?_
  intro p e s m below meth c ls X hl hP hS
  obtain ⟨hx, hb, hml, hown, hts, hr, hlk, hK, hE, hJ⟩ := id X
  have hl : lv_has ls 6 [(0, .ref (xad G h0)), (1, .int p1), (2, .int p2), (3, .int p3), (4, .int p4)] := hl
  unfold mX9_sumOf at hM
  refine lv_iconst (v := 0) hx hb dX9_sumOf_0 (by decide) ?_
  refine lv_istore (lv' := [(5, .int 0), (0, .ref (xad G h0)), (1, .int p1), (2, .int p2), (3, .int p3), (4, .int p4)]) hx hb dX9_sumOf_1 hl (by decide) rfl (fun ls hl => ?_)
  exact wX9_sumOf_3 X  5000 S h0 p1 p2 p3 p4 0 _ _ _ hM hk0 hP hS (lv_sub hl [1, 2, 3, 4, 5, 0] rfl)

def mX9_slicesOf (S : xS) (h0 : Nat) (p1 : Int32) (p2 : Int32) (p3 : Int32) : Option (Int32 × xS) := (dO Ym (gR S h0 22) 10).bind fun d1 => (sI Ym S d1 0 p2).bind fun S2 => (dO Ym (gR S2 h0 22) 10).bind fun d3 => (sI Ym S2 d3 1 p1).bind fun S4 => (dO Ym (gR S4 h0 22) 10).bind fun d5 => (sI Ym S4 d5 2 p3).bind fun S6 => (mX9_sumOf S6 h0 0 1 60 12).bind fun q7 => some (q7.1, q7.2)
set_option maxHeartbeats 4000000 in
set_option maxRecDepth 100000 in
theorem kX9_slicesOf (l : Launch) (G : xG) (S : xS) (h0 : Nat) (p1 : Int32) (p2 : Int32) (p3 : Int32) (r : Int32) (S' : xS) (hk0 : xk Ym h0 = 9) (hM : mX9_slicesOf S h0 p1 p2 p3 = some (r, S')) : xM l yX9_slicesOf cX9_slicesOf 4 (some .int) 4 98 G Ym [.ref (xad G h0), .int p1, .int p2, .int p3] S (xQi G Ym r S') := by
  refine x_start (own := RX9) (by decide +kernel) rfl (Nat.le_of_ble_eq_true rfl) ?_
  intro p e s m below meth c ls X hl hP hS
  obtain ⟨hx, hb, hml, hown, hts, hr, hlk, hK, hE, hJ⟩ := id X
  have hl : lv_has ls 4 [(0, .ref (xad G h0)), (1, .int p1), (2, .int p2), (3, .int p3)] := hl
  unfold mX9_slicesOf at hM
  refine lv_aload_n hx hb dX9_slicesOf_0 rfl (lv_at hl 0 rfl) ?_
  obtain ⟨d1, ed1, hM⟩ := xb hM
  refine fdX9_22 X hP hk0 qw291 dX9_slicesOf_1 ed1 ?_
  refine lv_iconst (v := 0) hx hb dX9_slicesOf_4 (by decide) ?_
  refine lv_iload_n hx hb dX9_slicesOf_5 rfl (lv_at hl 2 rfl) ?_
  obtain ⟨S2, eS2, hM⟩ := xb hM
  refine x_iast X hP hS (dO_k ed1) eS2 dX9_slicesOf_6 (fun H locs hP hS => ?_)
  refine lv_aload_n hx hb dX9_slicesOf_7 rfl (lv_at hl 0 rfl) ?_
  obtain ⟨d3, ed3, hM⟩ := xb hM
  refine fdX9_22 X hP hk0 qw291 dX9_slicesOf_8 ed3 ?_
  refine lv_iconst (v := 1) hx hb dX9_slicesOf_11 (by decide) ?_
  refine lv_iload_n hx hb dX9_slicesOf_12 rfl (lv_at hl 1 rfl) ?_
  obtain ⟨S4, eS4, hM⟩ := xb hM
  refine x_iast X hP hS (dO_k ed3) eS4 dX9_slicesOf_13 (fun H locs hP hS => ?_)
  refine lv_aload_n hx hb dX9_slicesOf_14 rfl (lv_at hl 0 rfl) ?_
  obtain ⟨d5, ed5, hM⟩ := xb hM
  refine fdX9_22 X hP hk0 qw291 dX9_slicesOf_15 ed5 ?_
  refine lv_iconst (v := 2) hx hb dX9_slicesOf_18 (by decide) ?_
  refine lv_iload_n hx hb dX9_slicesOf_19 rfl (lv_at hl 3 rfl) ?_
  obtain ⟨S6, eS6, hM⟩ := xb hM
  refine x_iast X hP hS (dO_k ed5) eS6 dX9_slicesOf_20 (fun H locs hP hS => ?_)
  refine lv_aload_n hx hb dX9_slicesOf_21 rfl (lv_at hl 0 rfl) ?_
  refine lv_iconst (v := 0) hx hb dX9_slicesOf_22 (by decide) ?_
  refine lv_iconst (v := 1) hx hb dX9_slicesOf_23 (by decide) ?_
  refine lv_bipush (v := 60) hx hb dX9_slicesOf_24 (by decide) ?_
  refine lv_bipush (v := 12) hx hb dX9_slicesOf_26 (by decide) ?_
  obtain ⟨q7, eq7, hM⟩ := xb hM
  refine x_goi (x_runV (rest := []) X (kX9_sumOf l G S6 h0 0 1 60 12 q7.1 q7.2 hk0 eq7) qw294 okX9_sumOf ⟨Nat.le_of_ble_eq_true rfl, Nat.le_of_ble_eq_true rfl⟩ hk0 (by decide) rfl hP hS rfl hl.1 rfl (Nat.le_of_ble_eq_true rfl) dX9_slicesOf_28) hS (fun H locs hP hS => ?_)
  exact x_iret X hP hS hM dX9_slicesOf_31

def mX9_eatsOf (S : xS) (h0 : Nat) (p1 : Int32) (p2 : Int32) (p3 : Int32) (p4 : Int32) (p5 : Int32) : Option (Int32 × xS) := (dO Ym (gR S h0 22) 10).bind fun d1 => (sI Ym S d1 0 p3).bind fun S2 => (dO Ym (gR S2 h0 22) 10).bind fun d3 => (sI Ym S2 d3 1 p2).bind fun S4 => (dO Ym (gR S4 h0 22) 10).bind fun d5 => (sI Ym S4 d5 2 p4).bind fun S6 => (dO Ym (gR S6 h0 22) 10).bind fun d7 => (sI Ym S6 d7 3 p1).bind fun S8 => (dO Ym (gR S8 h0 22) 10).bind fun d9 => (dO Ym (gR S8 h0 0) 10).bind fun d10 => (aI Ym S8 d10 (16 + (2 * p1))).bind fun x11 => (sI Ym S8 d9 4 x11).bind fun S12 => (dO Ym (gR S12 h0 22) 10).bind fun d13 => (sI Ym S12 d13 5 p5).bind fun S14 => (dO Ym (gR S14 h0 22) 10).bind fun d15 => (aI Ym S14 d15 4).bind fun x16 => (mX9_sumOf S14 h0 1 0 9 x16).bind fun q17 => if (q17.1 ≤ p5 : Prop) then (some (q17.1, q17.2)) else (some (p5, q17.2))
set_option maxHeartbeats 4000000 in
set_option maxRecDepth 100000 in
theorem kX9_eatsOf (l : Launch) (G : xG) (S : xS) (h0 : Nat) (p1 : Int32) (p2 : Int32) (p3 : Int32) (p4 : Int32) (p5 : Int32) (r : Int32) (S' : xS) (hk0 : xk Ym h0 = 9) (hM : mX9_eatsOf S h0 p1 p2 p3 p4 p5 = some (r, S')) : xM l yX9_eatsOf cX9_eatsOf 7 (some .int) 4 98 G Ym [.ref (xad G h0), .int p1, .int p2, .int p3, .int p4, .int p5] S (xQi G Ym r S') := by
  refine x_start (own := RX9) (by decide +kernel) rfl (Nat.le_of_ble_eq_true rfl) ?_
  intro p e s m below meth c ls X hl hP hS
  obtain ⟨hx, hb, hml, hown, hts, hr, hlk, hK, hE, hJ⟩ := id X
  have hl : lv_has ls 7 [(0, .ref (xad G h0)), (1, .int p1), (2, .int p2), (3, .int p3), (4, .int p4), (5, .int p5)] := hl
  unfold mX9_eatsOf at hM
  refine lv_aload_n hx hb dX9_eatsOf_0 rfl (lv_at hl 0 rfl) ?_
  obtain ⟨d1, ed1, hM⟩ := xb hM
  refine fdX9_22 X hP hk0 qw291 dX9_eatsOf_1 ed1 ?_
  refine lv_iconst (v := 0) hx hb dX9_eatsOf_4 (by decide) ?_
  refine lv_iload_n hx hb dX9_eatsOf_5 rfl (lv_at hl 3 rfl) ?_
  obtain ⟨S2, eS2, hM⟩ := xb hM
  refine x_iast X hP hS (dO_k ed1) eS2 dX9_eatsOf_6 (fun H locs hP hS => ?_)
  refine lv_aload_n hx hb dX9_eatsOf_7 rfl (lv_at hl 0 rfl) ?_
  obtain ⟨d3, ed3, hM⟩ := xb hM
  refine fdX9_22 X hP hk0 qw291 dX9_eatsOf_8 ed3 ?_
  refine lv_iconst (v := 1) hx hb dX9_eatsOf_11 (by decide) ?_
  refine lv_iload_n hx hb dX9_eatsOf_12 rfl (lv_at hl 2 rfl) ?_
  obtain ⟨S4, eS4, hM⟩ := xb hM
  refine x_iast X hP hS (dO_k ed3) eS4 dX9_eatsOf_13 (fun H locs hP hS => ?_)
  refine lv_aload_n hx hb dX9_eatsOf_14 rfl (lv_at hl 0 rfl) ?_
  obtain ⟨d5, ed5, hM⟩ := xb hM
  refine fdX9_22 X hP hk0 qw291 dX9_eatsOf_15 ed5 ?_
  refine lv_iconst (v := 2) hx hb dX9_eatsOf_18 (by decide) ?_
  refine lv_iload hx hb dX9_eatsOf_19 (lv_at hl 4 rfl) ?_
  obtain ⟨S6, eS6, hM⟩ := xb hM
  refine x_iast X hP hS (dO_k ed5) eS6 dX9_eatsOf_21 (fun H locs hP hS => ?_)
  refine lv_aload_n hx hb dX9_eatsOf_22 rfl (lv_at hl 0 rfl) ?_
  obtain ⟨d7, ed7, hM⟩ := xb hM
  refine fdX9_22 X hP hk0 qw291 dX9_eatsOf_23 ed7 ?_
  refine lv_iconst (v := 3) hx hb dX9_eatsOf_26 (by decide) ?_
  refine lv_iload_n hx hb dX9_eatsOf_27 rfl (lv_at hl 1 rfl) ?_
  obtain ⟨S8, eS8, hM⟩ := xb hM
  refine x_iast X hP hS (dO_k ed7) eS8 dX9_eatsOf_28 (fun H locs hP hS => ?_)
  refine lv_aload_n hx hb dX9_eatsOf_29 rfl (lv_at hl 0 rfl) ?_
  obtain ⟨d9, ed9, hM⟩ := xb hM
  refine fdX9_22 X hP hk0 qw291 dX9_eatsOf_30 ed9 ?_
  refine lv_iconst (v := 4) hx hb dX9_eatsOf_33 (by decide) ?_
  refine lv_aload_n hx hb dX9_eatsOf_34 rfl (lv_at hl 0 rfl) ?_
  obtain ⟨d10, ed10, hM⟩ := xb hM
  refine fdX9_0 X hP hk0 qw227 dX9_eatsOf_35 ed10 ?_
  refine lv_bipush (v := 16) hx hb dX9_eatsOf_38 (by decide) ?_
  refine lv_iconst (v := 2) hx hb dX9_eatsOf_40 (by decide) ?_
  refine lv_iload_n hx hb dX9_eatsOf_41 rfl (lv_at hl 1 rfl) ?_
  refine lv_imul hx hb dX9_eatsOf_42 ?_
  refine lv_iadd hx hb dX9_eatsOf_43 ?_
  obtain ⟨x11, ex11, hM⟩ := xb hM
  refine x_iald X hP (dO_k ed10) ex11 dX9_eatsOf_44 ?_
  obtain ⟨S12, eS12, hM⟩ := xb hM
  refine x_iast X hP hS (dO_k ed9) eS12 dX9_eatsOf_45 (fun H locs hP hS => ?_)
  refine lv_aload_n hx hb dX9_eatsOf_46 rfl (lv_at hl 0 rfl) ?_
  obtain ⟨d13, ed13, hM⟩ := xb hM
  refine fdX9_22 X hP hk0 qw291 dX9_eatsOf_47 ed13 ?_
  refine lv_iconst (v := 5) hx hb dX9_eatsOf_50 (by decide) ?_
  refine lv_iload hx hb dX9_eatsOf_51 (lv_at hl 5 rfl) ?_
  obtain ⟨S14, eS14, hM⟩ := xb hM
  refine x_iast X hP hS (dO_k ed13) eS14 dX9_eatsOf_53 (fun H locs hP hS => ?_)
  refine lv_aload_n hx hb dX9_eatsOf_54 rfl (lv_at hl 0 rfl) ?_
  refine lv_iconst (v := 1) hx hb dX9_eatsOf_55 (by decide) ?_
  refine lv_iconst (v := 0) hx hb dX9_eatsOf_56 (by decide) ?_
  refine lv_bipush (v := 9) hx hb dX9_eatsOf_57 (by decide) ?_
  refine lv_aload_n hx hb dX9_eatsOf_59 rfl (lv_at hl 0 rfl) ?_
  obtain ⟨d15, ed15, hM⟩ := xb hM
  refine fdX9_22 X hP hk0 qw291 dX9_eatsOf_60 ed15 ?_
  refine lv_iconst (v := 4) hx hb dX9_eatsOf_63 (by decide) ?_
  obtain ⟨x16, ex16, hM⟩ := xb hM
  refine x_iald X hP (dO_k ed15) ex16 dX9_eatsOf_64 ?_
  obtain ⟨q17, eq17, hM⟩ := xb hM
  refine x_goi (x_runV (rest := []) X (kX9_sumOf l G S14 h0 1 0 9 x16 q17.1 q17.2 hk0 eq17) qw294 okX9_sumOf ⟨Nat.le_of_ble_eq_true rfl, Nat.le_of_ble_eq_true rfl⟩ hk0 (by decide) rfl hP hS rfl hl.1 rfl (Nat.le_of_ble_eq_true rfl) dX9_eatsOf_65) hS (fun H locs hP hS => ?_)
  refine lv_istore (lv' := [(6, .int q17.1), (0, .ref (xad G h0)), (1, .int p1), (2, .int p2), (3, .int p3), (4, .int p4), (5, .int p5)]) hx hb dX9_eatsOf_68 hl (by decide) rfl (fun ls hl => ?_)
  refine lv_iload hx hb dX9_eatsOf_70 (lv_at hl 0 rfl) ?_
  refine lv_iload hx hb dX9_eatsOf_72 (lv_at hl 6 rfl) ?_
  refine lv_icmp_le (tgt := 82) hx hb dX9_eatsOf_74 (by decide) (fun c18 => ?_) (fun c18 => ?_)
  · replace hM := (if_pos c18).symm.trans hM
    refine lv_iload hx hb dX9_eatsOf_82 (lv_at hl 0 rfl) ?_
    exact x_iret X hP hS hM dX9_eatsOf_84
  · replace hM := (if_neg c18).symm.trans hM
    refine lv_iload hx hb dX9_eatsOf_77 (lv_at hl 6 rfl) ?_
    refine lv_goto (tgt := 84) hx hb dX9_eatsOf_79 (by decide) ?_
    exact x_iret X hP hS hM dX9_eatsOf_84

def mX9_slices (S : xS) (h0 : Nat) (p1 : Int32) (p2 : Int32) : Option (Int32 × xS) := (mX9_isTable S p1).bind fun q1 => if (q1.1 = 0 : Prop) then (some ((-1), q1.2)) else ((mX9_isDay q1.2 p2).bind fun q3 => if (q3.1 = 0 : Prop) then (some ((-1), q3.2)) else ((dO Ym (gR q3.2 h0 0) 10).bind fun d5 => (aI Ym q3.2 d5 1).bind fun x6 => (mX9_slicesOf q3.2 h0 p1 p2 x6).bind fun q7 => some (q7.1, q7.2)))
set_option maxHeartbeats 4000000 in
set_option maxRecDepth 100000 in
theorem kX9_slices (l : Launch) (G : xG) (S : xS) (h0 : Nat) (p1 : Int32) (p2 : Int32) (r : Int32) (S' : xS) (hk0 : xk Ym h0 = 9) (hM : mX9_slices S h0 p1 p2 = some (r, S')) : xM l yX9_slices cX9_slices 3 (some .int) 5 121 G Ym [.ref (xad G h0), .int p1, .int p2] S (xQi G Ym r S') := by
  refine x_start (own := RX9) (by decide +kernel) rfl (Nat.le_of_ble_eq_true rfl) ?_
  intro p e s m below meth c ls X hl hP hS
  obtain ⟨hx, hb, hml, hown, hts, hr, hlk, hK, hE, hJ⟩ := id X
  have hl : lv_has ls 3 [(0, .ref (xad G h0)), (1, .int p1), (2, .int p2)] := hl
  unfold mX9_slices at hM
  refine lv_iload_n hx hb dX9_slices_0 rfl (lv_at hl 1 rfl) ?_
  obtain ⟨q1, eq1, hM⟩ := xb hM
  refine x_goi (x_runS (rest := []) X (kX9_isTable l G S p1 q1.1 q1.2  eq1) qw295 okX9_isTable ⟨Nat.le_of_ble_eq_true rfl, Nat.le_of_ble_eq_true rfl⟩ hP hS rfl hl.1 rfl (Nat.le_of_ble_eq_true rfl) dX9_slices_1) hS (fun H locs hP hS => ?_)
  refine lv_if_eq (tgt := 29) hx hb dX9_slices_4 (by decide) (fun c2 => ?_) (fun c2 => ?_)
  · replace hM := (if_pos c2).symm.trans hM
    refine lv_iconst (v := (-1)) hx hb dX9_slices_29 (by decide) ?_
    exact x_iret X hP hS hM dX9_slices_30
  · replace hM := (if_neg c2).symm.trans hM
    refine lv_iload_n hx hb dX9_slices_7 rfl (lv_at hl 2 rfl) ?_
    obtain ⟨q3, eq3, hM⟩ := xb hM
    refine x_goi (x_runS (rest := []) X (kX9_isDay l G q1.2 p2 q3.1 q3.2  eq3) qw296 okX9_isDay ⟨Nat.le_of_ble_eq_true rfl, Nat.le_of_ble_eq_true rfl⟩ hP hS rfl hl.1 rfl (Nat.le_of_ble_eq_true rfl) dX9_slices_8) hS (fun H locs hP hS => ?_)
    refine lv_if_eq (tgt := 29) hx hb dX9_slices_11 (by decide) (fun c4 => ?_) (fun c4 => ?_)
    · replace hM := (if_pos c4).symm.trans hM
      refine lv_iconst (v := (-1)) hx hb dX9_slices_29 (by decide) ?_
      exact x_iret X hP hS hM dX9_slices_30
    · replace hM := (if_neg c4).symm.trans hM
      refine lv_aload_n hx hb dX9_slices_14 rfl (lv_at hl 0 rfl) ?_
      refine lv_iload_n hx hb dX9_slices_15 rfl (lv_at hl 1 rfl) ?_
      refine lv_iload_n hx hb dX9_slices_16 rfl (lv_at hl 2 rfl) ?_
      refine lv_aload_n hx hb dX9_slices_17 rfl (lv_at hl 0 rfl) ?_
      obtain ⟨d5, ed5, hM⟩ := xb hM
      refine fdX9_0 X hP hk0 qw227 dX9_slices_18 ed5 ?_
      refine lv_iconst (v := 1) hx hb dX9_slices_21 (by decide) ?_
      obtain ⟨x6, ex6, hM⟩ := xb hM
      refine x_iald X hP (dO_k ed5) ex6 dX9_slices_22 ?_
      obtain ⟨q7, eq7, hM⟩ := xb hM
      refine x_goi (x_runV (rest := []) X (kX9_slicesOf l G q3.2 h0 p1 p2 x6 q7.1 q7.2 hk0 eq7) qw297 okX9_slicesOf ⟨Nat.le_of_ble_eq_true rfl, Nat.le_of_ble_eq_true rfl⟩ hk0 (by decide) rfl hP hS rfl hl.1 rfl (Nat.le_of_ble_eq_true rfl) dX9_slices_23) hS (fun H locs hP hS => ?_)
      refine lv_goto (tgt := 30) hx hb dX9_slices_26 (by decide) ?_
      exact x_iret X hP hS hM dX9_slices_30

def lX9_sittingAt_4 : Nat → xS → Nat → Int32 → Int32 → Int32 → Option (Int32 × xS)
  | 0, _, _, _, _, _ => none
  | n + 1, S, h0, v1, v2, v3 => (dO Ym (gR S h0 0) 10).bind fun d1 => (aI Ym S d1 0).bind fun x2 => if (x2 ≤ v3 : Prop) then (some (v2, S)) else ((mX9_seatOf S h0 v3).bind fun q4 => if (q4.1 = v1 : Prop) then (lX9_sittingAt_4 n q4.2 h0 v1 (v2 ||| (1 <<< (v3 &&& 31))) (v3 + 1)) else (lX9_sittingAt_4 n q4.2 h0 v1 (v2 ||| 0) (v3 + 1)))
set_option maxHeartbeats 4000000 in
set_option maxRecDepth 100000 in
theorem wX9_sittingAt_4 {p : Program} {l : Launch} {e : Env} {s : State} {m : MethodId} {args : Array Value} {below : List Frame} {meth : Method} {c : Code} {G : xG} {r : Int32} {S' : xS} (X : xX p s m args meth c cX9_sittingAt 4 (some .int) RX9 G Ym) : ∀ (n : Nat), ∀ (S : xS) (h0 : Nat) (v1 : Int32) (v2 : Int32) (v3 : Int32) (H : Heap) (locs : List Loc) (ls : Array Slot), lX9_sittingAt_4  n S h0 v1 v2 v3 = some (r, S') → xk Ym h0 = 9 → xP G Ym S H → va_S (xA G Ym) s.heap H locs → lv_has ls 4 [(0, .ref (xad G h0)), (1, .int v1), (2, .int v2), (3, .int v3)] → W p l e (xr 1 21) s m args below meth c H locs 0 0 (MQ below (xQi G Ym r S') args s 0 0 (xA G Ym)) (F0 m 4 ls []) := by
  obtain ⟨hx, hb, hml, hown, hts, hr, hlk, hK, hE, hJ⟩ := id X
  intro n
  induction n with
  | zero =>
    intro S h0 v1 v2 v3 H locs ls hM
    rw [lX9_sittingAt_4.eq_1] at hM
    cases hM
  | succ n ih =>
    intro S h0 v1 v2 v3 H locs ls hM hk0 hP hS hl
    rw [lX9_sittingAt_4.eq_2] at hM
    refine lv_iload_n hx hb dX9_sittingAt_4 rfl (lv_at hl 3 rfl) ?_
    refine lv_aload_n hx hb dX9_sittingAt_5 rfl (lv_at hl 0 rfl) ?_
    obtain ⟨d1, ed1, hM⟩ := xb hM
    refine fdX9_0 X hP hk0 qw227 dX9_sittingAt_6 ed1 ?_
    refine lv_iconst (v := 0) hx hb dX9_sittingAt_9 (by decide) ?_
    obtain ⟨x2, ex2, hM⟩ := xb hM
    refine x_iald X hP (dO_k ed1) ex2 dX9_sittingAt_10 ?_
    refine lv_icmp_ge (tgt := 39) hx hb dX9_sittingAt_11 (by decide) (fun c3 => ?_) (fun c3 => ?_)
    · replace hM := (if_pos c3).symm.trans hM
      refine lv_iload_n hx hb dX9_sittingAt_39 rfl (lv_at hl 2 rfl) ?_
      exact x_iret X hP hS hM dX9_sittingAt_40
    · replace hM := (if_neg c3).symm.trans hM
      refine lv_iload_n hx hb dX9_sittingAt_14 rfl (lv_at hl 2 rfl) ?_
      refine lv_aload_n hx hb dX9_sittingAt_15 rfl (lv_at hl 0 rfl) ?_
      refine lv_iload_n hx hb dX9_sittingAt_16 rfl (lv_at hl 3 rfl) ?_
      obtain ⟨q4, eq4, hM⟩ := xb hM
      refine x_goi (x_runV (rest := [.int v2]) X (kX9_seatOf l G S h0 v3 q4.1 q4.2 hk0 eq4) qw298 okX9_seatOf ⟨Nat.le_of_ble_eq_true rfl, Nat.le_of_ble_eq_true rfl⟩ hk0 (by decide) rfl hP hS rfl hl.1 rfl (Nat.le_of_ble_eq_true rfl) dX9_sittingAt_17) hS (fun H locs hP hS => ?_)
      refine lv_iload_n hx hb dX9_sittingAt_20 rfl (lv_at hl 1 rfl) ?_
      refine lv_icmp_ne (tgt := 30) hx hb dX9_sittingAt_21 (by decide) (fun c5 => ?_) (fun c5 => ?_)
      · replace hM := (if_neg c5).symm.trans hM
        refine lv_iconst (v := 0) hx hb dX9_sittingAt_30 (by decide) ?_
        refine lv_ior hx hb dX9_sittingAt_31 ?_
        refine lv_istore_n (lv' := [(2, .int (v2 ||| 0)), (0, .ref (xad G h0)), (1, .int v1), (3, .int v3)]) hx hb dX9_sittingAt_32 rfl hl (by decide) rfl (fun ls hl => ?_)
        refine lv_iinc (v := v3 + 1) (lv' := [(3, .int (v3 + 1)), (2, .int (v2 ||| 0)), (0, .ref (xad G h0)), (1, .int v1)]) hx hb dX9_sittingAt_33 hl (k := 3) rfl (by first | rfl | exact congrArg (fun z => v3 + z) (by decide)) (by decide) rfl (fun ls hl => ?_)
        refine lv_goto (tgt := 4) hx hb dX9_sittingAt_36 (by decide) ?_
        exact ih q4.2 h0 v1 (v2 ||| 0) (v3 + 1) _ _ _ hM hk0 hP hS (lv_sub hl [2, 3, 1, 0] rfl)
      · replace hM := (if_pos c5).symm.trans hM
        refine lv_iconst (v := 1) hx hb dX9_sittingAt_24 (by decide) ?_
        refine lv_iload_n hx hb dX9_sittingAt_25 rfl (lv_at hl 3 rfl) ?_
        refine lv_ishl hx hb dX9_sittingAt_26 ?_
        refine lv_goto (tgt := 31) hx hb dX9_sittingAt_27 (by decide) ?_
        refine lv_ior hx hb dX9_sittingAt_31 ?_
        refine lv_istore_n (lv' := [(2, .int (v2 ||| (1 <<< (v3 &&& 31)))), (0, .ref (xad G h0)), (1, .int v1), (3, .int v3)]) hx hb dX9_sittingAt_32 rfl hl (by decide) rfl (fun ls hl => ?_)
        refine lv_iinc (v := v3 + 1) (lv' := [(3, .int (v3 + 1)), (2, .int (v2 ||| (1 <<< (v3 &&& 31)))), (0, .ref (xad G h0)), (1, .int v1)]) hx hb dX9_sittingAt_33 hl (k := 3) rfl (by first | rfl | exact congrArg (fun z => v3 + z) (by decide)) (by decide) rfl (fun ls hl => ?_)
        refine lv_goto (tgt := 4) hx hb dX9_sittingAt_36 (by decide) ?_
        exact ih q4.2 h0 v1 (v2 ||| (1 <<< (v3 &&& 31))) (v3 + 1) _ _ _ hM hk0 hP hS (lv_sub hl [2, 3, 1, 0] rfl)
def mX9_sittingAt (S : xS) (h0 : Nat) (p1 : Int32) : Option (Int32 × xS) := lX9_sittingAt_4  5000 S h0 p1 0 0
set_option maxHeartbeats 4000000 in
set_option maxRecDepth 100000 in
theorem kX9_sittingAt (l : Launch) (G : xG) (S : xS) (h0 : Nat) (p1 : Int32) (r : Int32) (S' : xS) (hk0 : xk Ym h0 = 9) (hM : mX9_sittingAt S h0 p1 = some (r, S')) : xM l yX9_sittingAt cX9_sittingAt 4 (some .int) 1 21 G Ym [.ref (xad G h0), .int p1] S (xQi G Ym r S') := by
  refine x_start (own := RX9) (by decide +kernel) rfl (Nat.le_of_ble_eq_true rfl) ?_
  intro p e s m below meth c ls X hl hP hS
  obtain ⟨hx, hb, hml, hown, hts, hr, hlk, hK, hE, hJ⟩ := id X
  have hl : lv_has ls 4 [(0, .ref (xad G h0)), (1, .int p1)] := hl
  unfold mX9_sittingAt at hM
  refine lv_iconst (v := 0) hx hb dX9_sittingAt_0 (by decide) ?_
  refine lv_istore_n (lv' := [(2, .int 0), (0, .ref (xad G h0)), (1, .int p1)]) hx hb dX9_sittingAt_1 rfl hl (by decide) rfl (fun ls hl => ?_)
  refine lv_iconst (v := 0) hx hb dX9_sittingAt_2 (by decide) ?_
  refine lv_istore_n (lv' := [(3, .int 0), (2, .int 0), (0, .ref (xad G h0)), (1, .int p1)]) hx hb dX9_sittingAt_3 rfl hl (by decide) rfl (fun ls hl => ?_)
  exact wX9_sittingAt_4 X  5000 S h0 p1 0 0 _ _ _ hM hk0 hP hS (lv_sub hl [2, 3, 1, 0] rfl)

def mX9_setTable (S : xS) (h0 : Nat) (p1 : Int32) : Option xS := xlet (pI S h0 25 p1) fun S1 => (dO Ym (gR S1 h0 0) 10).bind fun d2 => (aI Ym S1 d2 (10 + (3 * p1))).bind fun x3 => xlet (pI S1 h0 26 x3) fun S4 => (dO Ym (gR S4 h0 0) 10).bind fun d5 => (aI Ym S4 d5 ((10 + (3 * p1)) + 1)).bind fun x6 => xlet (pI S4 h0 27 x6) fun S7 => (dO Ym (gR S7 h0 0) 10).bind fun d8 => (aI Ym S7 d8 ((10 + (3 * p1)) + 2)).bind fun x9 => xlet (pI S7 h0 28 x9) fun S10 => (mX9_sittingAt S10 h0 p1).bind fun q11 => xlet (pI q11.2 h0 29 q11.1) fun S12 => some S12
set_option maxHeartbeats 4000000 in
set_option maxRecDepth 100000 in
theorem kX9_setTable (l : Launch) (G : xG) (S : xS) (h0 : Nat) (p1 : Int32) (S' : xS) (hk0 : xk Ym h0 = 9) (hM : mX9_setTable S h0 p1 = some S') : xM l yX9_setTable cX9_setTable 2 none 2 44 G Ym [.ref (xad G h0), .int p1] S (xQv G Ym S') := by
  refine x_start (own := RX9) (by decide +kernel) rfl (Nat.le_of_ble_eq_true rfl) ?_
  intro p e s m below meth c ls X hl hP hS
  obtain ⟨hx, hb, hml, hown, hts, hr, hlk, hK, hE, hJ⟩ := id X
  have hl : lv_has ls 2 [(0, .ref (xad G h0)), (1, .int p1)] := hl
  unfold mX9_setTable at hM
  refine lv_aload_n hx hb dX9_setTable_0 rfl (lv_at hl 0 rfl) ?_
  refine lv_iload_n hx hb dX9_setTable_1 rfl (lv_at hl 1 rfl) ?_
  obtain ⟨S1, eS1, hM⟩ := xlet_ex hM
  refine fpX9_25 X hP hS hk0 qw299 dX9_setTable_2 eS1 (fun H locs hP hS => ?_)
  refine lv_aload_n hx hb dX9_setTable_5 rfl (lv_at hl 0 rfl) ?_
  refine lv_aload_n hx hb dX9_setTable_6 rfl (lv_at hl 0 rfl) ?_
  obtain ⟨d2, ed2, hM⟩ := xb hM
  refine fdX9_0 X hP hk0 qw227 dX9_setTable_7 ed2 ?_
  refine lv_bipush (v := 10) hx hb dX9_setTable_10 (by decide) ?_
  refine lv_iconst (v := 3) hx hb dX9_setTable_12 (by decide) ?_
  refine lv_iload_n hx hb dX9_setTable_13 rfl (lv_at hl 1 rfl) ?_
  refine lv_imul hx hb dX9_setTable_14 ?_
  refine lv_iadd hx hb dX9_setTable_15 ?_
  obtain ⟨x3, ex3, hM⟩ := xb hM
  refine x_iald X hP (dO_k ed2) ex3 dX9_setTable_16 ?_
  obtain ⟨S4, eS4, hM⟩ := xlet_ex hM
  refine fpX9_26 X hP hS hk0 qw300 dX9_setTable_17 eS4 (fun H locs hP hS => ?_)
  refine lv_aload_n hx hb dX9_setTable_20 rfl (lv_at hl 0 rfl) ?_
  refine lv_aload_n hx hb dX9_setTable_21 rfl (lv_at hl 0 rfl) ?_
  obtain ⟨d5, ed5, hM⟩ := xb hM
  refine fdX9_0 X hP hk0 qw227 dX9_setTable_22 ed5 ?_
  refine lv_bipush (v := 10) hx hb dX9_setTable_25 (by decide) ?_
  refine lv_iconst (v := 3) hx hb dX9_setTable_27 (by decide) ?_
  refine lv_iload_n hx hb dX9_setTable_28 rfl (lv_at hl 1 rfl) ?_
  refine lv_imul hx hb dX9_setTable_29 ?_
  refine lv_iadd hx hb dX9_setTable_30 ?_
  refine lv_iconst (v := 1) hx hb dX9_setTable_31 (by decide) ?_
  refine lv_iadd hx hb dX9_setTable_32 ?_
  obtain ⟨x6, ex6, hM⟩ := xb hM
  refine x_iald X hP (dO_k ed5) ex6 dX9_setTable_33 ?_
  obtain ⟨S7, eS7, hM⟩ := xlet_ex hM
  refine fpX9_27 X hP hS hk0 qw301 dX9_setTable_34 eS7 (fun H locs hP hS => ?_)
  refine lv_aload_n hx hb dX9_setTable_37 rfl (lv_at hl 0 rfl) ?_
  refine lv_aload_n hx hb dX9_setTable_38 rfl (lv_at hl 0 rfl) ?_
  obtain ⟨d8, ed8, hM⟩ := xb hM
  refine fdX9_0 X hP hk0 qw227 dX9_setTable_39 ed8 ?_
  refine lv_bipush (v := 10) hx hb dX9_setTable_42 (by decide) ?_
  refine lv_iconst (v := 3) hx hb dX9_setTable_44 (by decide) ?_
  refine lv_iload_n hx hb dX9_setTable_45 rfl (lv_at hl 1 rfl) ?_
  refine lv_imul hx hb dX9_setTable_46 ?_
  refine lv_iadd hx hb dX9_setTable_47 ?_
  refine lv_iconst (v := 2) hx hb dX9_setTable_48 (by decide) ?_
  refine lv_iadd hx hb dX9_setTable_49 ?_
  obtain ⟨x9, ex9, hM⟩ := xb hM
  refine x_iald X hP (dO_k ed8) ex9 dX9_setTable_50 ?_
  obtain ⟨S10, eS10, hM⟩ := xlet_ex hM
  refine fpX9_28 X hP hS hk0 qw302 dX9_setTable_51 eS10 (fun H locs hP hS => ?_)
  refine lv_aload_n hx hb dX9_setTable_54 rfl (lv_at hl 0 rfl) ?_
  refine lv_aload_n hx hb dX9_setTable_55 rfl (lv_at hl 0 rfl) ?_
  refine lv_iload_n hx hb dX9_setTable_56 rfl (lv_at hl 1 rfl) ?_
  obtain ⟨q11, eq11, hM⟩ := xb hM
  refine x_goi (x_runV (rest := [.ref (xad G h0)]) X (kX9_sittingAt l G S10 h0 p1 q11.1 q11.2 hk0 eq11) qw303 okX9_sittingAt ⟨Nat.le_of_ble_eq_true rfl, Nat.le_of_ble_eq_true rfl⟩ hk0 (by decide) rfl hP hS rfl hl.1 rfl (Nat.le_of_ble_eq_true rfl) dX9_setTable_57) hS (fun H locs hP hS => ?_)
  obtain ⟨S12, eS12, hM⟩ := xlet_ex hM
  refine fpX9_29 X hP hS hk0 qw304 dX9_setTable_60 eS12 (fun H locs hP hS => ?_)
  exact x_vret X hP hS hM dX9_setTable_63

def mX9_bake (S : xS) (h0 : Nat) (p1 : Int32) : Option xS := if (0 < (gI S h0 27) : Prop) then (some S) else (if (0 < (gI S h0 28) : Prop) then (some S) else (if ((gI S h0 26) = 999 : Prop) then (some S) else (xlet (pI S h0 26 ((gI S h0 26) + 1)) fun S4 => (mX9_slicesOf S4 h0 (gI S4 h0 25) (gI S4 h0 26) p1).bind fun q5 => xlet (pI q5.2 h0 27 q5.1) fun S6 => some S6)))
set_option maxHeartbeats 4000000 in
set_option maxRecDepth 100000 in
theorem kX9_bake (l : Launch) (G : xG) (S : xS) (h0 : Nat) (p1 : Int32) (S' : xS) (hk0 : xk Ym h0 = 9) (hM : mX9_bake S h0 p1 = some S') : xM l yX9_bake cX9_bake 2 none 5 121 G Ym [.ref (xad G h0), .int p1] S (xQv G Ym S') := by
  refine x_start (own := RX9) (by decide +kernel) rfl (Nat.le_of_ble_eq_true rfl) ?_
  intro p e s m below meth c ls X hl hP hS
  obtain ⟨hx, hb, hml, hown, hts, hr, hlk, hK, hE, hJ⟩ := id X
  have hl : lv_has ls 2 [(0, .ref (xad G h0)), (1, .int p1)] := hl
  unfold mX9_bake at hM
  refine lv_aload_n hx hb dX9_bake_0 rfl (lv_at hl 0 rfl) ?_
  refine fgX9_27 X hP hk0 qw301 dX9_bake_1 ?_
  refine lv_if_gt (tgt := 24) hx hb dX9_bake_4 (by decide) (fun c1 => ?_) (fun c1 => ?_)
  · replace hM := (if_pos c1).symm.trans hM
    exact x_vret X hP hS hM dX9_bake_24
  · replace hM := (if_neg c1).symm.trans hM
    refine lv_aload_n hx hb dX9_bake_7 rfl (lv_at hl 0 rfl) ?_
    refine fgX9_28 X hP hk0 qw302 dX9_bake_8 ?_
    refine lv_if_gt (tgt := 24) hx hb dX9_bake_11 (by decide) (fun c2 => ?_) (fun c2 => ?_)
    · replace hM := (if_pos c2).symm.trans hM
      exact x_vret X hP hS hM dX9_bake_24
    · replace hM := (if_neg c2).symm.trans hM
      refine lv_aload_n hx hb dX9_bake_14 rfl (lv_at hl 0 rfl) ?_
      refine fgX9_26 X hP hk0 qw300 dX9_bake_15 ?_
      refine lv_sipush (v := 999) hx hb dX9_bake_18 (by decide) ?_
      refine lv_icmp_ne (tgt := 25) hx hb dX9_bake_21 (by decide) (fun c3 => ?_) (fun c3 => ?_)
      · replace hM := (if_neg c3).symm.trans hM
        refine lv_aload_n hx hb dX9_bake_25 rfl (lv_at hl 0 rfl) ?_
        refine lv_dup hx hb dX9_bake_26 rfl ?_
        refine fgX9_26 X hP hk0 qw300 dX9_bake_27 ?_
        refine lv_iconst (v := 1) hx hb dX9_bake_30 (by decide) ?_
        refine lv_iadd hx hb dX9_bake_31 ?_
        obtain ⟨S4, eS4, hM⟩ := xlet_ex hM
        refine fpX9_26 X hP hS hk0 qw300 dX9_bake_32 eS4 (fun H locs hP hS => ?_)
        refine lv_aload_n hx hb dX9_bake_35 rfl (lv_at hl 0 rfl) ?_
        refine lv_aload_n hx hb dX9_bake_36 rfl (lv_at hl 0 rfl) ?_
        refine lv_aload_n hx hb dX9_bake_37 rfl (lv_at hl 0 rfl) ?_
        refine fgX9_25 X hP hk0 qw299 dX9_bake_38 ?_
        refine lv_aload_n hx hb dX9_bake_41 rfl (lv_at hl 0 rfl) ?_
        refine fgX9_26 X hP hk0 qw300 dX9_bake_42 ?_
        refine lv_iload_n hx hb dX9_bake_45 rfl (lv_at hl 1 rfl) ?_
        obtain ⟨q5, eq5, hM⟩ := xb hM
        refine x_goi (x_runV (rest := [.ref (xad G h0)]) X (kX9_slicesOf l G S4 h0 (gI S4 h0 25) (gI S4 h0 26) p1 q5.1 q5.2 hk0 eq5) qw297 okX9_slicesOf ⟨Nat.le_of_ble_eq_true rfl, Nat.le_of_ble_eq_true rfl⟩ hk0 (by decide) rfl hP hS rfl hl.1 rfl (Nat.le_of_ble_eq_true rfl) dX9_bake_46) hS (fun H locs hP hS => ?_)
        obtain ⟨S6, eS6, hM⟩ := xlet_ex hM
        refine fpX9_27 X hP hS hk0 qw301 dX9_bake_49 eS6 (fun H locs hP hS => ?_)
        exact x_vret X hP hS hM dX9_bake_52
      · replace hM := (if_pos c3).symm.trans hM
        exact x_vret X hP hS hM dX9_bake_24

def lX9_eat_7 : Nat → xS → Nat → Int32 → Int32 → Int32 → Option (Int32 × xS)
  | 0, _, _, _, _, _ => none
  | n + 1, S, h0, v1, v2, v3 => (dO Ym (gR S h0 0) 10).bind fun d1 => (aI Ym S d1 0).bind fun x2 => if (x2 ≤ v3 : Prop) then (some (v2 - (gI S h0 27), S)) else ((mX9_has S (gI S h0 29) v3).bind fun q4 => if (q4.1 = 0 : Prop) then (lX9_eat_7 n q4.2 h0 v1 v2 (v3 + 1)) else ((mX9_eatsOf q4.2 h0 v3 (gI q4.2 h0 25) (gI q4.2 h0 26) v1 (gI q4.2 h0 27)).bind fun q6 => xlet (pI q6.2 h0 27 ((gI q4.2 h0 27) - q6.1)) fun S7 => lX9_eat_7 n S7 h0 v1 v2 (v3 + 1)))
set_option maxHeartbeats 4000000 in
set_option maxRecDepth 100000 in
theorem wX9_eat_7 {p : Program} {l : Launch} {e : Env} {s : State} {m : MethodId} {args : Array Value} {below : List Frame} {meth : Method} {c : Code} {G : xG} {r : Int32} {S' : xS} (X : xX p s m args meth c cX9_eat 4 (some .int) RX9 G Ym) : ∀ (n : Nat), ∀ (S : xS) (h0 : Nat) (v1 : Int32) (v2 : Int32) (v3 : Int32) (H : Heap) (locs : List Loc) (ls : Array Slot), lX9_eat_7  n S h0 v1 v2 v3 = some (r, S') → xk Ym h0 = 9 → xP G Ym S H → va_S (xA G Ym) s.heap H locs → lv_has ls 4 [(0, .ref (xad G h0)), (1, .int v1), (2, .int v2), (3, .int v3)] → W p l e (xr 5 124) s m args below meth c H locs 0 0 (MQ below (xQi G Ym r S') args s 0 0 (xA G Ym)) (F0 m 7 ls []) := by
  obtain ⟨hx, hb, hml, hown, hts, hr, hlk, hK, hE, hJ⟩ := id X
  intro n
  induction n with
  | zero =>
    intro S h0 v1 v2 v3 H locs ls hM
    rw [lX9_eat_7.eq_1] at hM
    cases hM
  | succ n ih =>
    intro S h0 v1 v2 v3 H locs ls hM hk0 hP hS hl
    rw [lX9_eat_7.eq_2] at hM
    refine lv_iload_n hx hb dX9_eat_7 rfl (lv_at hl 3 rfl) ?_
    refine lv_aload_n hx hb dX9_eat_8 rfl (lv_at hl 0 rfl) ?_
    obtain ⟨d1, ed1, hM⟩ := xb hM
    refine fdX9_0 X hP hk0 qw227 dX9_eat_9 ed1 ?_
    refine lv_iconst (v := 0) hx hb dX9_eat_12 (by decide) ?_
    obtain ⟨x2, ex2, hM⟩ := xb hM
    refine x_iald X hP (dO_k ed1) ex2 dX9_eat_13 ?_
    refine lv_icmp_ge (tgt := 61) hx hb dX9_eat_14 (by decide) (fun c3 => ?_) (fun c3 => ?_)
    · replace hM := (if_pos c3).symm.trans hM
      refine lv_iload_n hx hb dX9_eat_61 rfl (lv_at hl 2 rfl) ?_
      refine lv_aload_n hx hb dX9_eat_62 rfl (lv_at hl 0 rfl) ?_
      refine fgX9_27 X hP hk0 qw301 dX9_eat_63 ?_
      refine lv_isub hx hb dX9_eat_66 ?_
      exact x_iret X hP hS hM dX9_eat_67
    · replace hM := (if_neg c3).symm.trans hM
      refine lv_aload_n hx hb dX9_eat_17 rfl (lv_at hl 0 rfl) ?_
      refine fgX9_29 X hP hk0 qw304 dX9_eat_18 ?_
      refine lv_iload_n hx hb dX9_eat_21 rfl (lv_at hl 3 rfl) ?_
      obtain ⟨q4, eq4, hM⟩ := xb hM
      refine x_goi (x_runS (rest := []) X (kX9_has l G S (gI S h0 29) v3 q4.1 q4.2  eq4) qw305 okX9_has ⟨Nat.le_of_ble_eq_true rfl, Nat.le_of_ble_eq_true rfl⟩ hP hS rfl hl.1 rfl (Nat.le_of_ble_eq_true rfl) dX9_eat_22) hS (fun H locs hP hS => ?_)
      refine lv_if_eq (tgt := 55) hx hb dX9_eat_25 (by decide) (fun c5 => ?_) (fun c5 => ?_)
      · replace hM := (if_pos c5).symm.trans hM
        refine lv_iinc (v := v3 + 1) (lv' := [(3, .int (v3 + 1)), (0, .ref (xad G h0)), (1, .int v1), (2, .int v2)]) hx hb dX9_eat_55 hl (k := 3) rfl (by first | rfl | exact congrArg (fun z => v3 + z) (by decide)) (by decide) rfl (fun ls hl => ?_)
        refine lv_goto (tgt := 7) hx hb dX9_eat_58 (by decide) ?_
        exact ih q4.2 h0 v1 v2 (v3 + 1) _ _ _ hM hk0 hP hS (lv_sub hl [1, 2, 3, 0] rfl)
      · replace hM := (if_neg c5).symm.trans hM
        refine lv_aload_n hx hb dX9_eat_28 rfl (lv_at hl 0 rfl) ?_
        refine lv_dup hx hb dX9_eat_29 rfl ?_
        refine fgX9_27 X hP hk0 qw301 dX9_eat_30 ?_
        refine lv_aload_n hx hb dX9_eat_33 rfl (lv_at hl 0 rfl) ?_
        refine lv_iload_n hx hb dX9_eat_34 rfl (lv_at hl 3 rfl) ?_
        refine lv_aload_n hx hb dX9_eat_35 rfl (lv_at hl 0 rfl) ?_
        refine fgX9_25 X hP hk0 qw299 dX9_eat_36 ?_
        refine lv_aload_n hx hb dX9_eat_39 rfl (lv_at hl 0 rfl) ?_
        refine fgX9_26 X hP hk0 qw300 dX9_eat_40 ?_
        refine lv_iload_n hx hb dX9_eat_43 rfl (lv_at hl 1 rfl) ?_
        refine lv_aload_n hx hb dX9_eat_44 rfl (lv_at hl 0 rfl) ?_
        refine fgX9_27 X hP hk0 qw301 dX9_eat_45 ?_
        obtain ⟨q6, eq6, hM⟩ := xb hM
        refine x_goi (x_runV (rest := [.int (gI q4.2 h0 27), .ref (xad G h0)]) X (kX9_eatsOf l G q4.2 h0 v3 (gI q4.2 h0 25) (gI q4.2 h0 26) v1 (gI q4.2 h0 27) q6.1 q6.2 hk0 eq6) qw306 okX9_eatsOf ⟨Nat.le_of_ble_eq_true rfl, Nat.le_of_ble_eq_true rfl⟩ hk0 (by decide) rfl hP hS rfl hl.1 rfl (Nat.le_of_ble_eq_true rfl) dX9_eat_48) hS (fun H locs hP hS => ?_)
        refine lv_isub hx hb dX9_eat_51 ?_
        obtain ⟨S7, eS7, hM⟩ := xlet_ex hM
        refine fpX9_27 X hP hS hk0 qw301 dX9_eat_52 eS7 (fun H locs hP hS => ?_)
        refine lv_iinc (v := v3 + 1) (lv' := [(3, .int (v3 + 1)), (0, .ref (xad G h0)), (1, .int v1), (2, .int v2)]) hx hb dX9_eat_55 hl (k := 3) rfl (by first | rfl | exact congrArg (fun z => v3 + z) (by decide)) (by decide) rfl (fun ls hl => ?_)
        refine lv_goto (tgt := 7) hx hb dX9_eat_58 (by decide) ?_
        exact ih S7 h0 v1 v2 (v3 + 1) _ _ _ hM hk0 hP hS (lv_sub hl [1, 2, 3, 0] rfl)
def mX9_eat (S : xS) (h0 : Nat) (p1 : Int32) : Option (Int32 × xS) := lX9_eat_7  5000 S h0 p1 (gI S h0 27) 0
set_option maxHeartbeats 4000000 in
set_option maxRecDepth 100000 in
theorem kX9_eat (l : Launch) (G : xG) (S : xS) (h0 : Nat) (p1 : Int32) (r : Int32) (S' : xS) (hk0 : xk Ym h0 = 9) (hM : mX9_eat S h0 p1 = some (r, S')) : xM l yX9_eat cX9_eat 4 (some .int) 5 124 G Ym [.ref (xad G h0), .int p1] S (xQi G Ym r S') := by
  refine x_start (own := RX9) (by decide +kernel) rfl (Nat.le_of_ble_eq_true rfl) ?_
  intro p e s m below meth c ls X hl hP hS
  obtain ⟨hx, hb, hml, hown, hts, hr, hlk, hK, hE, hJ⟩ := id X
  have hl : lv_has ls 4 [(0, .ref (xad G h0)), (1, .int p1)] := hl
  unfold mX9_eat at hM
  refine lv_aload_n hx hb dX9_eat_0 rfl (lv_at hl 0 rfl) ?_
  refine fgX9_27 X hP hk0 qw301 dX9_eat_1 ?_
  refine lv_istore_n (lv' := [(2, .int (gI S h0 27)), (0, .ref (xad G h0)), (1, .int p1)]) hx hb dX9_eat_4 rfl hl (by decide) rfl (fun ls hl => ?_)
  refine lv_iconst (v := 0) hx hb dX9_eat_5 (by decide) ?_
  refine lv_istore_n (lv' := [(3, .int 0), (2, .int (gI S h0 27)), (0, .ref (xad G h0)), (1, .int p1)]) hx hb dX9_eat_6 rfl hl (by decide) rfl (fun ls hl => ?_)
  exact wX9_eat_7 X  5000 S h0 p1 (gI S h0 27) 0 _ _ _ hM hk0 hP hS (lv_sub hl [2, 3, 1, 0] rfl)

def mX9_goOn (S : xS) (h0 : Nat) (p1 : Int32) (p2 : Int32) : Option xS := (mX9_bake S h0 p1).bind fun S1 => (mX9_eat S1 h0 p1).bind fun q2 => if (p2 = 0 : Prop) then (some q2.2) else (if ((gI q2.2 h0 27) ≤ 0 : Prop) then (some q2.2) else (xlet (pI q2.2 h0 27 ((gI q2.2 h0 27) - 1)) fun S5 => some S5))
set_option maxHeartbeats 4000000 in
set_option maxRecDepth 100000 in
theorem kX9_goOn (l : Launch) (G : xG) (S : xS) (h0 : Nat) (p1 : Int32) (p2 : Int32) (S' : xS) (hk0 : xk Ym h0 = 9) (hM : mX9_goOn S h0 p1 p2 = some S') : xM l yX9_goOn cX9_goOn 4 none 6 147 G Ym [.ref (xad G h0), .int p1, .int p2] S (xQv G Ym S') := by
  refine x_start (own := RX9) (by decide +kernel) rfl (Nat.le_of_ble_eq_true rfl) ?_
  intro p e s m below meth c ls X hl hP hS
  obtain ⟨hx, hb, hml, hown, hts, hr, hlk, hK, hE, hJ⟩ := id X
  have hl : lv_has ls 4 [(0, .ref (xad G h0)), (1, .int p1), (2, .int p2)] := hl
  unfold mX9_goOn at hM
  refine lv_aload_n hx hb dX9_goOn_0 rfl (lv_at hl 0 rfl) ?_
  refine lv_iload_n hx hb dX9_goOn_1 rfl (lv_at hl 1 rfl) ?_
  obtain ⟨S1, eS1, hM⟩ := xb hM
  refine x_gov (x_runV (rest := []) X (kX9_bake l G S h0 p1 S1 hk0 eS1) qw307 okX9_bake ⟨Nat.le_of_ble_eq_true rfl, Nat.le_of_ble_eq_true rfl⟩ hk0 (by decide) rfl hP hS rfl hl.1 rfl (Nat.le_of_ble_eq_true rfl) dX9_goOn_2) hS (fun H locs hP hS => ?_)
  refine lv_aload_n hx hb dX9_goOn_5 rfl (lv_at hl 0 rfl) ?_
  refine lv_iload_n hx hb dX9_goOn_6 rfl (lv_at hl 1 rfl) ?_
  obtain ⟨q2, eq2, hM⟩ := xb hM
  refine x_goi (x_runV (rest := []) X (kX9_eat l G S1 h0 p1 q2.1 q2.2 hk0 eq2) qw308 okX9_eat ⟨Nat.le_of_ble_eq_true rfl, Nat.le_of_ble_eq_true rfl⟩ hk0 (by decide) rfl hP hS rfl hl.1 rfl (Nat.le_of_ble_eq_true rfl) dX9_goOn_7) hS (fun H locs hP hS => ?_)
  refine lv_istore_n (lv' := [(3, .int q2.1), (0, .ref (xad G h0)), (1, .int p1), (2, .int p2)]) hx hb dX9_goOn_10 rfl hl (by decide) rfl (fun ls hl => ?_)
  refine lv_iload_n hx hb dX9_goOn_11 rfl (lv_at hl 3 rfl) ?_
  refine lv_if_eq (tgt := 32) hx hb dX9_goOn_12 (by decide) (fun c3 => ?_) (fun c3 => ?_)
  · replace hM := (if_pos c3).symm.trans hM
    exact x_vret X hP hS hM dX9_goOn_32
  · replace hM := (if_neg c3).symm.trans hM
    refine lv_aload_n hx hb dX9_goOn_15 rfl (lv_at hl 1 rfl) ?_
    refine fgX9_27 X hP hk0 qw301 dX9_goOn_16 ?_
    refine lv_if_le (tgt := 32) hx hb dX9_goOn_19 (by decide) (fun c4 => ?_) (fun c4 => ?_)
    · replace hM := (if_pos c4).symm.trans hM
      exact x_vret X hP hS hM dX9_goOn_32
    · replace hM := (if_neg c4).symm.trans hM
      refine lv_aload_n hx hb dX9_goOn_22 rfl (lv_at hl 1 rfl) ?_
      refine lv_dup hx hb dX9_goOn_23 rfl ?_
      refine fgX9_27 X hP hk0 qw301 dX9_goOn_24 ?_
      refine lv_iconst (v := 1) hx hb dX9_goOn_27 (by decide) ?_
      refine lv_isub hx hb dX9_goOn_28 ?_
      obtain ⟨S5, eS5, hM⟩ := xlet_ex hM
      refine fpX9_27 X hP hS hk0 qw301 dX9_goOn_29 eS5 (fun H locs hP hS => ?_)
      exact x_vret X hP hS hM dX9_goOn_32

def lX9_keep_112 : Nat → xS → Nat → Int32 → Int32 → Option xS
  | 0, _, _, _, _ => none
  | n + 1, S, h0, v1, v2 => if (6 ≤ v2 : Prop) then ((dO Ym (gR S h0 0) 10).bind fun d2 => (aI Ym S d2 6).bind fun x3 => (sI Ym S d2 6 (x3 + 1)).bind fun S4 => some S4) else ((dO Ym (gR S h0 0) 10).bind fun d5 => (dO Ym (gR S h0 0) 10).bind fun d6 => (aI Ym S d6 (10 + v2)).bind fun x7 => (sI Ym S d5 ((v1 + 3) + v2) x7).bind fun S8 => (dO Ym (gR S8 h0 0) 10).bind fun d9 => (mX9_seatOf S8 h0 v2).bind fun q10 => (sI Ym q10.2 d9 ((v1 + 9) + v2) q10.1).bind fun S11 => lX9_keep_112 n S11 h0 v1 (v2 + 1))
set_option maxHeartbeats 4000000 in
set_option maxRecDepth 100000 in
theorem wX9_keep_112 {p : Program} {l : Launch} {e : Env} {s : State} {m : MethodId} {args : Array Value} {below : List Frame} {meth : Method} {c : Code} {G : xG} {S' : xS} (X : xX p s m args meth c cX9_keep 3 none RX9 G Ym) : ∀ (n : Nat), ∀ (S : xS) (h0 : Nat) (v1 : Int32) (v2 : Int32) (H : Heap) (locs : List Loc) (ls : Array Slot), lX9_keep_112  n S h0 v1 v2 = some S' → xk Ym h0 = 9 → xP G Ym S H → va_S (xA G Ym) s.heap H locs → lv_has ls 3 [(0, .ref (xad G h0)), (1, .int v1), (2, .int v2)] → W p l e (xr 1 21) s m args below meth c H locs 0 0 (MQ below (xQv G Ym S') args s 0 0 (xA G Ym)) (F0 m 112 ls []) := by
  obtain ⟨hx, hb, hml, hown, hts, hr, hlk, hK, hE, hJ⟩ := id X
  intro n
  induction n with
  | zero =>
    intro S h0 v1 v2 H locs ls hM
    rw [lX9_keep_112.eq_1] at hM
    cases hM
  | succ n ih =>
    intro S h0 v1 v2 H locs ls hM hk0 hP hS hl
    rw [lX9_keep_112.eq_2] at hM
    refine lv_iload_n hx hb dX9_keep_112 rfl (lv_at hl 2 rfl) ?_
    refine lv_bipush (v := 6) hx hb dX9_keep_113 (by decide) ?_
    refine lv_icmp_ge (tgt := 159) hx hb dX9_keep_115 (by decide) (fun c1 => ?_) (fun c1 => ?_)
    · replace hM := (if_pos c1).symm.trans hM
      refine lv_aload_n hx hb dX9_keep_159 rfl (lv_at hl 0 rfl) ?_
      obtain ⟨d2, ed2, hM⟩ := xb hM
      refine fdX9_0 X hP hk0 qw227 dX9_keep_160 ed2 ?_
      refine lv_bipush (v := 6) hx hb dX9_keep_163 (by decide) ?_
      refine lv_dup2_11 hx hb dX9_keep_165 rfl rfl ?_
      obtain ⟨x3, ex3, hM⟩ := xb hM
      refine x_iald X hP (dO_k ed2) ex3 dX9_keep_166 ?_
      refine lv_iconst (v := 1) hx hb dX9_keep_167 (by decide) ?_
      refine lv_iadd hx hb dX9_keep_168 ?_
      obtain ⟨S4, eS4, hM⟩ := xb hM
      refine x_iast X hP hS (dO_k ed2) eS4 dX9_keep_169 (fun H locs hP hS => ?_)
      exact x_vret X hP hS hM dX9_keep_170
    · replace hM := (if_neg c1).symm.trans hM
      refine lv_aload_n hx hb dX9_keep_118 rfl (lv_at hl 0 rfl) ?_
      obtain ⟨d5, ed5, hM⟩ := xb hM
      refine fdX9_0 X hP hk0 qw227 dX9_keep_119 ed5 ?_
      refine lv_iload_n hx hb dX9_keep_122 rfl (lv_at hl 1 rfl) ?_
      refine lv_iconst (v := 3) hx hb dX9_keep_123 (by decide) ?_
      refine lv_iadd hx hb dX9_keep_124 ?_
      refine lv_iload_n hx hb dX9_keep_125 rfl (lv_at hl 2 rfl) ?_
      refine lv_iadd hx hb dX9_keep_126 ?_
      refine lv_aload_n hx hb dX9_keep_127 rfl (lv_at hl 0 rfl) ?_
      obtain ⟨d6, ed6, hM⟩ := xb hM
      refine fdX9_0 X hP hk0 qw227 dX9_keep_128 ed6 ?_
      refine lv_bipush (v := 10) hx hb dX9_keep_131 (by decide) ?_
      refine lv_iload_n hx hb dX9_keep_133 rfl (lv_at hl 2 rfl) ?_
      refine lv_iadd hx hb dX9_keep_134 ?_
      obtain ⟨x7, ex7, hM⟩ := xb hM
      refine x_iald X hP (dO_k ed6) ex7 dX9_keep_135 ?_
      obtain ⟨S8, eS8, hM⟩ := xb hM
      refine x_iast X hP hS (dO_k ed5) eS8 dX9_keep_136 (fun H locs hP hS => ?_)
      refine lv_aload_n hx hb dX9_keep_137 rfl (lv_at hl 0 rfl) ?_
      obtain ⟨d9, ed9, hM⟩ := xb hM
      refine fdX9_0 X hP hk0 qw227 dX9_keep_138 ed9 ?_
      refine lv_iload_n hx hb dX9_keep_141 rfl (lv_at hl 1 rfl) ?_
      refine lv_bipush (v := 9) hx hb dX9_keep_142 (by decide) ?_
      refine lv_iadd hx hb dX9_keep_144 ?_
      refine lv_iload_n hx hb dX9_keep_145 rfl (lv_at hl 2 rfl) ?_
      refine lv_iadd hx hb dX9_keep_146 ?_
      refine lv_aload_n hx hb dX9_keep_147 rfl (lv_at hl 0 rfl) ?_
      refine lv_iload_n hx hb dX9_keep_148 rfl (lv_at hl 2 rfl) ?_
      obtain ⟨q10, eq10, hM⟩ := xb hM
      refine x_goi (x_runV (rest := [.int ((v1 + 9) + v2), .ref (xad G d9)]) X (kX9_seatOf l G S8 h0 v2 q10.1 q10.2 hk0 eq10) qw298 okX9_seatOf ⟨Nat.le_of_ble_eq_true rfl, Nat.le_of_ble_eq_true rfl⟩ hk0 (by decide) rfl hP hS rfl hl.1 rfl (Nat.le_of_ble_eq_true rfl) dX9_keep_149) hS (fun H locs hP hS => ?_)
      obtain ⟨S11, eS11, hM⟩ := xb hM
      refine x_iast X hP hS (dO_k ed9) eS11 dX9_keep_152 (fun H locs hP hS => ?_)
      refine lv_iinc (v := v2 + 1) (lv' := [(2, .int (v2 + 1)), (0, .ref (xad G h0)), (1, .int v1)]) hx hb dX9_keep_153 hl (k := 2) rfl (by first | rfl | exact congrArg (fun z => v2 + z) (by decide)) (by decide) rfl (fun ls hl => ?_)
      refine lv_goto (tgt := 112) hx hb dX9_keep_156 (by decide) ?_
      exact ih S11 h0 v1 (v2 + 1) _ _ _ hM hk0 hP hS (lv_sub hl [1, 2, 0] rfl)
def jX9_keep_56 (S : xS) (h0 : Nat) : Option xS := (dO Ym (gR S h0 0) 10).bind fun d1 => (aI Ym S d1 6).bind fun x2 => (dO Ym (gR S h0 0) 10).bind fun d3 => (dO Ym (gR S h0 0) 10).bind fun d4 => (aI Ym S d4 0).bind fun x5 => (sI Ym S d3 (36 + (15 * x2)) x5).bind fun S6 => (dO Ym (gR S6 h0 0) 10).bind fun d7 => (dO Ym (gR S6 h0 0) 10).bind fun d8 => (aI Ym S6 d8 1).bind fun x9 => (sI Ym S6 d7 ((36 + (15 * x2)) + 1) x9).bind fun S10 => (dO Ym (gR S10 h0 0) 10).bind fun d11 => (dO Ym (gR S10 h0 0) 10).bind fun d12 => (aI Ym S10 d12 3).bind fun x13 => (sI Ym S10 d11 ((36 + (15 * x2)) + 2) x13).bind fun S14 => lX9_keep_112  5000 S14 h0 (36 + (15 * x2)) 0
set_option maxHeartbeats 4000000 in
set_option maxRecDepth 100000 in
theorem wX9_keep_56 {p : Program} {l : Launch} {e : Env} {s : State} {m : MethodId} {args : Array Value} {below : List Frame} {meth : Method} {c : Code} {G : xG} {S' : xS} (X : xX p s m args meth c cX9_keep 3 none RX9 G Ym) : ∀ (S : xS) (h0 : Nat) (H : Heap) (locs : List Loc) (ls : Array Slot), jX9_keep_56  S h0 = some S' → xk Ym h0 = 9 → xP G Ym S H → va_S (xA G Ym) s.heap H locs → lv_has ls 3 [(0, .ref (xad G h0))] → W p l e (xr 1 21) s m args below meth c H locs 0 0 (MQ below (xQv G Ym S') args s 0 0 (xA G Ym)) (F0 m 56 ls []) := by
  obtain ⟨hx, hb, hml, hown, hts, hr, hlk, hK, hE, hJ⟩ := id X
  intro S h0 H locs ls hM hk0 hP hS hl
  unfold jX9_keep_56 at hM
  refine lv_bipush (v := 36) hx hb dX9_keep_56 (by decide) ?_
  refine lv_bipush (v := 15) hx hb dX9_keep_58 (by decide) ?_
  refine lv_aload_n hx hb dX9_keep_60 rfl (lv_at hl 0 rfl) ?_
  obtain ⟨d1, ed1, hM⟩ := xb hM
  refine fdX9_0 X hP hk0 qw227 dX9_keep_61 ed1 ?_
  refine lv_bipush (v := 6) hx hb dX9_keep_64 (by decide) ?_
  obtain ⟨x2, ex2, hM⟩ := xb hM
  refine x_iald X hP (dO_k ed1) ex2 dX9_keep_66 ?_
  refine lv_imul hx hb dX9_keep_67 ?_
  refine lv_iadd hx hb dX9_keep_68 ?_
  refine lv_istore_n (lv' := [(1, .int (36 + (15 * x2))), (0, .ref (xad G h0))]) hx hb dX9_keep_69 rfl hl (by decide) rfl (fun ls hl => ?_)
  refine lv_aload_n hx hb dX9_keep_70 rfl (lv_at hl 1 rfl) ?_
  obtain ⟨d3, ed3, hM⟩ := xb hM
  refine fdX9_0 X hP hk0 qw227 dX9_keep_71 ed3 ?_
  refine lv_iload_n hx hb dX9_keep_74 rfl (lv_at hl 0 rfl) ?_
  refine lv_aload_n hx hb dX9_keep_75 rfl (lv_at hl 1 rfl) ?_
  obtain ⟨d4, ed4, hM⟩ := xb hM
  refine fdX9_0 X hP hk0 qw227 dX9_keep_76 ed4 ?_
  refine lv_iconst (v := 0) hx hb dX9_keep_79 (by decide) ?_
  obtain ⟨x5, ex5, hM⟩ := xb hM
  refine x_iald X hP (dO_k ed4) ex5 dX9_keep_80 ?_
  obtain ⟨S6, eS6, hM⟩ := xb hM
  refine x_iast X hP hS (dO_k ed3) eS6 dX9_keep_81 (fun H locs hP hS => ?_)
  refine lv_aload_n hx hb dX9_keep_82 rfl (lv_at hl 1 rfl) ?_
  obtain ⟨d7, ed7, hM⟩ := xb hM
  refine fdX9_0 X hP hk0 qw227 dX9_keep_83 ed7 ?_
  refine lv_iload_n hx hb dX9_keep_86 rfl (lv_at hl 0 rfl) ?_
  refine lv_iconst (v := 1) hx hb dX9_keep_87 (by decide) ?_
  refine lv_iadd hx hb dX9_keep_88 ?_
  refine lv_aload_n hx hb dX9_keep_89 rfl (lv_at hl 1 rfl) ?_
  obtain ⟨d8, ed8, hM⟩ := xb hM
  refine fdX9_0 X hP hk0 qw227 dX9_keep_90 ed8 ?_
  refine lv_iconst (v := 1) hx hb dX9_keep_93 (by decide) ?_
  obtain ⟨x9, ex9, hM⟩ := xb hM
  refine x_iald X hP (dO_k ed8) ex9 dX9_keep_94 ?_
  obtain ⟨S10, eS10, hM⟩ := xb hM
  refine x_iast X hP hS (dO_k ed7) eS10 dX9_keep_95 (fun H locs hP hS => ?_)
  refine lv_aload_n hx hb dX9_keep_96 rfl (lv_at hl 1 rfl) ?_
  obtain ⟨d11, ed11, hM⟩ := xb hM
  refine fdX9_0 X hP hk0 qw227 dX9_keep_97 ed11 ?_
  refine lv_iload_n hx hb dX9_keep_100 rfl (lv_at hl 0 rfl) ?_
  refine lv_iconst (v := 2) hx hb dX9_keep_101 (by decide) ?_
  refine lv_iadd hx hb dX9_keep_102 ?_
  refine lv_aload_n hx hb dX9_keep_103 rfl (lv_at hl 1 rfl) ?_
  obtain ⟨d12, ed12, hM⟩ := xb hM
  refine fdX9_0 X hP hk0 qw227 dX9_keep_104 ed12 ?_
  refine lv_iconst (v := 3) hx hb dX9_keep_107 (by decide) ?_
  obtain ⟨x13, ex13, hM⟩ := xb hM
  refine x_iald X hP (dO_k ed12) ex13 dX9_keep_108 ?_
  obtain ⟨S14, eS14, hM⟩ := xb hM
  refine x_iast X hP hS (dO_k ed11) eS14 dX9_keep_109 (fun H locs hP hS => ?_)
  refine lv_iconst (v := 0) hx hb dX9_keep_110 (by decide) ?_
  refine lv_istore_n (lv' := [(2, .int 0), (1, .int (36 + (15 * x2))), (0, .ref (xad G h0))]) hx hb dX9_keep_111 rfl hl (by decide) rfl (fun ls hl => ?_)
  exact wX9_keep_112 X  5000 S14 h0 (36 + (15 * x2)) 0 _ _ _ hM hk0 hP hS (lv_sub hl [2, 1, 0] rfl)
def lX9_keep_14 : Nat → xS → Nat → Int32 → Option xS
  | 0, _, _, _ => none
  | n + 1, S, h0, v1 => if (435 ≤ v1 : Prop) then ((dO Ym (gR S h0 0) 10).bind fun d2 => (aI Ym S d2 6).bind fun x3 => (sI Ym S d2 6 (x3 - 1)).bind fun S4 => jX9_keep_56  S4 h0) else ((dO Ym (gR S h0 0) 10).bind fun d5 => (dO Ym (gR S h0 0) 10).bind fun d6 => (aI Ym S d6 (51 + v1)).bind fun x7 => (sI Ym S d5 (36 + v1) x7).bind fun S8 => lX9_keep_14 n S8 h0 (v1 + 1))
set_option maxHeartbeats 4000000 in
set_option maxRecDepth 100000 in
theorem wX9_keep_14 {p : Program} {l : Launch} {e : Env} {s : State} {m : MethodId} {args : Array Value} {below : List Frame} {meth : Method} {c : Code} {G : xG} {S' : xS} (X : xX p s m args meth c cX9_keep 3 none RX9 G Ym) : ∀ (n : Nat), ∀ (S : xS) (h0 : Nat) (v1 : Int32) (H : Heap) (locs : List Loc) (ls : Array Slot), lX9_keep_14  n S h0 v1 = some S' → xk Ym h0 = 9 → xP G Ym S H → va_S (xA G Ym) s.heap H locs → lv_has ls 3 [(0, .ref (xad G h0)), (1, .int v1)] → W p l e (xr 1 21) s m args below meth c H locs 0 0 (MQ below (xQv G Ym S') args s 0 0 (xA G Ym)) (F0 m 14 ls []) := by
  obtain ⟨hx, hb, hml, hown, hts, hr, hlk, hK, hE, hJ⟩ := id X
  intro n
  induction n with
  | zero =>
    intro S h0 v1 H locs ls hM
    rw [lX9_keep_14.eq_1] at hM
    cases hM
  | succ n ih =>
    intro S h0 v1 H locs ls hM hk0 hP hS hl
    rw [lX9_keep_14.eq_2] at hM
    refine lv_iload_n hx hb dX9_keep_14 rfl (lv_at hl 1 rfl) ?_
    refine lv_sipush (v := 435) hx hb dX9_keep_15 (by decide) ?_
    refine lv_icmp_ge (tgt := 45) hx hb dX9_keep_18 (by decide) (fun c1 => ?_) (fun c1 => ?_)
    · replace hM := (if_pos c1).symm.trans hM
      refine lv_aload_n hx hb dX9_keep_45 rfl (lv_at hl 0 rfl) ?_
      obtain ⟨d2, ed2, hM⟩ := xb hM
      refine fdX9_0 X hP hk0 qw227 dX9_keep_46 ed2 ?_
      refine lv_bipush (v := 6) hx hb dX9_keep_49 (by decide) ?_
      refine lv_dup2_11 hx hb dX9_keep_51 rfl rfl ?_
      obtain ⟨x3, ex3, hM⟩ := xb hM
      refine x_iald X hP (dO_k ed2) ex3 dX9_keep_52 ?_
      refine lv_iconst (v := 1) hx hb dX9_keep_53 (by decide) ?_
      refine lv_isub hx hb dX9_keep_54 ?_
      obtain ⟨S4, eS4, hM⟩ := xb hM
      refine x_iast X hP hS (dO_k ed2) eS4 dX9_keep_55 (fun H locs hP hS => ?_)
      exact wX9_keep_56 X  S4 h0 _ _ _ hM hk0 hP hS (lv_sub hl [0] rfl)
    · replace hM := (if_neg c1).symm.trans hM
      refine lv_aload_n hx hb dX9_keep_21 rfl (lv_at hl 0 rfl) ?_
      obtain ⟨d5, ed5, hM⟩ := xb hM
      refine fdX9_0 X hP hk0 qw227 dX9_keep_22 ed5 ?_
      refine lv_bipush (v := 36) hx hb dX9_keep_25 (by decide) ?_
      refine lv_iload_n hx hb dX9_keep_27 rfl (lv_at hl 1 rfl) ?_
      refine lv_iadd hx hb dX9_keep_28 ?_
      refine lv_aload_n hx hb dX9_keep_29 rfl (lv_at hl 0 rfl) ?_
      obtain ⟨d6, ed6, hM⟩ := xb hM
      refine fdX9_0 X hP hk0 qw227 dX9_keep_30 ed6 ?_
      refine lv_bipush (v := 51) hx hb dX9_keep_33 (by decide) ?_
      refine lv_iload_n hx hb dX9_keep_35 rfl (lv_at hl 1 rfl) ?_
      refine lv_iadd hx hb dX9_keep_36 ?_
      obtain ⟨x7, ex7, hM⟩ := xb hM
      refine x_iald X hP (dO_k ed6) ex7 dX9_keep_37 ?_
      obtain ⟨S8, eS8, hM⟩ := xb hM
      refine x_iast X hP hS (dO_k ed5) eS8 dX9_keep_38 (fun H locs hP hS => ?_)
      refine lv_iinc (v := v1 + 1) (lv' := [(1, .int (v1 + 1)), (0, .ref (xad G h0))]) hx hb dX9_keep_39 hl (k := 1) rfl (by first | rfl | exact congrArg (fun z => v1 + z) (by decide)) (by decide) rfl (fun ls hl => ?_)
      refine lv_goto (tgt := 14) hx hb dX9_keep_42 (by decide) ?_
      exact ih S8 h0 (v1 + 1) _ _ _ hM hk0 hP hS (lv_sub hl [1, 0] rfl)
def mX9_keep (S : xS) (h0 : Nat) : Option xS := (dO Ym (gR S h0 0) 10).bind fun d1 => (aI Ym S d1 6).bind fun x2 => if (x2 = 30 : Prop) then (lX9_keep_14  5000 S h0 0) else (jX9_keep_56  S h0)
set_option maxHeartbeats 4000000 in
set_option maxRecDepth 100000 in
theorem kX9_keep (l : Launch) (G : xG) (S : xS) (h0 : Nat) (S' : xS) (hk0 : xk Ym h0 = 9) (hM : mX9_keep S h0 = some S') : xM l yX9_keep cX9_keep 3 none 1 21 G Ym [.ref (xad G h0)] S (xQv G Ym S') := by
  refine x_start (own := RX9) (by decide +kernel) rfl (Nat.le_of_ble_eq_true rfl) ?_
  intro p e s m below meth c ls X hl hP hS
  obtain ⟨hx, hb, hml, hown, hts, hr, hlk, hK, hE, hJ⟩ := id X
  have hl : lv_has ls 3 [(0, .ref (xad G h0))] := hl
  unfold mX9_keep at hM
  refine lv_aload_n hx hb dX9_keep_0 rfl (lv_at hl 0 rfl) ?_
  obtain ⟨d1, ed1, hM⟩ := xb hM
  refine fdX9_0 X hP hk0 qw227 dX9_keep_1 ed1 ?_
  refine lv_bipush (v := 6) hx hb dX9_keep_4 (by decide) ?_
  obtain ⟨x2, ex2, hM⟩ := xb hM
  refine x_iald X hP (dO_k ed1) ex2 dX9_keep_6 ?_
  refine lv_bipush (v := 30) hx hb dX9_keep_7 (by decide) ?_
  refine lv_icmp_ne (tgt := 56) hx hb dX9_keep_9 (by decide) (fun c3 => ?_) (fun c3 => ?_)
  · replace hM := (if_neg c3).symm.trans hM
    exact wX9_keep_56 X  S h0 _ _ _ hM hk0 hP hS (lv_sub hl [0] rfl)
  · replace hM := (if_pos c3).symm.trans hM
    refine lv_iconst (v := 0) hx hb dX9_keep_12 (by decide) ?_
    refine lv_istore_n (lv' := [(1, .int 0), (0, .ref (xad G h0))]) hx hb dX9_keep_13 rfl hl (by decide) rfl (fun ls hl => ?_)
    exact wX9_keep_14 X  5000 S h0 0 _ _ _ hM hk0 hP hS (lv_sub hl [1, 0] rfl)

def lX9_undo_147 : Nat → xS → Nat → Int32 → Option (Int32 × xS)
  | 0, _, _, _ => none
  | n + 1, S, h0, v2 => (dO Ym (gR S h0 0) 10).bind fun d1 => (aI Ym S d1 0).bind fun x2 => if (x2 ≤ v2 : Prop) then ((dO Ym (gR S h0 0) 10).bind fun d4 => (aI Ym S d4 6).bind fun x5 => some (x5, S)) else ((dO Ym (gR S h0 0) 10).bind fun d6 => (sI Ym S d6 ((16 + (2 * v2)) + 1) 2).bind fun S7 => lX9_undo_147 n S7 h0 (v2 + 1))
set_option maxHeartbeats 4000000 in
set_option maxRecDepth 100000 in
theorem wX9_undo_147 {p : Program} {l : Launch} {e : Env} {s : State} {m : MethodId} {args : Array Value} {below : List Frame} {meth : Method} {c : Code} {G : xG} {r : Int32} {S' : xS} (X : xX p s m args meth c cX9_undo 3 (some .int) RX9 G Ym) : ∀ (n : Nat), ∀ (S : xS) (h0 : Nat) (v2 : Int32) (H : Heap) (locs : List Loc) (ls : Array Slot), lX9_undo_147  n S h0 v2 = some (r, S') → xk Ym h0 = 9 → xP G Ym S H → va_S (xA G Ym) s.heap H locs → lv_has ls 3 [(0, .ref (xad G h0)), (2, .int v2)] → W p l e (xr 0 0) s m args below meth c H locs 0 0 (MQ below (xQi G Ym r S') args s 0 0 (xA G Ym)) (F0 m 147 ls []) := by
  obtain ⟨hx, hb, hml, hown, hts, hr, hlk, hK, hE, hJ⟩ := id X
  intro n
  induction n with
  | zero =>
    intro S h0 v2 H locs ls hM
    rw [lX9_undo_147.eq_1] at hM
    cases hM
  | succ n ih =>
    intro S h0 v2 H locs ls hM hk0 hP hS hl
    rw [lX9_undo_147.eq_2] at hM
    refine lv_iload_n hx hb dX9_undo_147 rfl (lv_at hl 1 rfl) ?_
    refine lv_aload_n hx hb dX9_undo_148 rfl (lv_at hl 0 rfl) ?_
    obtain ⟨d1, ed1, hM⟩ := xb hM
    refine fdX9_0 X hP hk0 qw227 dX9_undo_149 ed1 ?_
    refine lv_iconst (v := 0) hx hb dX9_undo_152 (by decide) ?_
    obtain ⟨x2, ex2, hM⟩ := xb hM
    refine x_iald X hP (dO_k ed1) ex2 dX9_undo_153 ?_
    refine lv_icmp_ge (tgt := 177) hx hb dX9_undo_154 (by decide) (fun c3 => ?_) (fun c3 => ?_)
    · replace hM := (if_pos c3).symm.trans hM
      refine lv_aload_n hx hb dX9_undo_177 rfl (lv_at hl 0 rfl) ?_
      obtain ⟨d4, ed4, hM⟩ := xb hM
      refine fdX9_0 X hP hk0 qw227 dX9_undo_178 ed4 ?_
      refine lv_bipush (v := 6) hx hb dX9_undo_181 (by decide) ?_
      obtain ⟨x5, ex5, hM⟩ := xb hM
      refine x_iald X hP (dO_k ed4) ex5 dX9_undo_183 ?_
      exact x_iret X hP hS hM dX9_undo_184
    · replace hM := (if_neg c3).symm.trans hM
      refine lv_aload_n hx hb dX9_undo_157 rfl (lv_at hl 0 rfl) ?_
      obtain ⟨d6, ed6, hM⟩ := xb hM
      refine fdX9_0 X hP hk0 qw227 dX9_undo_158 ed6 ?_
      refine lv_bipush (v := 16) hx hb dX9_undo_161 (by decide) ?_
      refine lv_iconst (v := 2) hx hb dX9_undo_163 (by decide) ?_
      refine lv_iload_n hx hb dX9_undo_164 rfl (lv_at hl 1 rfl) ?_
      refine lv_imul hx hb dX9_undo_165 ?_
      refine lv_iadd hx hb dX9_undo_166 ?_
      refine lv_iconst (v := 1) hx hb dX9_undo_167 (by decide) ?_
      refine lv_iadd hx hb dX9_undo_168 ?_
      refine lv_iconst (v := 2) hx hb dX9_undo_169 (by decide) ?_
      obtain ⟨S7, eS7, hM⟩ := xb hM
      refine x_iast X hP hS (dO_k ed6) eS7 dX9_undo_170 (fun H locs hP hS => ?_)
      refine lv_iinc (v := v2 + 1) (lv' := [(2, .int (v2 + 1)), (0, .ref (xad G h0))]) hx hb dX9_undo_171 hl (k := 1) rfl (by first | rfl | exact congrArg (fun z => v2 + z) (by decide)) (by decide) rfl (fun ls hl => ?_)
      refine lv_goto (tgt := 147) hx hb dX9_undo_174 (by decide) ?_
      exact ih S7 h0 (v2 + 1) _ _ _ hM hk0 hP hS (lv_sub hl [1, 0] rfl)
def lX9_undo_100 : Nat → xS → Nat → Int32 → Int32 → Option (Int32 × xS)
  | 0, _, _, _, _ => none
  | n + 1, S, h0, v1, v2 => (dO Ym (gR S h0 0) 10).bind fun d1 => (aI Ym S d1 v1).bind fun x2 => if (x2 ≤ v2 : Prop) then ((dO Ym (gR S h0 0) 10).bind fun d4 => (aI Ym S d4 v1).bind fun x5 => lX9_undo_147  5000 S h0 x5) else ((dO Ym (gR S h0 0) 10).bind fun d6 => (dO Ym (gR S h0 0) 10).bind fun d7 => (aI Ym S d7 ((v1 + 9) + v2)).bind fun x8 => (sI Ym S d6 ((16 + (2 * v2)) + 1) x8).bind fun S9 => lX9_undo_100 n S9 h0 v1 (v2 + 1))
set_option maxHeartbeats 4000000 in
set_option maxRecDepth 100000 in
theorem wX9_undo_100 {p : Program} {l : Launch} {e : Env} {s : State} {m : MethodId} {args : Array Value} {below : List Frame} {meth : Method} {c : Code} {G : xG} {r : Int32} {S' : xS} (X : xX p s m args meth c cX9_undo 3 (some .int) RX9 G Ym) : ∀ (n : Nat), ∀ (S : xS) (h0 : Nat) (v1 : Int32) (v2 : Int32) (H : Heap) (locs : List Loc) (ls : Array Slot), lX9_undo_100  n S h0 v1 v2 = some (r, S') → xk Ym h0 = 9 → xP G Ym S H → va_S (xA G Ym) s.heap H locs → lv_has ls 3 [(0, .ref (xad G h0)), (1, .int v1), (2, .int v2)] → W p l e (xr 0 0) s m args below meth c H locs 0 0 (MQ below (xQi G Ym r S') args s 0 0 (xA G Ym)) (F0 m 100 ls []) := by
  obtain ⟨hx, hb, hml, hown, hts, hr, hlk, hK, hE, hJ⟩ := id X
  intro n
  induction n with
  | zero =>
    intro S h0 v1 v2 H locs ls hM
    rw [lX9_undo_100.eq_1] at hM
    cases hM
  | succ n ih =>
    intro S h0 v1 v2 H locs ls hM hk0 hP hS hl
    rw [lX9_undo_100.eq_2] at hM
    refine lv_iload_n hx hb dX9_undo_100 rfl (lv_at hl 2 rfl) ?_
    refine lv_aload_n hx hb dX9_undo_101 rfl (lv_at hl 0 rfl) ?_
    obtain ⟨d1, ed1, hM⟩ := xb hM
    refine fdX9_0 X hP hk0 qw227 dX9_undo_102 ed1 ?_
    refine lv_iload_n hx hb dX9_undo_105 rfl (lv_at hl 1 rfl) ?_
    obtain ⟨x2, ex2, hM⟩ := xb hM
    refine x_iald X hP (dO_k ed1) ex2 dX9_undo_106 ?_
    refine lv_icmp_ge (tgt := 140) hx hb dX9_undo_107 (by decide) (fun c3 => ?_) (fun c3 => ?_)
    · replace hM := (if_pos c3).symm.trans hM
      refine lv_aload_n hx hb dX9_undo_140 rfl (lv_at hl 0 rfl) ?_
      obtain ⟨d4, ed4, hM⟩ := xb hM
      refine fdX9_0 X hP hk0 qw227 dX9_undo_141 ed4 ?_
      refine lv_iload_n hx hb dX9_undo_144 rfl (lv_at hl 1 rfl) ?_
      obtain ⟨x5, ex5, hM⟩ := xb hM
      refine x_iald X hP (dO_k ed4) ex5 dX9_undo_145 ?_
      refine lv_istore_n (lv' := [(2, .int x5), (0, .ref (xad G h0)), (1, .int v1)]) hx hb dX9_undo_146 rfl hl (by decide) rfl (fun ls hl => ?_)
      exact wX9_undo_147 X  5000 S h0 x5 _ _ _ hM hk0 hP hS (lv_sub hl [1, 0] rfl)
    · replace hM := (if_neg c3).symm.trans hM
      refine lv_aload_n hx hb dX9_undo_110 rfl (lv_at hl 0 rfl) ?_
      obtain ⟨d6, ed6, hM⟩ := xb hM
      refine fdX9_0 X hP hk0 qw227 dX9_undo_111 ed6 ?_
      refine lv_bipush (v := 16) hx hb dX9_undo_114 (by decide) ?_
      refine lv_iconst (v := 2) hx hb dX9_undo_116 (by decide) ?_
      refine lv_iload_n hx hb dX9_undo_117 rfl (lv_at hl 2 rfl) ?_
      refine lv_imul hx hb dX9_undo_118 ?_
      refine lv_iadd hx hb dX9_undo_119 ?_
      refine lv_iconst (v := 1) hx hb dX9_undo_120 (by decide) ?_
      refine lv_iadd hx hb dX9_undo_121 ?_
      refine lv_aload_n hx hb dX9_undo_122 rfl (lv_at hl 0 rfl) ?_
      obtain ⟨d7, ed7, hM⟩ := xb hM
      refine fdX9_0 X hP hk0 qw227 dX9_undo_123 ed7 ?_
      refine lv_iload_n hx hb dX9_undo_126 rfl (lv_at hl 1 rfl) ?_
      refine lv_bipush (v := 9) hx hb dX9_undo_127 (by decide) ?_
      refine lv_iadd hx hb dX9_undo_129 ?_
      refine lv_iload_n hx hb dX9_undo_130 rfl (lv_at hl 2 rfl) ?_
      refine lv_iadd hx hb dX9_undo_131 ?_
      obtain ⟨x8, ex8, hM⟩ := xb hM
      refine x_iald X hP (dO_k ed7) ex8 dX9_undo_132 ?_
      obtain ⟨S9, eS9, hM⟩ := xb hM
      refine x_iast X hP hS (dO_k ed6) eS9 dX9_undo_133 (fun H locs hP hS => ?_)
      refine lv_iinc (v := v2 + 1) (lv' := [(2, .int (v2 + 1)), (0, .ref (xad G h0)), (1, .int v1)]) hx hb dX9_undo_134 hl (k := 2) rfl (by first | rfl | exact congrArg (fun z => v2 + z) (by decide)) (by decide) rfl (fun ls hl => ?_)
      refine lv_goto (tgt := 100) hx hb dX9_undo_137 (by decide) ?_
      exact ih S9 h0 v1 (v2 + 1) _ _ _ hM hk0 hP hS (lv_sub hl [1, 2, 0] rfl)
def lX9_undo_67 : Nat → xS → Nat → Int32 → Int32 → Option (Int32 × xS)
  | 0, _, _, _, _ => none
  | n + 1, S, h0, v1, v2 => if (6 ≤ v2 : Prop) then (lX9_undo_100  5000 S h0 v1 0) else ((dO Ym (gR S h0 0) 10).bind fun d2 => (dO Ym (gR S h0 0) 10).bind fun d3 => (aI Ym S d3 ((v1 + 3) + v2)).bind fun x4 => (sI Ym S d2 (10 + v2) x4).bind fun S5 => lX9_undo_67 n S5 h0 v1 (v2 + 1))
set_option maxHeartbeats 4000000 in
set_option maxRecDepth 100000 in
theorem wX9_undo_67 {p : Program} {l : Launch} {e : Env} {s : State} {m : MethodId} {args : Array Value} {below : List Frame} {meth : Method} {c : Code} {G : xG} {r : Int32} {S' : xS} (X : xX p s m args meth c cX9_undo 3 (some .int) RX9 G Ym) : ∀ (n : Nat), ∀ (S : xS) (h0 : Nat) (v1 : Int32) (v2 : Int32) (H : Heap) (locs : List Loc) (ls : Array Slot), lX9_undo_67  n S h0 v1 v2 = some (r, S') → xk Ym h0 = 9 → xP G Ym S H → va_S (xA G Ym) s.heap H locs → lv_has ls 3 [(0, .ref (xad G h0)), (1, .int v1), (2, .int v2)] → W p l e (xr 0 0) s m args below meth c H locs 0 0 (MQ below (xQi G Ym r S') args s 0 0 (xA G Ym)) (F0 m 67 ls []) := by
  obtain ⟨hx, hb, hml, hown, hts, hr, hlk, hK, hE, hJ⟩ := id X
  intro n
  induction n with
  | zero =>
    intro S h0 v1 v2 H locs ls hM
    rw [lX9_undo_67.eq_1] at hM
    cases hM
  | succ n ih =>
    intro S h0 v1 v2 H locs ls hM hk0 hP hS hl
    rw [lX9_undo_67.eq_2] at hM
    refine lv_iload_n hx hb dX9_undo_67 rfl (lv_at hl 2 rfl) ?_
    refine lv_bipush (v := 6) hx hb dX9_undo_68 (by decide) ?_
    refine lv_icmp_ge (tgt := 98) hx hb dX9_undo_70 (by decide) (fun c1 => ?_) (fun c1 => ?_)
    · replace hM := (if_pos c1).symm.trans hM
      refine lv_iconst (v := 0) hx hb dX9_undo_98 (by decide) ?_
      refine lv_istore_n (lv' := [(2, .int 0), (0, .ref (xad G h0)), (1, .int v1)]) hx hb dX9_undo_99 rfl hl (by decide) rfl (fun ls hl => ?_)
      exact wX9_undo_100 X  5000 S h0 v1 0 _ _ _ hM hk0 hP hS (lv_sub hl [1, 2, 0] rfl)
    · replace hM := (if_neg c1).symm.trans hM
      refine lv_aload_n hx hb dX9_undo_73 rfl (lv_at hl 0 rfl) ?_
      obtain ⟨d2, ed2, hM⟩ := xb hM
      refine fdX9_0 X hP hk0 qw227 dX9_undo_74 ed2 ?_
      refine lv_bipush (v := 10) hx hb dX9_undo_77 (by decide) ?_
      refine lv_iload_n hx hb dX9_undo_79 rfl (lv_at hl 2 rfl) ?_
      refine lv_iadd hx hb dX9_undo_80 ?_
      refine lv_aload_n hx hb dX9_undo_81 rfl (lv_at hl 0 rfl) ?_
      obtain ⟨d3, ed3, hM⟩ := xb hM
      refine fdX9_0 X hP hk0 qw227 dX9_undo_82 ed3 ?_
      refine lv_iload_n hx hb dX9_undo_85 rfl (lv_at hl 1 rfl) ?_
      refine lv_iconst (v := 3) hx hb dX9_undo_86 (by decide) ?_
      refine lv_iadd hx hb dX9_undo_87 ?_
      refine lv_iload_n hx hb dX9_undo_88 rfl (lv_at hl 2 rfl) ?_
      refine lv_iadd hx hb dX9_undo_89 ?_
      obtain ⟨x4, ex4, hM⟩ := xb hM
      refine x_iald X hP (dO_k ed3) ex4 dX9_undo_90 ?_
      obtain ⟨S5, eS5, hM⟩ := xb hM
      refine x_iast X hP hS (dO_k ed2) eS5 dX9_undo_91 (fun H locs hP hS => ?_)
      refine lv_iinc (v := v2 + 1) (lv' := [(2, .int (v2 + 1)), (0, .ref (xad G h0)), (1, .int v1)]) hx hb dX9_undo_92 hl (k := 2) rfl (by first | rfl | exact congrArg (fun z => v2 + z) (by decide)) (by decide) rfl (fun ls hl => ?_)
      refine lv_goto (tgt := 67) hx hb dX9_undo_95 (by decide) ?_
      exact ih S5 h0 v1 (v2 + 1) _ _ _ hM hk0 hP hS (lv_sub hl [1, 2, 0] rfl)
def mX9_undo (S : xS) (h0 : Nat) : Option (Int32 × xS) := (dO Ym (gR S h0 0) 10).bind fun d1 => (aI Ym S d1 6).bind fun x2 => if (x2 = 0 : Prop) then (some ((-1), S)) else ((dO Ym (gR S h0 0) 10).bind fun d4 => (aI Ym S d4 6).bind fun x5 => (sI Ym S d4 6 (x5 - 1)).bind fun S6 => (dO Ym (gR S6 h0 0) 10).bind fun d7 => (aI Ym S6 d7 6).bind fun x8 => (dO Ym (gR S6 h0 0) 10).bind fun d9 => (dO Ym (gR S6 h0 0) 10).bind fun d10 => (aI Ym S6 d10 ((36 + (15 * x8)) + 1)).bind fun x11 => (sI Ym S6 d9 1 x11).bind fun S12 => (dO Ym (gR S12 h0 0) 10).bind fun d13 => (dO Ym (gR S12 h0 0) 10).bind fun d14 => (aI Ym S12 d14 ((36 + (15 * x8)) + 2)).bind fun x15 => (sI Ym S12 d13 3 x15).bind fun S16 => lX9_undo_67  5000 S16 h0 (36 + (15 * x8)) 0)
set_option maxHeartbeats 4000000 in
set_option maxRecDepth 100000 in
theorem kX9_undo (l : Launch) (G : xG) (S : xS) (h0 : Nat) (r : Int32) (S' : xS) (hk0 : xk Ym h0 = 9) (hM : mX9_undo S h0 = some (r, S')) : xM l yX9_undo cX9_undo 3 (some .int) 0 0 G Ym [.ref (xad G h0)] S (xQi G Ym r S') := by
  refine x_start (own := RX9) (by decide +kernel) rfl (Nat.le_of_ble_eq_true rfl) ?_
  intro p e s m below meth c ls X hl hP hS
  obtain ⟨hx, hb, hml, hown, hts, hr, hlk, hK, hE, hJ⟩ := id X
  have hl : lv_has ls 3 [(0, .ref (xad G h0))] := hl
  unfold mX9_undo at hM
  refine lv_aload_n hx hb dX9_undo_0 rfl (lv_at hl 0 rfl) ?_
  obtain ⟨d1, ed1, hM⟩ := xb hM
  refine fdX9_0 X hP hk0 qw227 dX9_undo_1 ed1 ?_
  refine lv_bipush (v := 6) hx hb dX9_undo_4 (by decide) ?_
  obtain ⟨x2, ex2, hM⟩ := xb hM
  refine x_iald X hP (dO_k ed1) ex2 dX9_undo_6 ?_
  refine lv_if_ne (tgt := 12) hx hb dX9_undo_7 (by decide) (fun c3 => ?_) (fun c3 => ?_)
  · replace hM := (if_neg c3).symm.trans hM
    refine lv_aload_n hx hb dX9_undo_12 rfl (lv_at hl 0 rfl) ?_
    obtain ⟨d4, ed4, hM⟩ := xb hM
    refine fdX9_0 X hP hk0 qw227 dX9_undo_13 ed4 ?_
    refine lv_bipush (v := 6) hx hb dX9_undo_16 (by decide) ?_
    refine lv_dup2_11 hx hb dX9_undo_18 rfl rfl ?_
    obtain ⟨x5, ex5, hM⟩ := xb hM
    refine x_iald X hP (dO_k ed4) ex5 dX9_undo_19 ?_
    refine lv_iconst (v := 1) hx hb dX9_undo_20 (by decide) ?_
    refine lv_isub hx hb dX9_undo_21 ?_
    obtain ⟨S6, eS6, hM⟩ := xb hM
    refine x_iast X hP hS (dO_k ed4) eS6 dX9_undo_22 (fun H locs hP hS => ?_)
    refine lv_bipush (v := 36) hx hb dX9_undo_23 (by decide) ?_
    refine lv_bipush (v := 15) hx hb dX9_undo_25 (by decide) ?_
    refine lv_aload_n hx hb dX9_undo_27 rfl (lv_at hl 0 rfl) ?_
    obtain ⟨d7, ed7, hM⟩ := xb hM
    refine fdX9_0 X hP hk0 qw227 dX9_undo_28 ed7 ?_
    refine lv_bipush (v := 6) hx hb dX9_undo_31 (by decide) ?_
    obtain ⟨x8, ex8, hM⟩ := xb hM
    refine x_iald X hP (dO_k ed7) ex8 dX9_undo_33 ?_
    refine lv_imul hx hb dX9_undo_34 ?_
    refine lv_iadd hx hb dX9_undo_35 ?_
    refine lv_istore_n (lv' := [(1, .int (36 + (15 * x8))), (0, .ref (xad G h0))]) hx hb dX9_undo_36 rfl hl (by decide) rfl (fun ls hl => ?_)
    refine lv_aload_n hx hb dX9_undo_37 rfl (lv_at hl 1 rfl) ?_
    obtain ⟨d9, ed9, hM⟩ := xb hM
    refine fdX9_0 X hP hk0 qw227 dX9_undo_38 ed9 ?_
    refine lv_iconst (v := 1) hx hb dX9_undo_41 (by decide) ?_
    refine lv_aload_n hx hb dX9_undo_42 rfl (lv_at hl 1 rfl) ?_
    obtain ⟨d10, ed10, hM⟩ := xb hM
    refine fdX9_0 X hP hk0 qw227 dX9_undo_43 ed10 ?_
    refine lv_iload_n hx hb dX9_undo_46 rfl (lv_at hl 0 rfl) ?_
    refine lv_iconst (v := 1) hx hb dX9_undo_47 (by decide) ?_
    refine lv_iadd hx hb dX9_undo_48 ?_
    obtain ⟨x11, ex11, hM⟩ := xb hM
    refine x_iald X hP (dO_k ed10) ex11 dX9_undo_49 ?_
    obtain ⟨S12, eS12, hM⟩ := xb hM
    refine x_iast X hP hS (dO_k ed9) eS12 dX9_undo_50 (fun H locs hP hS => ?_)
    refine lv_aload_n hx hb dX9_undo_51 rfl (lv_at hl 1 rfl) ?_
    obtain ⟨d13, ed13, hM⟩ := xb hM
    refine fdX9_0 X hP hk0 qw227 dX9_undo_52 ed13 ?_
    refine lv_iconst (v := 3) hx hb dX9_undo_55 (by decide) ?_
    refine lv_aload_n hx hb dX9_undo_56 rfl (lv_at hl 1 rfl) ?_
    obtain ⟨d14, ed14, hM⟩ := xb hM
    refine fdX9_0 X hP hk0 qw227 dX9_undo_57 ed14 ?_
    refine lv_iload_n hx hb dX9_undo_60 rfl (lv_at hl 0 rfl) ?_
    refine lv_iconst (v := 2) hx hb dX9_undo_61 (by decide) ?_
    refine lv_iadd hx hb dX9_undo_62 ?_
    obtain ⟨x15, ex15, hM⟩ := xb hM
    refine x_iald X hP (dO_k ed14) ex15 dX9_undo_63 ?_
    obtain ⟨S16, eS16, hM⟩ := xb hM
    refine x_iast X hP hS (dO_k ed13) eS16 dX9_undo_64 (fun H locs hP hS => ?_)
    refine lv_iconst (v := 0) hx hb dX9_undo_65 (by decide) ?_
    refine lv_istore_n (lv' := [(2, .int 0), (1, .int (36 + (15 * x8))), (0, .ref (xad G h0))]) hx hb dX9_undo_66 rfl hl (by decide) rfl (fun ls hl => ?_)
    exact wX9_undo_67 X  5000 S16 h0 (36 + (15 * x8)) 0 _ _ _ hM hk0 hP hS (lv_sub hl [2, 1, 0] rfl)
  · replace hM := (if_pos c3).symm.trans hM
    refine lv_iconst (v := (-1)) hx hb dX9_undo_10 (by decide) ?_
    exact x_iret X hP hS hM dX9_undo_11

def mX9_seat (S : xS) (h0 : Nat) (p1 : Int32) (p2 : Int32) : Option (Int32 × xS) := (mX9_isSister S h0 p1).bind fun q1 => if (q1.1 = 0 : Prop) then (some (0, q1.2)) else ((mX9_isIn q1.2 p2 0 2).bind fun q3 => if (q3.1 = 0 : Prop) then (some (0, q3.2)) else ((mX9_seatOf q3.2 h0 p1).bind fun q5 => if (q5.1 = p2 : Prop) then (some (0, q5.2)) else ((mX9_keep q5.2 h0).bind fun S7 => (dO Ym (gR S7 h0 0) 10).bind fun d8 => (sI Ym S7 d8 ((16 + (2 * p1)) + 1) p2).bind fun S9 => some (1, S9))))
set_option maxHeartbeats 4000000 in
set_option maxRecDepth 100000 in
theorem kX9_seat (l : Launch) (G : xG) (S : xS) (h0 : Nat) (p1 : Int32) (p2 : Int32) (r : Int32) (S' : xS) (hk0 : xk Ym h0 = 9) (hM : mX9_seat S h0 p1 p2 = some (r, S')) : xM l yX9_seat cX9_seat 3 (some .boolean) 2 43 G Ym [.ref (xad G h0), .int p1, .int p2] S (xQi G Ym r S') := by
  refine x_start (own := RX9) (by decide +kernel) rfl (Nat.le_of_ble_eq_true rfl) ?_
  intro p e s m below meth c ls X hl hP hS
  obtain ⟨hx, hb, hml, hown, hts, hr, hlk, hK, hE, hJ⟩ := id X
  have hl : lv_has ls 3 [(0, .ref (xad G h0)), (1, .int p1), (2, .int p2)] := hl
  unfold mX9_seat at hM
  refine lv_aload_n hx hb dX9_seat_0 rfl (lv_at hl 0 rfl) ?_
  refine lv_iload_n hx hb dX9_seat_1 rfl (lv_at hl 1 rfl) ?_
  obtain ⟨q1, eq1, hM⟩ := xb hM
  refine x_goi (x_runV (rest := []) X (kX9_isSister l G S h0 p1 q1.1 q1.2 hk0 eq1) qw309 okX9_isSister ⟨Nat.le_of_ble_eq_true rfl, Nat.le_of_ble_eq_true rfl⟩ hk0 (by decide) rfl hP hS rfl hl.1 rfl (Nat.le_of_ble_eq_true rfl) dX9_seat_2) hS (fun H locs hP hS => ?_)
  refine lv_if_eq (tgt := 26) hx hb dX9_seat_5 (by decide) (fun c2 => ?_) (fun c2 => ?_)
  · replace hM := (if_pos c2).symm.trans hM
    refine lv_iconst (v := 0) hx hb dX9_seat_26 (by decide) ?_
    exact x_zret X hP hS (Or.inl rfl) hM dX9_seat_27
  · replace hM := (if_neg c2).symm.trans hM
    refine lv_iload_n hx hb dX9_seat_8 rfl (lv_at hl 2 rfl) ?_
    refine lv_iconst (v := 0) hx hb dX9_seat_9 (by decide) ?_
    refine lv_iconst (v := 2) hx hb dX9_seat_10 (by decide) ?_
    obtain ⟨q3, eq3, hM⟩ := xb hM
    refine x_goi (x_runS (rest := []) X (kX9_isIn l G q1.2 p2 0 2 q3.1 q3.2  eq3) qw228 okX9_isIn ⟨Nat.le_of_ble_eq_true rfl, Nat.le_of_ble_eq_true rfl⟩ hP hS rfl hl.1 rfl (Nat.le_of_ble_eq_true rfl) dX9_seat_11) hS (fun H locs hP hS => ?_)
    refine lv_if_eq (tgt := 26) hx hb dX9_seat_14 (by decide) (fun c4 => ?_) (fun c4 => ?_)
    · replace hM := (if_pos c4).symm.trans hM
      refine lv_iconst (v := 0) hx hb dX9_seat_26 (by decide) ?_
      exact x_zret X hP hS (Or.inl rfl) hM dX9_seat_27
    · replace hM := (if_neg c4).symm.trans hM
      refine lv_aload_n hx hb dX9_seat_17 rfl (lv_at hl 0 rfl) ?_
      refine lv_iload_n hx hb dX9_seat_18 rfl (lv_at hl 1 rfl) ?_
      obtain ⟨q5, eq5, hM⟩ := xb hM
      refine x_goi (x_runV (rest := []) X (kX9_seatOf l G q3.2 h0 p1 q5.1 q5.2 hk0 eq5) qw298 okX9_seatOf ⟨Nat.le_of_ble_eq_true rfl, Nat.le_of_ble_eq_true rfl⟩ hk0 (by decide) rfl hP hS rfl hl.1 rfl (Nat.le_of_ble_eq_true rfl) dX9_seat_19) hS (fun H locs hP hS => ?_)
      refine lv_iload_n hx hb dX9_seat_22 rfl (lv_at hl 2 rfl) ?_
      refine lv_icmp_ne (tgt := 28) hx hb dX9_seat_23 (by decide) (fun c6 => ?_) (fun c6 => ?_)
      · replace hM := (if_neg c6).symm.trans hM
        refine lv_aload_n hx hb dX9_seat_28 rfl (lv_at hl 0 rfl) ?_
        obtain ⟨S7, eS7, hM⟩ := xb hM
        refine x_gov (x_runV (rest := []) X (kX9_keep l G q5.2 h0 S7 hk0 eS7) qw310 okX9_keep ⟨Nat.le_of_ble_eq_true rfl, Nat.le_of_ble_eq_true rfl⟩ hk0 (by decide) rfl hP hS rfl hl.1 rfl (Nat.le_of_ble_eq_true rfl) dX9_seat_29) hS (fun H locs hP hS => ?_)
        refine lv_aload_n hx hb dX9_seat_32 rfl (lv_at hl 0 rfl) ?_
        obtain ⟨d8, ed8, hM⟩ := xb hM
        refine fdX9_0 X hP hk0 qw227 dX9_seat_33 ed8 ?_
        refine lv_bipush (v := 16) hx hb dX9_seat_36 (by decide) ?_
        refine lv_iconst (v := 2) hx hb dX9_seat_38 (by decide) ?_
        refine lv_iload_n hx hb dX9_seat_39 rfl (lv_at hl 1 rfl) ?_
        refine lv_imul hx hb dX9_seat_40 ?_
        refine lv_iadd hx hb dX9_seat_41 ?_
        refine lv_iconst (v := 1) hx hb dX9_seat_42 (by decide) ?_
        refine lv_iadd hx hb dX9_seat_43 ?_
        refine lv_iload_n hx hb dX9_seat_44 rfl (lv_at hl 2 rfl) ?_
        obtain ⟨S9, eS9, hM⟩ := xb hM
        refine x_iast X hP hS (dO_k ed8) eS9 dX9_seat_45 (fun H locs hP hS => ?_)
        refine lv_iconst (v := 1) hx hb dX9_seat_46 (by decide) ?_
        exact x_zret X hP hS (Or.inr rfl) hM dX9_seat_47
      · replace hM := (if_pos c6).symm.trans hM
        refine lv_iconst (v := 0) hx hb dX9_seat_26 (by decide) ?_
        exact x_zret X hP hS (Or.inl rfl) hM dX9_seat_27

def mX9_move (S : xS) (h0 : Nat) (p1 : Int32) (p2 : Int32) : Option (Int32 × xS) := (dO Ym (gR S h0 0) 10).bind fun d1 => (aI Ym S d1 ((10 + (3 * p1)) + 1)).bind fun x2 => if (x2 < p2 : Prop) then (some ((-1), S)) else ((dO Ym (gR S h0 0) 10).bind fun d4 => (aI Ym S d4 ((10 + (3 * p1)) + 2)).bind fun x5 => if ((-p2) ≤ x5 : Prop) then ((mX9_keep S h0).bind fun S7 => (dO Ym (gR S7 h0 0) 10).bind fun d8 => (aI Ym S7 d8 ((10 + (3 * p1)) + 1)).bind fun x9 => (sI Ym S7 d8 ((10 + (3 * p1)) + 1) (x9 - p2)).bind fun S10 => (dO Ym (gR S10 h0 0) 10).bind fun d11 => (aI Ym S10 d11 ((10 + (3 * p1)) + 2)).bind fun x12 => (sI Ym S10 d11 ((10 + (3 * p1)) + 2) (x12 + p2)).bind fun S13 => (dO Ym (gR S13 h0 0) 10).bind fun d14 => (aI Ym S13 d14 ((10 + (3 * p1)) + 1)).bind fun x15 => some (x15, S13)) else (some ((-1), S)))
set_option maxHeartbeats 4000000 in
set_option maxRecDepth 100000 in
theorem kX9_move (l : Launch) (G : xG) (S : xS) (h0 : Nat) (p1 : Int32) (p2 : Int32) (r : Int32) (S' : xS) (hk0 : xk Ym h0 = 9) (hM : mX9_move S h0 p1 p2 = some (r, S')) : xM l yX9_move cX9_move 4 (some .int) 2 43 G Ym [.ref (xad G h0), .int p1, .int p2] S (xQi G Ym r S') := by
  refine x_start (own := RX9) (by decide +kernel) rfl (Nat.le_of_ble_eq_true rfl) ?_
  intro p e s m below meth c ls X hl hP hS
  obtain ⟨hx, hb, hml, hown, hts, hr, hlk, hK, hE, hJ⟩ := id X
  have hl : lv_has ls 4 [(0, .ref (xad G h0)), (1, .int p1), (2, .int p2)] := hl
  unfold mX9_move at hM
  refine lv_bipush (v := 10) hx hb dX9_move_0 (by decide) ?_
  refine lv_iconst (v := 3) hx hb dX9_move_2 (by decide) ?_
  refine lv_iload_n hx hb dX9_move_3 rfl (lv_at hl 1 rfl) ?_
  refine lv_imul hx hb dX9_move_4 ?_
  refine lv_iadd hx hb dX9_move_5 ?_
  refine lv_istore_n (lv' := [(3, .int (10 + (3 * p1))), (0, .ref (xad G h0)), (1, .int p1), (2, .int p2)]) hx hb dX9_move_6 rfl hl (by decide) rfl (fun ls hl => ?_)
  refine lv_iload_n hx hb dX9_move_7 rfl (lv_at hl 3 rfl) ?_
  refine lv_aload_n hx hb dX9_move_8 rfl (lv_at hl 1 rfl) ?_
  obtain ⟨d1, ed1, hM⟩ := xb hM
  refine fdX9_0 X hP hk0 qw227 dX9_move_9 ed1 ?_
  refine lv_iload_n hx hb dX9_move_12 rfl (lv_at hl 0 rfl) ?_
  refine lv_iconst (v := 1) hx hb dX9_move_13 (by decide) ?_
  refine lv_iadd hx hb dX9_move_14 ?_
  obtain ⟨x2, ex2, hM⟩ := xb hM
  refine x_iald X hP (dO_k ed1) ex2 dX9_move_15 ?_
  refine lv_icmp_gt (tgt := 32) hx hb dX9_move_16 (by decide) (fun c3 => ?_) (fun c3 => ?_)
  · replace hM := (if_pos c3).symm.trans hM
    refine lv_iconst (v := (-1)) hx hb dX9_move_32 (by decide) ?_
    exact x_iret X hP hS hM dX9_move_33
  · replace hM := (if_neg c3).symm.trans hM
    refine lv_iload_n hx hb dX9_move_19 rfl (lv_at hl 3 rfl) ?_
    refine lv_ineg hx hb dX9_move_20 ?_
    refine lv_aload_n hx hb dX9_move_21 rfl (lv_at hl 1 rfl) ?_
    obtain ⟨d4, ed4, hM⟩ := xb hM
    refine fdX9_0 X hP hk0 qw227 dX9_move_22 ed4 ?_
    refine lv_iload_n hx hb dX9_move_25 rfl (lv_at hl 0 rfl) ?_
    refine lv_iconst (v := 2) hx hb dX9_move_26 (by decide) ?_
    refine lv_iadd hx hb dX9_move_27 ?_
    obtain ⟨x5, ex5, hM⟩ := xb hM
    refine x_iald X hP (dO_k ed4) ex5 dX9_move_28 ?_
    refine lv_icmp_le (tgt := 34) hx hb dX9_move_29 (by decide) (fun c6 => ?_) (fun c6 => ?_)
    · replace hM := (if_pos c6).symm.trans hM
      refine lv_aload_n hx hb dX9_move_34 rfl (lv_at hl 1 rfl) ?_
      obtain ⟨S7, eS7, hM⟩ := xb hM
      refine x_gov (x_runV (rest := []) X (kX9_keep l G S h0 S7 hk0 eS7) qw310 okX9_keep ⟨Nat.le_of_ble_eq_true rfl, Nat.le_of_ble_eq_true rfl⟩ hk0 (by decide) rfl hP hS rfl hl.1 rfl (Nat.le_of_ble_eq_true rfl) dX9_move_35) hS (fun H locs hP hS => ?_)
      refine lv_aload_n hx hb dX9_move_38 rfl (lv_at hl 1 rfl) ?_
      obtain ⟨d8, ed8, hM⟩ := xb hM
      refine fdX9_0 X hP hk0 qw227 dX9_move_39 ed8 ?_
      refine lv_iload_n hx hb dX9_move_42 rfl (lv_at hl 0 rfl) ?_
      refine lv_iconst (v := 1) hx hb dX9_move_43 (by decide) ?_
      refine lv_iadd hx hb dX9_move_44 ?_
      refine lv_dup2_11 hx hb dX9_move_45 rfl rfl ?_
      obtain ⟨x9, ex9, hM⟩ := xb hM
      refine x_iald X hP (dO_k ed8) ex9 dX9_move_46 ?_
      refine lv_iload_n hx hb dX9_move_47 rfl (lv_at hl 3 rfl) ?_
      refine lv_isub hx hb dX9_move_48 ?_
      obtain ⟨S10, eS10, hM⟩ := xb hM
      refine x_iast X hP hS (dO_k ed8) eS10 dX9_move_49 (fun H locs hP hS => ?_)
      refine lv_aload_n hx hb dX9_move_50 rfl (lv_at hl 1 rfl) ?_
      obtain ⟨d11, ed11, hM⟩ := xb hM
      refine fdX9_0 X hP hk0 qw227 dX9_move_51 ed11 ?_
      refine lv_iload_n hx hb dX9_move_54 rfl (lv_at hl 0 rfl) ?_
      refine lv_iconst (v := 2) hx hb dX9_move_55 (by decide) ?_
      refine lv_iadd hx hb dX9_move_56 ?_
      refine lv_dup2_11 hx hb dX9_move_57 rfl rfl ?_
      obtain ⟨x12, ex12, hM⟩ := xb hM
      refine x_iald X hP (dO_k ed11) ex12 dX9_move_58 ?_
      refine lv_iload_n hx hb dX9_move_59 rfl (lv_at hl 3 rfl) ?_
      refine lv_iadd hx hb dX9_move_60 ?_
      obtain ⟨S13, eS13, hM⟩ := xb hM
      refine x_iast X hP hS (dO_k ed11) eS13 dX9_move_61 (fun H locs hP hS => ?_)
      refine lv_aload_n hx hb dX9_move_62 rfl (lv_at hl 1 rfl) ?_
      obtain ⟨d14, ed14, hM⟩ := xb hM
      refine fdX9_0 X hP hk0 qw227 dX9_move_63 ed14 ?_
      refine lv_iload_n hx hb dX9_move_66 rfl (lv_at hl 0 rfl) ?_
      refine lv_iconst (v := 1) hx hb dX9_move_67 (by decide) ?_
      refine lv_iadd hx hb dX9_move_68 ?_
      obtain ⟨x15, ex15, hM⟩ := xb hM
      refine x_iald X hP (dO_k ed14) ex15 dX9_move_69 ?_
      exact x_iret X hP hS hM dX9_move_70
    · replace hM := (if_neg c6).symm.trans hM
      refine lv_iconst (v := (-1)) hx hb dX9_move_32 (by decide) ?_
      exact x_iret X hP hS hM dX9_move_33

def mX9_hide (S : xS) (h0 : Nat) (p1 : Int32) (p2 : Int32) : Option (Int32 × xS) := (mX9_isTable S p1).bind fun q1 => if (q1.1 = 0 : Prop) then (some ((-1), q1.2)) else ((mX9_isIn q1.2 p2 1 9).bind fun q3 => if (q3.1 = 0 : Prop) then (some ((-1), q3.2)) else ((mX9_move q3.2 h0 p1 p2).bind fun q5 => some (q5.1, q5.2)))
set_option maxHeartbeats 4000000 in
set_option maxRecDepth 100000 in
theorem kX9_hide (l : Launch) (G : xG) (S : xS) (h0 : Nat) (p1 : Int32) (p2 : Int32) (r : Int32) (S' : xS) (hk0 : xk Ym h0 = 9) (hM : mX9_hide S h0 p1 p2 = some (r, S')) : xM l yX9_hide cX9_hide 3 (some .int) 3 66 G Ym [.ref (xad G h0), .int p1, .int p2] S (xQi G Ym r S') := by
  refine x_start (own := RX9) (by decide +kernel) rfl (Nat.le_of_ble_eq_true rfl) ?_
  intro p e s m below meth c ls X hl hP hS
  obtain ⟨hx, hb, hml, hown, hts, hr, hlk, hK, hE, hJ⟩ := id X
  have hl : lv_has ls 3 [(0, .ref (xad G h0)), (1, .int p1), (2, .int p2)] := hl
  unfold mX9_hide at hM
  refine lv_iload_n hx hb dX9_hide_0 rfl (lv_at hl 1 rfl) ?_
  obtain ⟨q1, eq1, hM⟩ := xb hM
  refine x_goi (x_runS (rest := []) X (kX9_isTable l G S p1 q1.1 q1.2  eq1) qw295 okX9_isTable ⟨Nat.le_of_ble_eq_true rfl, Nat.le_of_ble_eq_true rfl⟩ hP hS rfl hl.1 rfl (Nat.le_of_ble_eq_true rfl) dX9_hide_1) hS (fun H locs hP hS => ?_)
  refine lv_if_eq (tgt := 26) hx hb dX9_hide_4 (by decide) (fun c2 => ?_) (fun c2 => ?_)
  · replace hM := (if_pos c2).symm.trans hM
    refine lv_iconst (v := (-1)) hx hb dX9_hide_26 (by decide) ?_
    exact x_iret X hP hS hM dX9_hide_27
  · replace hM := (if_neg c2).symm.trans hM
    refine lv_iload_n hx hb dX9_hide_7 rfl (lv_at hl 2 rfl) ?_
    refine lv_iconst (v := 1) hx hb dX9_hide_8 (by decide) ?_
    refine lv_bipush (v := 9) hx hb dX9_hide_9 (by decide) ?_
    obtain ⟨q3, eq3, hM⟩ := xb hM
    refine x_goi (x_runS (rest := []) X (kX9_isIn l G q1.2 p2 1 9 q3.1 q3.2  eq3) qw228 okX9_isIn ⟨Nat.le_of_ble_eq_true rfl, Nat.le_of_ble_eq_true rfl⟩ hP hS rfl hl.1 rfl (Nat.le_of_ble_eq_true rfl) dX9_hide_11) hS (fun H locs hP hS => ?_)
    refine lv_if_eq (tgt := 26) hx hb dX9_hide_14 (by decide) (fun c4 => ?_) (fun c4 => ?_)
    · replace hM := (if_pos c4).symm.trans hM
      refine lv_iconst (v := (-1)) hx hb dX9_hide_26 (by decide) ?_
      exact x_iret X hP hS hM dX9_hide_27
    · replace hM := (if_neg c4).symm.trans hM
      refine lv_aload_n hx hb dX9_hide_17 rfl (lv_at hl 0 rfl) ?_
      refine lv_iload_n hx hb dX9_hide_18 rfl (lv_at hl 1 rfl) ?_
      refine lv_iload_n hx hb dX9_hide_19 rfl (lv_at hl 2 rfl) ?_
      obtain ⟨q5, eq5, hM⟩ := xb hM
      refine x_goi (x_runV (rest := []) X (kX9_move l G q3.2 h0 p1 p2 q5.1 q5.2 hk0 eq5) qw311 okX9_move ⟨Nat.le_of_ble_eq_true rfl, Nat.le_of_ble_eq_true rfl⟩ hk0 (by decide) rfl hP hS rfl hl.1 rfl (Nat.le_of_ble_eq_true rfl) dX9_hide_20) hS (fun H locs hP hS => ?_)
      refine lv_goto (tgt := 27) hx hb dX9_hide_23 (by decide) ?_
      exact x_iret X hP hS hM dX9_hide_27

def mX9_give (S : xS) (h0 : Nat) (p1 : Int32) (p2 : Int32) : Option (Int32 × xS) := (mX9_isTable S p1).bind fun q1 => if (q1.1 = 0 : Prop) then (some ((-1), q1.2)) else ((mX9_isIn q1.2 p2 1 9).bind fun q3 => if (q3.1 = 0 : Prop) then (some ((-1), q3.2)) else ((mX9_move q3.2 h0 p1 (-p2)).bind fun q5 => some (q5.1, q5.2)))
set_option maxHeartbeats 4000000 in
set_option maxRecDepth 100000 in
theorem kX9_give (l : Launch) (G : xG) (S : xS) (h0 : Nat) (p1 : Int32) (p2 : Int32) (r : Int32) (S' : xS) (hk0 : xk Ym h0 = 9) (hM : mX9_give S h0 p1 p2 = some (r, S')) : xM l yX9_give cX9_give 3 (some .int) 3 66 G Ym [.ref (xad G h0), .int p1, .int p2] S (xQi G Ym r S') := by
  refine x_start (own := RX9) (by decide +kernel) rfl (Nat.le_of_ble_eq_true rfl) ?_
  intro p e s m below meth c ls X hl hP hS
  obtain ⟨hx, hb, hml, hown, hts, hr, hlk, hK, hE, hJ⟩ := id X
  have hl : lv_has ls 3 [(0, .ref (xad G h0)), (1, .int p1), (2, .int p2)] := hl
  unfold mX9_give at hM
  refine lv_iload_n hx hb dX9_give_0 rfl (lv_at hl 1 rfl) ?_
  obtain ⟨q1, eq1, hM⟩ := xb hM
  refine x_goi (x_runS (rest := []) X (kX9_isTable l G S p1 q1.1 q1.2  eq1) qw295 okX9_isTable ⟨Nat.le_of_ble_eq_true rfl, Nat.le_of_ble_eq_true rfl⟩ hP hS rfl hl.1 rfl (Nat.le_of_ble_eq_true rfl) dX9_give_1) hS (fun H locs hP hS => ?_)
  refine lv_if_eq (tgt := 27) hx hb dX9_give_4 (by decide) (fun c2 => ?_) (fun c2 => ?_)
  · replace hM := (if_pos c2).symm.trans hM
    refine lv_iconst (v := (-1)) hx hb dX9_give_27 (by decide) ?_
    exact x_iret X hP hS hM dX9_give_28
  · replace hM := (if_neg c2).symm.trans hM
    refine lv_iload_n hx hb dX9_give_7 rfl (lv_at hl 2 rfl) ?_
    refine lv_iconst (v := 1) hx hb dX9_give_8 (by decide) ?_
    refine lv_bipush (v := 9) hx hb dX9_give_9 (by decide) ?_
    obtain ⟨q3, eq3, hM⟩ := xb hM
    refine x_goi (x_runS (rest := []) X (kX9_isIn l G q1.2 p2 1 9 q3.1 q3.2  eq3) qw228 okX9_isIn ⟨Nat.le_of_ble_eq_true rfl, Nat.le_of_ble_eq_true rfl⟩ hP hS rfl hl.1 rfl (Nat.le_of_ble_eq_true rfl) dX9_give_11) hS (fun H locs hP hS => ?_)
    refine lv_if_eq (tgt := 27) hx hb dX9_give_14 (by decide) (fun c4 => ?_) (fun c4 => ?_)
    · replace hM := (if_pos c4).symm.trans hM
      refine lv_iconst (v := (-1)) hx hb dX9_give_27 (by decide) ?_
      exact x_iret X hP hS hM dX9_give_28
    · replace hM := (if_neg c4).symm.trans hM
      refine lv_aload_n hx hb dX9_give_17 rfl (lv_at hl 0 rfl) ?_
      refine lv_iload_n hx hb dX9_give_18 rfl (lv_at hl 1 rfl) ?_
      refine lv_iload_n hx hb dX9_give_19 rfl (lv_at hl 2 rfl) ?_
      refine lv_ineg hx hb dX9_give_20 ?_
      obtain ⟨q5, eq5, hM⟩ := xb hM
      refine x_goi (x_runV (rest := []) X (kX9_move l G q3.2 h0 p1 (-p2) q5.1 q5.2 hk0 eq5) qw311 okX9_move ⟨Nat.le_of_ble_eq_true rfl, Nat.le_of_ble_eq_true rfl⟩ hk0 (by decide) rfl hP hS rfl hl.1 rfl (Nat.le_of_ble_eq_true rfl) dX9_give_21) hS (fun H locs hP hS => ?_)
      refine lv_goto (tgt := 28) hx hb dX9_give_24 (by decide) ?_
      exact x_iret X hP hS hM dX9_give_28

def jX9_passOne_131 (k18 : xS → Nat → Int32 → Int32 → Option (Int32 × xS)) (S : xS) (h0 : Nat) (v1 : Int32) (v2 : Int32) (t0 : Int32) (t1 : Int32) (t2 : Nat) : Option (Int32 × xS) := xlet (pI S t2 27 (t1 - t0)) fun S1 => (dO Ym (gR S1 h0 0) 10).bind fun d2 => (sI Ym S1 d2 (10 + (3 * v2)) (gI S1 h0 26)).bind fun S3 => (dO Ym (gR S3 h0 0) 10).bind fun d4 => (sI Ym S3 d4 ((10 + (3 * v2)) + 1) (gI S3 h0 27)).bind fun S5 => k18 S5 h0 v1 (v2 + 1)
set_option maxHeartbeats 4000000 in
set_option maxRecDepth 100000 in
theorem wX9_passOne_131 {p : Program} {l : Launch} {e : Env} {s : State} {m : MethodId} {args : Array Value} {below : List Frame} {meth : Method} {c : Code} {G : xG} {r : Int32} {S' : xS} (X : xX p s m args meth c cX9_passOne 4 (some .int) RX9 G Ym) (k18 : xS → Nat → Int32 → Int32 → Option (Int32 × xS)) (hh18 : ∀ (S : xS) (h0 : Nat) (v1 : Int32) (v2 : Int32) (H : Heap) (locs : List Loc) (ls : Array Slot), k18 S h0 v1 v2 = some (r, S') → xk Ym h0 = 9 → xP G Ym S H → va_S (xA G Ym) s.heap H locs → lv_has ls 4 [(0, .ref (xad G h0)), (1, .int v1), (2, .int v2)] → W p l e (xr 6 147) s m args below meth c H locs 0 0 (MQ below (xQi G Ym r S') args s 0 0 (xA G Ym)) (F0 m 18 ls [])) : ∀ (S : xS) (h0 : Nat) (v1 : Int32) (v2 : Int32) (t0 : Int32) (t1 : Int32) (t2 : Nat) (H : Heap) (locs : List Loc) (ls : Array Slot), jX9_passOne_131 k18 S h0 v1 v2 t0 t1 t2 = some (r, S') → xk Ym h0 = 9 → xk Ym t2 = 9 → xP G Ym S H → va_S (xA G Ym) s.heap H locs → lv_has ls 4 [(0, .ref (xad G h0)), (1, .int v1), (2, .int v2)] → W p l e (xr 6 147) s m args below meth c H locs 0 0 (MQ below (xQi G Ym r S') args s 0 0 (xA G Ym)) (F0 m 131 ls [.int t0, .int t1, .ref (xad G t2)]) := by
  obtain ⟨hx, hb, hml, hown, hts, hr, hlk, hK, hE, hJ⟩ := id X
  intro S h0 v1 v2 t0 t1 t2 H locs ls hM hk0 hkt2 hP hS hl
  unfold jX9_passOne_131 at hM
  refine lv_isub hx hb dX9_passOne_131 ?_
  obtain ⟨S1, eS1, hM⟩ := xlet_ex hM
  refine fpX9_27 X hP hS hkt2 qw301 dX9_passOne_132 eS1 (fun H locs hP hS => ?_)
  refine lv_aload_n hx hb dX9_passOne_135 rfl (lv_at hl 0 rfl) ?_
  obtain ⟨d2, ed2, hM⟩ := xb hM
  refine fdX9_0 X hP hk0 qw227 dX9_passOne_136 ed2 ?_
  refine lv_bipush (v := 10) hx hb dX9_passOne_139 (by decide) ?_
  refine lv_iconst (v := 3) hx hb dX9_passOne_141 (by decide) ?_
  refine lv_iload_n hx hb dX9_passOne_142 rfl (lv_at hl 2 rfl) ?_
  refine lv_imul hx hb dX9_passOne_143 ?_
  refine lv_iadd hx hb dX9_passOne_144 ?_
  refine lv_aload_n hx hb dX9_passOne_145 rfl (lv_at hl 0 rfl) ?_
  refine fgX9_26 X hP hk0 qw300 dX9_passOne_146 ?_
  obtain ⟨S3, eS3, hM⟩ := xb hM
  refine x_iast X hP hS (dO_k ed2) eS3 dX9_passOne_149 (fun H locs hP hS => ?_)
  refine lv_aload_n hx hb dX9_passOne_150 rfl (lv_at hl 0 rfl) ?_
  obtain ⟨d4, ed4, hM⟩ := xb hM
  refine fdX9_0 X hP hk0 qw227 dX9_passOne_151 ed4 ?_
  refine lv_bipush (v := 10) hx hb dX9_passOne_154 (by decide) ?_
  refine lv_iconst (v := 3) hx hb dX9_passOne_156 (by decide) ?_
  refine lv_iload_n hx hb dX9_passOne_157 rfl (lv_at hl 2 rfl) ?_
  refine lv_imul hx hb dX9_passOne_158 ?_
  refine lv_iadd hx hb dX9_passOne_159 ?_
  refine lv_iconst (v := 1) hx hb dX9_passOne_160 (by decide) ?_
  refine lv_iadd hx hb dX9_passOne_161 ?_
  refine lv_aload_n hx hb dX9_passOne_162 rfl (lv_at hl 0 rfl) ?_
  refine fgX9_27 X hP hk0 qw301 dX9_passOne_163 ?_
  obtain ⟨S5, eS5, hM⟩ := xb hM
  refine x_iast X hP hS (dO_k ed4) eS5 dX9_passOne_166 (fun H locs hP hS => ?_)
  refine lv_iinc (v := v2 + 1) (lv' := [(2, .int (v2 + 1)), (0, .ref (xad G h0)), (1, .int v1)]) hx hb dX9_passOne_167 hl (k := 2) rfl (by first | rfl | exact congrArg (fun z => v2 + z) (by decide)) (by decide) rfl (fun ls hl => ?_)
  refine lv_goto (tgt := 18) hx hb dX9_passOne_170 (by decide) ?_
  exact hh18 S5 h0 v1 (v2 + 1) _ _ _ hM hk0 hP hS (lv_sub hl [1, 2, 0] rfl)
def jX9_passOne_115 (k18 : xS → Nat → Int32 → Int32 → Option (Int32 × xS)) (S : xS) (h0 : Nat) (v2 : Int32) (v3 : Int32) (t0 : Int32) (t1 : Int32) : Option (Int32 × xS) := if (v3 = 0 : Prop) then (jX9_passOne_131 k18 S h0 (t1 + t0) v2 0 (gI S h0 27) h0) else (jX9_passOne_131 k18 S h0 (t1 + t0) v2 1 (gI S h0 27) h0)
set_option maxHeartbeats 4000000 in
set_option maxRecDepth 100000 in
theorem wX9_passOne_115 {p : Program} {l : Launch} {e : Env} {s : State} {m : MethodId} {args : Array Value} {below : List Frame} {meth : Method} {c : Code} {G : xG} {r : Int32} {S' : xS} (X : xX p s m args meth c cX9_passOne 4 (some .int) RX9 G Ym) (k18 : xS → Nat → Int32 → Int32 → Option (Int32 × xS)) (hh18 : ∀ (S : xS) (h0 : Nat) (v1 : Int32) (v2 : Int32) (H : Heap) (locs : List Loc) (ls : Array Slot), k18 S h0 v1 v2 = some (r, S') → xk Ym h0 = 9 → xP G Ym S H → va_S (xA G Ym) s.heap H locs → lv_has ls 4 [(0, .ref (xad G h0)), (1, .int v1), (2, .int v2)] → W p l e (xr 6 147) s m args below meth c H locs 0 0 (MQ below (xQi G Ym r S') args s 0 0 (xA G Ym)) (F0 m 18 ls [])) : ∀ (S : xS) (h0 : Nat) (v2 : Int32) (v3 : Int32) (t0 : Int32) (t1 : Int32) (H : Heap) (locs : List Loc) (ls : Array Slot), jX9_passOne_115 k18 S h0 v2 v3 t0 t1 = some (r, S') → xk Ym h0 = 9 → xP G Ym S H → va_S (xA G Ym) s.heap H locs → lv_has ls 4 [(0, .ref (xad G h0)), (2, .int v2), (3, .int v3)] → W p l e (xr 6 147) s m args below meth c H locs 0 0 (MQ below (xQi G Ym r S') args s 0 0 (xA G Ym)) (F0 m 115 ls [.int t0, .int t1]) := by
  obtain ⟨hx, hb, hml, hown, hts, hr, hlk, hK, hE, hJ⟩ := id X
  intro S h0 v2 v3 t0 t1 H locs ls hM hk0 hP hS hl
  unfold jX9_passOne_115 at hM
  refine lv_iadd hx hb dX9_passOne_115 ?_
  refine lv_istore_n (lv' := [(1, .int (t1 + t0)), (0, .ref (xad G h0)), (2, .int v2), (3, .int v3)]) hx hb dX9_passOne_116 rfl hl (by decide) rfl (fun ls hl => ?_)
  refine lv_aload_n hx hb dX9_passOne_117 rfl (lv_at hl 1 rfl) ?_
  refine lv_dup hx hb dX9_passOne_118 rfl ?_
  refine fgX9_27 X hP hk0 qw301 dX9_passOne_119 ?_
  refine lv_iload_n hx hb dX9_passOne_122 rfl (lv_at hl 3 rfl) ?_
  refine lv_if_eq (tgt := 130) hx hb dX9_passOne_123 (by decide) (fun c1 => ?_) (fun c1 => ?_)
  · replace hM := (if_pos c1).symm.trans hM
    refine lv_iconst (v := 0) hx hb dX9_passOne_130 (by decide) ?_
    exact wX9_passOne_131 X k18 hh18 S h0 (t1 + t0) v2 0 (gI S h0 27) h0 _ _ _ hM hk0 hk0 hP hS (lv_sub hl [1, 0, 2] rfl)
  · replace hM := (if_neg c1).symm.trans hM
    refine lv_iconst (v := 1) hx hb dX9_passOne_126 (by decide) ?_
    refine lv_goto (tgt := 131) hx hb dX9_passOne_127 (by decide) ?_
    exact wX9_passOne_131 X k18 hh18 S h0 (t1 + t0) v2 1 (gI S h0 27) h0 _ _ _ hM hk0 hk0 hP hS (lv_sub hl [1, 0, 2] rfl)
def jX9_passOne_81 (k18 : xS → Nat → Int32 → Int32 → Option (Int32 × xS)) (S : xS) (h0 : Nat) (v1 : Int32) (v2 : Int32) (t0 : Int32) : Option (Int32 × xS) := (dO Ym (gR S h0 0) 10).bind fun d1 => (dO Ym (gR S h0 0) 10).bind fun d2 => (aI Ym S d2 3).bind fun x3 => (sI Ym S d1 3 (((x3 * 173) + 79) - ((x3 * 173) + 79) / 30089 * 30089)).bind fun S4 => if (t0 = 0 : Prop) then (jX9_passOne_115 k18 S4 h0 v2 t0 0 v1) else (jX9_passOne_115 k18 S4 h0 v2 t0 1 v1)
set_option maxHeartbeats 4000000 in
set_option maxRecDepth 100000 in
theorem wX9_passOne_81 {p : Program} {l : Launch} {e : Env} {s : State} {m : MethodId} {args : Array Value} {below : List Frame} {meth : Method} {c : Code} {G : xG} {r : Int32} {S' : xS} (X : xX p s m args meth c cX9_passOne 4 (some .int) RX9 G Ym) (k18 : xS → Nat → Int32 → Int32 → Option (Int32 × xS)) (hh18 : ∀ (S : xS) (h0 : Nat) (v1 : Int32) (v2 : Int32) (H : Heap) (locs : List Loc) (ls : Array Slot), k18 S h0 v1 v2 = some (r, S') → xk Ym h0 = 9 → xP G Ym S H → va_S (xA G Ym) s.heap H locs → lv_has ls 4 [(0, .ref (xad G h0)), (1, .int v1), (2, .int v2)] → W p l e (xr 6 147) s m args below meth c H locs 0 0 (MQ below (xQi G Ym r S') args s 0 0 (xA G Ym)) (F0 m 18 ls [])) : ∀ (S : xS) (h0 : Nat) (v1 : Int32) (v2 : Int32) (t0 : Int32) (H : Heap) (locs : List Loc) (ls : Array Slot), jX9_passOne_81 k18 S h0 v1 v2 t0 = some (r, S') → xk Ym h0 = 9 → xP G Ym S H → va_S (xA G Ym) s.heap H locs → lv_has ls 4 [(0, .ref (xad G h0)), (1, .int v1), (2, .int v2)] → W p l e (xr 6 147) s m args below meth c H locs 0 0 (MQ below (xQi G Ym r S') args s 0 0 (xA G Ym)) (F0 m 81 ls [.int t0]) := by
  obtain ⟨hx, hb, hml, hown, hts, hr, hlk, hK, hE, hJ⟩ := id X
  intro S h0 v1 v2 t0 H locs ls hM hk0 hP hS hl
  unfold jX9_passOne_81 at hM
  refine lv_istore_n (lv' := [(3, .int t0), (0, .ref (xad G h0)), (1, .int v1), (2, .int v2)]) hx hb dX9_passOne_81 rfl hl (by decide) rfl (fun ls hl => ?_)
  refine lv_aload_n hx hb dX9_passOne_82 rfl (lv_at hl 1 rfl) ?_
  obtain ⟨d1, ed1, hM⟩ := xb hM
  refine fdX9_0 X hP hk0 qw227 dX9_passOne_83 ed1 ?_
  refine lv_iconst (v := 3) hx hb dX9_passOne_86 (by decide) ?_
  refine lv_aload_n hx hb dX9_passOne_87 rfl (lv_at hl 1 rfl) ?_
  obtain ⟨d2, ed2, hM⟩ := xb hM
  refine fdX9_0 X hP hk0 qw227 dX9_passOne_88 ed2 ?_
  refine lv_iconst (v := 3) hx hb dX9_passOne_91 (by decide) ?_
  obtain ⟨x3, ex3, hM⟩ := xb hM
  refine x_iald X hP (dO_k ed2) ex3 dX9_passOne_92 ?_
  refine lv_sipush (v := 173) hx hb dX9_passOne_93 (by decide) ?_
  refine lv_imul hx hb dX9_passOne_96 ?_
  refine lv_bipush (v := 79) hx hb dX9_passOne_97 (by decide) ?_
  refine lv_iadd hx hb dX9_passOne_99 ?_
  refine lv_sipush (v := 30089) hx hb dX9_passOne_100 (by decide) ?_
  refine lv_irem hx hb dX9_passOne_103 (by decide) ?_
  obtain ⟨S4, eS4, hM⟩ := xb hM
  refine x_iast X hP hS (dO_k ed1) eS4 dX9_passOne_104 (fun H locs hP hS => ?_)
  refine lv_iload_n hx hb dX9_passOne_105 rfl (lv_at hl 2 rfl) ?_
  refine lv_iload_n hx hb dX9_passOne_106 rfl (lv_at hl 0 rfl) ?_
  refine lv_if_eq (tgt := 114) hx hb dX9_passOne_107 (by decide) (fun c5 => ?_) (fun c5 => ?_)
  · replace hM := (if_pos c5).symm.trans hM
    refine lv_iconst (v := 0) hx hb dX9_passOne_114 (by decide) ?_
    exact wX9_passOne_115 X k18 hh18 S4 h0 v2 t0 0 v1 _ _ _ hM hk0 hP hS (lv_sub hl [1, 3, 0] rfl)
  · replace hM := (if_neg c5).symm.trans hM
    refine lv_iconst (v := 1) hx hb dX9_passOne_110 (by decide) ?_
    refine lv_goto (tgt := 115) hx hb dX9_passOne_111 (by decide) ?_
    exact wX9_passOne_115 X k18 hh18 S4 h0 v2 t0 1 v1 _ _ _ hM hk0 hP hS (lv_sub hl [1, 3, 0] rfl)
def jX9_passOne_80 (k18 : xS → Nat → Int32 → Int32 → Option (Int32 × xS)) (S : xS) (h0 : Nat) (v1 : Int32) (v2 : Int32) : Option (Int32 × xS) := jX9_passOne_81 k18 S h0 v1 v2 0
set_option maxHeartbeats 4000000 in
set_option maxRecDepth 100000 in
theorem wX9_passOne_80 {p : Program} {l : Launch} {e : Env} {s : State} {m : MethodId} {args : Array Value} {below : List Frame} {meth : Method} {c : Code} {G : xG} {r : Int32} {S' : xS} (X : xX p s m args meth c cX9_passOne 4 (some .int) RX9 G Ym) (k18 : xS → Nat → Int32 → Int32 → Option (Int32 × xS)) (hh18 : ∀ (S : xS) (h0 : Nat) (v1 : Int32) (v2 : Int32) (H : Heap) (locs : List Loc) (ls : Array Slot), k18 S h0 v1 v2 = some (r, S') → xk Ym h0 = 9 → xP G Ym S H → va_S (xA G Ym) s.heap H locs → lv_has ls 4 [(0, .ref (xad G h0)), (1, .int v1), (2, .int v2)] → W p l e (xr 6 147) s m args below meth c H locs 0 0 (MQ below (xQi G Ym r S') args s 0 0 (xA G Ym)) (F0 m 18 ls [])) : ∀ (S : xS) (h0 : Nat) (v1 : Int32) (v2 : Int32) (H : Heap) (locs : List Loc) (ls : Array Slot), jX9_passOne_80 k18 S h0 v1 v2 = some (r, S') → xk Ym h0 = 9 → xP G Ym S H → va_S (xA G Ym) s.heap H locs → lv_has ls 4 [(0, .ref (xad G h0)), (1, .int v1), (2, .int v2)] → W p l e (xr 6 147) s m args below meth c H locs 0 0 (MQ below (xQi G Ym r S') args s 0 0 (xA G Ym)) (F0 m 80 ls []) := by
  obtain ⟨hx, hb, hml, hown, hts, hr, hlk, hK, hE, hJ⟩ := id X
  intro S h0 v1 v2 H locs ls hM hk0 hP hS hl
  unfold jX9_passOne_80 at hM
  refine lv_iconst (v := 0) hx hb dX9_passOne_80 (by decide) ?_
  exact wX9_passOne_81 X k18 hh18 S h0 v1 v2 0 _ _ _ hM hk0 hP hS (lv_sub hl [0, 1, 2] rfl)
def lX9_passOne_18 : Nat → xS → Nat → Int32 → Int32 → Option (Int32 × xS)
  | 0, _, _, _, _ => none
  | n + 1, S, h0, v1, v2 => if (2 ≤ v2 : Prop) then (some (v1, S)) else ((mX9_setTable S h0 v2).bind fun S2 => (dO Ym (gR S2 h0 0) 10).bind fun d3 => (aI Ym S2 d3 1).bind fun x4 => (mX9_bake S2 h0 x4).bind fun S5 => (dO Ym (gR S5 h0 0) 10).bind fun d6 => (aI Ym S5 d6 1).bind fun x7 => (mX9_eat S5 h0 x7).bind fun q8 => (dO Ym (gR q8.2 h0 0) 10).bind fun d9 => (aI Ym q8.2 d9 3).bind fun x10 => (dO Ym (gR q8.2 h0 0) 10).bind fun d11 => (aI Ym q8.2 d11 2).bind fun x12 => if (x12 ≤ (x10 - x10 / 10 * 10) : Prop) then (jX9_passOne_80 (lX9_passOne_18  n) q8.2 h0 (v1 + q8.1) v2) else (if ((gI q8.2 h0 27) ≤ 0 : Prop) then (jX9_passOne_80 (lX9_passOne_18  n) q8.2 h0 (v1 + q8.1) v2) else (jX9_passOne_81 (lX9_passOne_18  n) q8.2 h0 (v1 + q8.1) v2 1)))
set_option maxHeartbeats 4000000 in
set_option maxRecDepth 100000 in
theorem wX9_passOne_18 {p : Program} {l : Launch} {e : Env} {s : State} {m : MethodId} {args : Array Value} {below : List Frame} {meth : Method} {c : Code} {G : xG} {r : Int32} {S' : xS} (X : xX p s m args meth c cX9_passOne 4 (some .int) RX9 G Ym) : ∀ (n : Nat), ∀ (S : xS) (h0 : Nat) (v1 : Int32) (v2 : Int32) (H : Heap) (locs : List Loc) (ls : Array Slot), lX9_passOne_18  n S h0 v1 v2 = some (r, S') → xk Ym h0 = 9 → xP G Ym S H → va_S (xA G Ym) s.heap H locs → lv_has ls 4 [(0, .ref (xad G h0)), (1, .int v1), (2, .int v2)] → W p l e (xr 6 147) s m args below meth c H locs 0 0 (MQ below (xQi G Ym r S') args s 0 0 (xA G Ym)) (F0 m 18 ls []) := by
  obtain ⟨hx, hb, hml, hown, hts, hr, hlk, hK, hE, hJ⟩ := id X
  intro n
  induction n with
  | zero =>
    intro S h0 v1 v2 H locs ls hM
    rw [lX9_passOne_18.eq_1] at hM
    cases hM
  | succ n ih =>
    intro S h0 v1 v2 H locs ls hM hk0 hP hS hl
    rw [lX9_passOne_18.eq_2] at hM
    refine lv_iload_n hx hb dX9_passOne_18 rfl (lv_at hl 2 rfl) ?_
    refine lv_iconst (v := 2) hx hb dX9_passOne_19 (by decide) ?_
    refine lv_icmp_ge (tgt := 173) hx hb dX9_passOne_20 (by decide) (fun c1 => ?_) (fun c1 => ?_)
    · replace hM := (if_pos c1).symm.trans hM
      refine lv_iload_n hx hb dX9_passOne_173 rfl (lv_at hl 1 rfl) ?_
      exact x_iret X hP hS hM dX9_passOne_174
    · replace hM := (if_neg c1).symm.trans hM
      refine lv_aload_n hx hb dX9_passOne_23 rfl (lv_at hl 0 rfl) ?_
      refine lv_iload_n hx hb dX9_passOne_24 rfl (lv_at hl 2 rfl) ?_
      obtain ⟨S2, eS2, hM⟩ := xb hM
      refine x_gov (x_runV (rest := []) X (kX9_setTable l G S h0 v2 S2 hk0 eS2) qw312 okX9_setTable ⟨Nat.le_of_ble_eq_true rfl, Nat.le_of_ble_eq_true rfl⟩ hk0 (by decide) rfl hP hS rfl hl.1 rfl (Nat.le_of_ble_eq_true rfl) dX9_passOne_25) hS (fun H locs hP hS => ?_)
      refine lv_aload_n hx hb dX9_passOne_28 rfl (lv_at hl 0 rfl) ?_
      refine lv_aload_n hx hb dX9_passOne_29 rfl (lv_at hl 0 rfl) ?_
      obtain ⟨d3, ed3, hM⟩ := xb hM
      refine fdX9_0 X hP hk0 qw227 dX9_passOne_30 ed3 ?_
      refine lv_iconst (v := 1) hx hb dX9_passOne_33 (by decide) ?_
      obtain ⟨x4, ex4, hM⟩ := xb hM
      refine x_iald X hP (dO_k ed3) ex4 dX9_passOne_34 ?_
      obtain ⟨S5, eS5, hM⟩ := xb hM
      refine x_gov (x_runV (rest := []) X (kX9_bake l G S2 h0 x4 S5 hk0 eS5) qw307 okX9_bake ⟨Nat.le_of_ble_eq_true rfl, Nat.le_of_ble_eq_true rfl⟩ hk0 (by decide) rfl hP hS rfl hl.1 rfl (Nat.le_of_ble_eq_true rfl) dX9_passOne_35) hS (fun H locs hP hS => ?_)
      refine lv_iload_n hx hb dX9_passOne_38 rfl (lv_at hl 1 rfl) ?_
      refine lv_aload_n hx hb dX9_passOne_39 rfl (lv_at hl 0 rfl) ?_
      refine lv_aload_n hx hb dX9_passOne_40 rfl (lv_at hl 0 rfl) ?_
      obtain ⟨d6, ed6, hM⟩ := xb hM
      refine fdX9_0 X hP hk0 qw227 dX9_passOne_41 ed6 ?_
      refine lv_iconst (v := 1) hx hb dX9_passOne_44 (by decide) ?_
      obtain ⟨x7, ex7, hM⟩ := xb hM
      refine x_iald X hP (dO_k ed6) ex7 dX9_passOne_45 ?_
      obtain ⟨q8, eq8, hM⟩ := xb hM
      refine x_goi (x_runV (rest := [.int v1]) X (kX9_eat l G S5 h0 x7 q8.1 q8.2 hk0 eq8) qw308 okX9_eat ⟨Nat.le_of_ble_eq_true rfl, Nat.le_of_ble_eq_true rfl⟩ hk0 (by decide) rfl hP hS rfl hl.1 rfl (Nat.le_of_ble_eq_true rfl) dX9_passOne_46) hS (fun H locs hP hS => ?_)
      refine lv_iadd hx hb dX9_passOne_49 ?_
      refine lv_istore_n (lv' := [(1, .int (v1 + q8.1)), (0, .ref (xad G h0)), (2, .int v2)]) hx hb dX9_passOne_50 rfl hl (by decide) rfl (fun ls hl => ?_)
      refine lv_aload_n hx hb dX9_passOne_51 rfl (lv_at hl 1 rfl) ?_
      obtain ⟨d9, ed9, hM⟩ := xb hM
      refine fdX9_0 X hP hk0 qw227 dX9_passOne_52 ed9 ?_
      refine lv_iconst (v := 3) hx hb dX9_passOne_55 (by decide) ?_
      obtain ⟨x10, ex10, hM⟩ := xb hM
      refine x_iald X hP (dO_k ed9) ex10 dX9_passOne_56 ?_
      refine lv_bipush (v := 10) hx hb dX9_passOne_57 (by decide) ?_
      refine lv_irem hx hb dX9_passOne_59 (by decide) ?_
      refine lv_aload_n hx hb dX9_passOne_60 rfl (lv_at hl 1 rfl) ?_
      obtain ⟨d11, ed11, hM⟩ := xb hM
      refine fdX9_0 X hP hk0 qw227 dX9_passOne_61 ed11 ?_
      refine lv_iconst (v := 2) hx hb dX9_passOne_64 (by decide) ?_
      obtain ⟨x12, ex12, hM⟩ := xb hM
      refine x_iald X hP (dO_k ed11) ex12 dX9_passOne_65 ?_
      refine lv_icmp_ge (tgt := 80) hx hb dX9_passOne_66 (by decide) (fun c13 => ?_) (fun c13 => ?_)
      · replace hM := (if_pos c13).symm.trans hM
        exact wX9_passOne_80 X (lX9_passOne_18  n) ih q8.2 h0 (v1 + q8.1) v2 _ _ _ hM hk0 hP hS (lv_sub hl [1, 0, 2] rfl)
      · replace hM := (if_neg c13).symm.trans hM
        refine lv_aload_n hx hb dX9_passOne_69 rfl (lv_at hl 1 rfl) ?_
        refine fgX9_27 X hP hk0 qw301 dX9_passOne_70 ?_
        refine lv_if_le (tgt := 80) hx hb dX9_passOne_73 (by decide) (fun c14 => ?_) (fun c14 => ?_)
        · replace hM := (if_pos c14).symm.trans hM
          exact wX9_passOne_80 X (lX9_passOne_18  n) ih q8.2 h0 (v1 + q8.1) v2 _ _ _ hM hk0 hP hS (lv_sub hl [1, 0, 2] rfl)
        · replace hM := (if_neg c14).symm.trans hM
          refine lv_iconst (v := 1) hx hb dX9_passOne_76 (by decide) ?_
          refine lv_goto (tgt := 81) hx hb dX9_passOne_77 (by decide) ?_
          exact wX9_passOne_81 X (lX9_passOne_18  n) ih q8.2 h0 (v1 + q8.1) v2 1 _ _ _ hM hk0 hP hS (lv_sub hl [1, 0, 2] rfl)
def mX9_passOne (S : xS) (h0 : Nat) : Option (Int32 × xS) := (mX9_keep S h0).bind fun S1 => (dO Ym (gR S1 h0 0) 10).bind fun d2 => (aI Ym S1 d2 1).bind fun x3 => (sI Ym S1 d2 1 (x3 + 1)).bind fun S4 => lX9_passOne_18  5000 S4 h0 0 0
set_option maxHeartbeats 4000000 in
set_option maxRecDepth 100000 in
theorem kX9_passOne (l : Launch) (G : xG) (S : xS) (h0 : Nat) (r : Int32) (S' : xS) (hk0 : xk Ym h0 = 9) (hM : mX9_passOne S h0 = some (r, S')) : xM l yX9_passOne cX9_passOne 4 (some .int) 6 147 G Ym [.ref (xad G h0)] S (xQi G Ym r S') := by
  refine x_start (own := RX9) (by decide +kernel) rfl (Nat.le_of_ble_eq_true rfl) ?_
  intro p e s m below meth c ls X hl hP hS
  obtain ⟨hx, hb, hml, hown, hts, hr, hlk, hK, hE, hJ⟩ := id X
  have hl : lv_has ls 4 [(0, .ref (xad G h0))] := hl
  unfold mX9_passOne at hM
  refine lv_aload_n hx hb dX9_passOne_0 rfl (lv_at hl 0 rfl) ?_
  obtain ⟨S1, eS1, hM⟩ := xb hM
  refine x_gov (x_runV (rest := []) X (kX9_keep l G S h0 S1 hk0 eS1) qw310 okX9_keep ⟨Nat.le_of_ble_eq_true rfl, Nat.le_of_ble_eq_true rfl⟩ hk0 (by decide) rfl hP hS rfl hl.1 rfl (Nat.le_of_ble_eq_true rfl) dX9_passOne_1) hS (fun H locs hP hS => ?_)
  refine lv_aload_n hx hb dX9_passOne_4 rfl (lv_at hl 0 rfl) ?_
  obtain ⟨d2, ed2, hM⟩ := xb hM
  refine fdX9_0 X hP hk0 qw227 dX9_passOne_5 ed2 ?_
  refine lv_iconst (v := 1) hx hb dX9_passOne_8 (by decide) ?_
  refine lv_dup2_11 hx hb dX9_passOne_9 rfl rfl ?_
  obtain ⟨x3, ex3, hM⟩ := xb hM
  refine x_iald X hP (dO_k ed2) ex3 dX9_passOne_10 ?_
  refine lv_iconst (v := 1) hx hb dX9_passOne_11 (by decide) ?_
  refine lv_iadd hx hb dX9_passOne_12 ?_
  obtain ⟨S4, eS4, hM⟩ := xb hM
  refine x_iast X hP hS (dO_k ed2) eS4 dX9_passOne_13 (fun H locs hP hS => ?_)
  refine lv_iconst (v := 0) hx hb dX9_passOne_14 (by decide) ?_
  refine lv_istore_n (lv' := [(1, .int 0), (0, .ref (xad G h0))]) hx hb dX9_passOne_15 rfl hl (by decide) rfl (fun ls hl => ?_)
  refine lv_iconst (v := 0) hx hb dX9_passOne_16 (by decide) ?_
  refine lv_istore_n (lv' := [(2, .int 0), (1, .int 0), (0, .ref (xad G h0))]) hx hb dX9_passOne_17 rfl hl (by decide) rfl (fun ls hl => ?_)
  exact wX9_passOne_18 X  5000 S4 h0 0 0 _ _ _ hM hk0 hP hS (lv_sub hl [2, 1, 0] rfl)

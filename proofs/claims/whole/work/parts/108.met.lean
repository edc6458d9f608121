def jX9_isCompared_30 (S : xS) (h0 : Nat) (v1 : Int32) : Option (Int32 × xS) := if (v1 < 0 : Prop) then (some (0, S)) else ((dO Ym (gR S h0 16) 10).bind fun d2 => (aI Ym S d2 v1).bind fun x3 => (mX9_rank S x3).bind fun q4 => if (q4.1 = 4 : Prop) then (some (1, q4.2)) else (some (0, q4.2)))
set_option maxHeartbeats 4000000 in
set_option maxRecDepth 100000 in
theorem wX9_isCompared_30 {p : Program} {l : Launch} {e : Env} {s : State} {m : MethodId} {args : Array Value} {below : List Frame} {meth : Method} {c : Code} {G : xG} {r : Int32} {S' : xS} (X : xX p s m args meth c cX9_isCompared 2 (some .boolean) RX9 G Ym) : ∀ (S : xS) (h0 : Nat) (v1 : Int32) (H : Heap) (locs : List Loc) (ls : Array Slot), jX9_isCompared_30  S h0 v1 = some (r, S') → xk Ym h0 = 9 → xP G Ym S H → va_S (xA G Ym) s.heap H locs → lv_has ls 2 [(0, .ref (xad G h0)), (1, .int v1)] → W p l e (xr 1 20) s m args below meth c H locs 0 0 (MQ below (xQi G Ym r S') args s 0 0 (xA G Ym)) (F0 m 30 ls []) := by
  obtain ⟨hx, hb, hml, hown, hts, hr, hlk, hK, hE, hJ⟩ := id X
  intro S h0 v1 H locs ls hM hk0 hP hS hl
  unfold jX9_isCompared_30 at hM
  refine lv_iload_n hx hb dX9_isCompared_30 rfl (lv_at hl 1 rfl) ?_
  refine lv_if_lt (tgt := 51) hx hb dX9_isCompared_31 (by decide) (fun c1 => ?_) (fun c1 => ?_)
  · replace hM := (if_pos c1).symm.trans hM
    refine lv_iconst (v := 0) hx hb dX9_isCompared_51 (by decide) ?_
    exact x_zret X hP hS (Or.inl rfl) hM dX9_isCompared_52
  · replace hM := (if_neg c1).symm.trans hM
    refine lv_aload_n hx hb dX9_isCompared_34 rfl (lv_at hl 0 rfl) ?_
    obtain ⟨d2, ed2, hM⟩ := xb hM
    refine fdX9_16 X hP hk0 qw246 dX9_isCompared_35 ed2 ?_
    refine lv_iload_n hx hb dX9_isCompared_38 rfl (lv_at hl 1 rfl) ?_
    obtain ⟨x3, ex3, hM⟩ := xb hM
    refine x_iald X hP (dO_k ed2) ex3 dX9_isCompared_39 ?_
    obtain ⟨q4, eq4, hM⟩ := xb hM
    refine x_goi (x_runS (rest := []) X (kX9_rank l G S x3 q4.1 q4.2  eq4) qw248 okX9_rank ⟨Nat.le_of_ble_eq_true rfl, Nat.le_of_ble_eq_true rfl⟩ hP hS rfl hl.1 rfl (Nat.le_of_ble_eq_true rfl) dX9_isCompared_40) hS (fun H locs hP hS => ?_)
    refine lv_iconst (v := 4) hx hb dX9_isCompared_43 (by decide) ?_
    refine lv_icmp_ne (tgt := 51) hx hb dX9_isCompared_44 (by decide) (fun c5 => ?_) (fun c5 => ?_)
    · replace hM := (if_neg c5).symm.trans hM
      refine lv_iconst (v := 0) hx hb dX9_isCompared_51 (by decide) ?_
      exact x_zret X hP hS (Or.inl rfl) hM dX9_isCompared_52
    · replace hM := (if_pos c5).symm.trans hM
      refine lv_iconst (v := 1) hx hb dX9_isCompared_47 (by decide) ?_
      refine lv_goto (tgt := 52) hx hb dX9_isCompared_48 (by decide) ?_
      exact x_zret X hP hS (Or.inr rfl) hM dX9_isCompared_52
def lX9_isCompared_7 : Nat → xS → Nat → Int32 → Option (Int32 × xS)
  | 0, _, _, _ => none
  | n + 1, S, h0, v1 => if (v1 < 0 : Prop) then (jX9_isCompared_30  S h0 v1) else ((dO Ym (gR S h0 16) 10).bind fun d2 => (aI Ym S d2 v1).bind fun x3 => (mX9_rank S x3).bind fun q4 => if (q4.1 ≤ 4 : Prop) then (jX9_isCompared_30  q4.2 h0 v1) else (lX9_isCompared_7 n q4.2 h0 (v1 + (-1))))
set_option maxHeartbeats 4000000 in
set_option maxRecDepth 100000 in
theorem wX9_isCompared_7 {p : Program} {l : Launch} {e : Env} {s : State} {m : MethodId} {args : Array Value} {below : List Frame} {meth : Method} {c : Code} {G : xG} {r : Int32} {S' : xS} (X : xX p s m args meth c cX9_isCompared 2 (some .boolean) RX9 G Ym) : ∀ (n : Nat), ∀ (S : xS) (h0 : Nat) (v1 : Int32) (H : Heap) (locs : List Loc) (ls : Array Slot), lX9_isCompared_7  n S h0 v1 = some (r, S') → xk Ym h0 = 9 → xP G Ym S H → va_S (xA G Ym) s.heap H locs → lv_has ls 2 [(0, .ref (xad G h0)), (1, .int v1)] → W p l e (xr 1 20) s m args below meth c H locs 0 0 (MQ below (xQi G Ym r S') args s 0 0 (xA G Ym)) (F0 m 7 ls []) := by
  obtain ⟨hx, hb, hml, hown, hts, hr, hlk, hK, hE, hJ⟩ := id X
  intro n
  induction n with
  | zero =>
    intro S h0 v1 H locs ls hM
    rw [lX9_isCompared_7.eq_1] at hM
    cases hM
  | succ n ih =>
    intro S h0 v1 H locs ls hM hk0 hP hS hl
    rw [lX9_isCompared_7.eq_2] at hM
    refine lv_iload_n hx hb dX9_isCompared_7 rfl (lv_at hl 1 rfl) ?_
    refine lv_if_lt (tgt := 30) hx hb dX9_isCompared_8 (by decide) (fun c1 => ?_) (fun c1 => ?_)
    · replace hM := (if_pos c1).symm.trans hM
      exact wX9_isCompared_30 X  S h0 v1 _ _ _ hM hk0 hP hS (lv_sub hl [0, 1] rfl)
    · replace hM := (if_neg c1).symm.trans hM
      refine lv_aload_n hx hb dX9_isCompared_11 rfl (lv_at hl 0 rfl) ?_
      obtain ⟨d2, ed2, hM⟩ := xb hM
      refine fdX9_16 X hP hk0 qw246 dX9_isCompared_12 ed2 ?_
      refine lv_iload_n hx hb dX9_isCompared_15 rfl (lv_at hl 1 rfl) ?_
      obtain ⟨x3, ex3, hM⟩ := xb hM
      refine x_iald X hP (dO_k ed2) ex3 dX9_isCompared_16 ?_
      obtain ⟨q4, eq4, hM⟩ := xb hM
      refine x_goi (x_runS (rest := []) X (kX9_rank l G S x3 q4.1 q4.2  eq4) qw248 okX9_rank ⟨Nat.le_of_ble_eq_true rfl, Nat.le_of_ble_eq_true rfl⟩ hP hS rfl hl.1 rfl (Nat.le_of_ble_eq_true rfl) dX9_isCompared_17) hS (fun H locs hP hS => ?_)
      refine lv_iconst (v := 4) hx hb dX9_isCompared_20 (by decide) ?_
      refine lv_icmp_le (tgt := 30) hx hb dX9_isCompared_21 (by decide) (fun c5 => ?_) (fun c5 => ?_)
      · replace hM := (if_pos c5).symm.trans hM
        exact wX9_isCompared_30 X  q4.2 h0 v1 _ _ _ hM hk0 hP hS (lv_sub hl [0, 1] rfl)
      · replace hM := (if_neg c5).symm.trans hM
        refine lv_iinc (v := v1 + (-1)) (lv' := [(1, .int (v1 + (-1))), (0, .ref (xad G h0))]) hx hb dX9_isCompared_24 hl (k := 1) rfl (by first | rfl | exact congrArg (fun z => v1 + z) (by decide)) (by decide) rfl (fun ls hl => ?_)
        refine lv_goto (tgt := 7) hx hb dX9_isCompared_27 (by decide) ?_
        exact ih q4.2 h0 (v1 + (-1)) _ _ _ hM hk0 hP hS (lv_sub hl [1, 0] rfl)
def mX9_isCompared (S : xS) (h0 : Nat) : Option (Int32 × xS) := lX9_isCompared_7  5000 S h0 ((gI S h0 17) - 1)
set_option maxHeartbeats 4000000 in
set_option maxRecDepth 100000 in
theorem kX9_isCompared (l : Launch) (G : xG) (S : xS) (h0 : Nat) (r : Int32) (S' : xS) (hk0 : xk Ym h0 = 9) (hM : mX9_isCompared S h0 = some (r, S')) : xM l yX9_isCompared cX9_isCompared 2 (some .boolean) 1 20 G Ym [.ref (xad G h0)] S (xQi G Ym r S') := by
  refine x_start (own := RX9) (by decide +kernel) rfl (Nat.le_of_ble_eq_true rfl) ?_
  intro p e s m below meth c ls X hl hP hS
  obtain ⟨hx, hb, hml, hown, hts, hr, hlk, hK, hE, hJ⟩ := id X
  have hl : lv_has ls 2 [(0, .ref (xad G h0))] := hl
  unfold mX9_isCompared at hM
  refine lv_aload_n hx hb dX9_isCompared_0 rfl (lv_at hl 0 rfl) ?_
  refine fgX9_17 X hP hk0 qw247 dX9_isCompared_1 ?_
  refine lv_iconst (v := 1) hx hb dX9_isCompared_4 (by decide) ?_
  refine lv_isub hx hb dX9_isCompared_5 ?_
  refine lv_istore_n (lv' := [(1, .int ((gI S h0 17) - 1)), (0, .ref (xad G h0))]) hx hb dX9_isCompared_6 rfl hl (by decide) rfl (fun ls hl => ?_)
  exact wX9_isCompared_7 X  5000 S h0 ((gI S h0 17) - 1) _ _ _ hM hk0 hP hS (lv_sub hl [1, 0] rfl)

def mX9_isAskAhead (S : xS) (h0 : Nat) (p1 : Int32) : Option (Int32 × xS) := (mX9_kindOpen S h0 p1).bind fun q1 => if (q1.1 = 41 : Prop) then (if ((gI q1.2 h0 17) = 0 : Prop) then (some (1, q1.2)) else ((dO Ym (gR q1.2 h0 16) 10).bind fun d4 => (aI Ym q1.2 d4 ((gI q1.2 h0 17) - 1)).bind fun x5 => if (x5 = 41 : Prop) then (some (1, q1.2)) else ((dO Ym (gR q1.2 h0 16) 10).bind fun d7 => (aI Ym q1.2 d7 ((gI q1.2 h0 17) - 1)).bind fun x8 => (mX9_rank q1.2 x8).bind fun q9 => (mX9_isIn q9.2 q9.1 1 3).bind fun q10 => if (q10.1 = 0 : Prop) then (some (0, q10.2)) else (some (1, q10.2))))) else (some (0, q1.2))
set_option maxHeartbeats 4000000 in
set_option maxRecDepth 100000 in
theorem kX9_isAskAhead (l : Launch) (G : xG) (S : xS) (h0 : Nat) (p1 : Int32) (r : Int32) (S' : xS) (hk0 : xk Ym h0 = 9) (hM : mX9_isAskAhead S h0 p1 = some (r, S')) : xM l yX9_isAskAhead cX9_isAskAhead 2 (some .boolean) 2 43 G Ym [.ref (xad G h0), .int p1] S (xQi G Ym r S') := by
  refine x_start (own := RX9) (by decide +kernel) rfl (Nat.le_of_ble_eq_true rfl) ?_
  intro p e s m below meth c ls X hl hP hS
  obtain ⟨hx, hb, hml, hown, hts, hr, hlk, hK, hE, hJ⟩ := id X
  have hl : lv_has ls 2 [(0, .ref (xad G h0)), (1, .int p1)] := hl
  unfold mX9_isAskAhead at hM
  refine lv_aload_n hx hb dX9_isAskAhead_0 rfl (lv_at hl 0 rfl) ?_
  refine lv_iload_n hx hb dX9_isAskAhead_1 rfl (lv_at hl 1 rfl) ?_
  obtain ⟨q1, eq1, hM⟩ := xb hM
  refine x_goi (x_runV (rest := []) X (kX9_kindOpen l G S h0 p1 q1.1 q1.2 hk0 eq1) qw254 okX9_kindOpen ⟨Nat.le_of_ble_eq_true rfl, Nat.le_of_ble_eq_true rfl⟩ hk0 (by decide) rfl hP hS rfl hl.1 rfl (Nat.le_of_ble_eq_true rfl) dX9_isAskAhead_2) hS (fun H locs hP hS => ?_)
  refine lv_bipush (v := 41) hx hb dX9_isAskAhead_5 (by decide) ?_
  refine lv_icmp_ne (tgt := 59) hx hb dX9_isAskAhead_7 (by decide) (fun c2 => ?_) (fun c2 => ?_)
  · replace hM := (if_neg c2).symm.trans hM
    refine lv_iconst (v := 0) hx hb dX9_isAskAhead_59 (by decide) ?_
    exact x_zret X hP hS (Or.inl rfl) hM dX9_isAskAhead_60
  · replace hM := (if_pos c2).symm.trans hM
    refine lv_aload_n hx hb dX9_isAskAhead_10 rfl (lv_at hl 0 rfl) ?_
    refine fgX9_17 X hP hk0 qw247 dX9_isAskAhead_11 ?_
    refine lv_if_eq (tgt := 55) hx hb dX9_isAskAhead_14 (by decide) (fun c3 => ?_) (fun c3 => ?_)
    · replace hM := (if_pos c3).symm.trans hM
      refine lv_iconst (v := 1) hx hb dX9_isAskAhead_55 (by decide) ?_
      refine lv_goto (tgt := 60) hx hb dX9_isAskAhead_56 (by decide) ?_
      exact x_zret X hP hS (Or.inr rfl) hM dX9_isAskAhead_60
    · replace hM := (if_neg c3).symm.trans hM
      refine lv_aload_n hx hb dX9_isAskAhead_17 rfl (lv_at hl 0 rfl) ?_
      obtain ⟨d4, ed4, hM⟩ := xb hM
      refine fdX9_16 X hP hk0 qw246 dX9_isAskAhead_18 ed4 ?_
      refine lv_aload_n hx hb dX9_isAskAhead_21 rfl (lv_at hl 0 rfl) ?_
      refine fgX9_17 X hP hk0 qw247 dX9_isAskAhead_22 ?_
      refine lv_iconst (v := 1) hx hb dX9_isAskAhead_25 (by decide) ?_
      refine lv_isub hx hb dX9_isAskAhead_26 ?_
      obtain ⟨x5, ex5, hM⟩ := xb hM
      refine x_iald X hP (dO_k ed4) ex5 dX9_isAskAhead_27 ?_
      refine lv_bipush (v := 41) hx hb dX9_isAskAhead_28 (by decide) ?_
      refine lv_icmp_eq (tgt := 55) hx hb dX9_isAskAhead_30 (by decide) (fun c6 => ?_) (fun c6 => ?_)
      · replace hM := (if_pos c6).symm.trans hM
        refine lv_iconst (v := 1) hx hb dX9_isAskAhead_55 (by decide) ?_
        refine lv_goto (tgt := 60) hx hb dX9_isAskAhead_56 (by decide) ?_
        exact x_zret X hP hS (Or.inr rfl) hM dX9_isAskAhead_60
      · replace hM := (if_neg c6).symm.trans hM
        refine lv_aload_n hx hb dX9_isAskAhead_33 rfl (lv_at hl 0 rfl) ?_
        obtain ⟨d7, ed7, hM⟩ := xb hM
        refine fdX9_16 X hP hk0 qw246 dX9_isAskAhead_34 ed7 ?_
        refine lv_aload_n hx hb dX9_isAskAhead_37 rfl (lv_at hl 0 rfl) ?_
        refine fgX9_17 X hP hk0 qw247 dX9_isAskAhead_38 ?_
        refine lv_iconst (v := 1) hx hb dX9_isAskAhead_41 (by decide) ?_
        refine lv_isub hx hb dX9_isAskAhead_42 ?_
        obtain ⟨x8, ex8, hM⟩ := xb hM
        refine x_iald X hP (dO_k ed7) ex8 dX9_isAskAhead_43 ?_
        obtain ⟨q9, eq9, hM⟩ := xb hM
        refine x_goi (x_runS (rest := []) X (kX9_rank l G q1.2 x8 q9.1 q9.2  eq9) qw248 okX9_rank ⟨Nat.le_of_ble_eq_true rfl, Nat.le_of_ble_eq_true rfl⟩ hP hS rfl hl.1 rfl (Nat.le_of_ble_eq_true rfl) dX9_isAskAhead_44) hS (fun H locs hP hS => ?_)
        refine lv_iconst (v := 1) hx hb dX9_isAskAhead_47 (by decide) ?_
        refine lv_iconst (v := 3) hx hb dX9_isAskAhead_48 (by decide) ?_
        obtain ⟨q10, eq10, hM⟩ := xb hM
        refine x_goi (x_runS (rest := []) X (kX9_isIn l G q9.2 q9.1 1 3 q10.1 q10.2  eq10) qw228 okX9_isIn ⟨Nat.le_of_ble_eq_true rfl, Nat.le_of_ble_eq_true rfl⟩ hP hS rfl hl.1 rfl (Nat.le_of_ble_eq_true rfl) dX9_isAskAhead_49) hS (fun H locs hP hS => ?_)
        refine lv_if_eq (tgt := 59) hx hb dX9_isAskAhead_52 (by decide) (fun c11 => ?_) (fun c11 => ?_)
        · replace hM := (if_pos c11).symm.trans hM
          refine lv_iconst (v := 0) hx hb dX9_isAskAhead_59 (by decide) ?_
          exact x_zret X hP hS (Or.inl rfl) hM dX9_isAskAhead_60
        · replace hM := (if_neg c11).symm.trans hM
          refine lv_iconst (v := 1) hx hb dX9_isAskAhead_55 (by decide) ?_
          refine lv_goto (tgt := 60) hx hb dX9_isAskAhead_56 (by decide) ?_
          exact x_zret X hP hS (Or.inr rfl) hM dX9_isAskAhead_60

def mX9_opensBy (S : xS) (h0 : Nat) (p1 : Int32) : Option (Int32 × xS) := if ((gI S h0 18) = 8 : Prop) then (some (3, S)) else (xlet (pI S h0 18 ((gI S h0 18) + 1)) fun S2 => (mX9_push S2 h0 p1).bind fun S3 => (mX9_nextToken S3 h0).bind fun S4 => some (0, S4))
set_option maxHeartbeats 4000000 in
set_option maxRecDepth 100000 in
theorem kX9_opensBy (l : Launch) (G : xG) (S : xS) (h0 : Nat) (p1 : Int32) (r : Int32) (S' : xS) (hk0 : xk Ym h0 = 9) (hM : mX9_opensBy S h0 p1 = some (r, S')) : xM l yX9_opensBy cX9_opensBy 2 (some .int) 3 64 G Ym [.ref (xad G h0), .int p1] S (xQi G Ym r S') := by
  refine x_start (own := RX9) (by decide +kernel) rfl (Nat.le_of_ble_eq_true rfl) ?_
  intro p e s m below meth c ls X hl hP hS
  obtain ⟨hx, hb, hml, hown, hts, hr, hlk, hK, hE, hJ⟩ := id X
  have hl : lv_has ls 2 [(0, .ref (xad G h0)), (1, .int p1)] := hl
  unfold mX9_opensBy at hM
  refine lv_aload_n hx hb dX9_opensBy_0 rfl (lv_at hl 0 rfl) ?_
  refine fgX9_18 X hP hk0 qw250 dX9_opensBy_1 ?_
  refine lv_bipush (v := 8) hx hb dX9_opensBy_4 (by decide) ?_
  refine lv_icmp_ne (tgt := 11) hx hb dX9_opensBy_6 (by decide) (fun c1 => ?_) (fun c1 => ?_)
  · replace hM := (if_neg c1).symm.trans hM
    refine lv_aload_n hx hb dX9_opensBy_11 rfl (lv_at hl 0 rfl) ?_
    refine lv_dup hx hb dX9_opensBy_12 rfl ?_
    refine fgX9_18 X hP hk0 qw250 dX9_opensBy_13 ?_
    refine lv_iconst (v := 1) hx hb dX9_opensBy_16 (by decide) ?_
    refine lv_iadd hx hb dX9_opensBy_17 ?_
    obtain ⟨S2, eS2, hM⟩ := xlet_ex hM
    refine fpX9_18 X hP hS hk0 qw250 dX9_opensBy_18 eS2 (fun H locs hP hS => ?_)
    refine lv_aload_n hx hb dX9_opensBy_21 rfl (lv_at hl 0 rfl) ?_
    refine lv_iload_n hx hb dX9_opensBy_22 rfl (lv_at hl 1 rfl) ?_
    obtain ⟨S3, eS3, hM⟩ := xb hM
    refine x_gov (x_runV (rest := []) X (kX9_push l G S2 h0 p1 S3 hk0 eS3) qw255 okX9_push ⟨Nat.le_of_ble_eq_true rfl, Nat.le_of_ble_eq_true rfl⟩ hk0 (by decide) rfl hP hS rfl hl.1 rfl (Nat.le_of_ble_eq_true rfl) dX9_opensBy_23) hS (fun H locs hP hS => ?_)
    refine lv_aload_n hx hb dX9_opensBy_26 rfl (lv_at hl 0 rfl) ?_
    obtain ⟨S4, eS4, hM⟩ := xb hM
    refine x_gov (x_runV (rest := []) X (kX9_nextToken l G S3 h0 S4 hk0 eS4) qw256 okX9_nextToken ⟨Nat.le_of_ble_eq_true rfl, Nat.le_of_ble_eq_true rfl⟩ hk0 (by decide) rfl hP hS rfl hl.1 rfl (Nat.le_of_ble_eq_true rfl) dX9_opensBy_27) hS (fun H locs hP hS => ?_)
    refine lv_iconst (v := 0) hx hb dX9_opensBy_30 (by decide) ?_
    exact x_iret X hP hS hM dX9_opensBy_31
  · replace hM := (if_pos c1).symm.trans hM
    refine lv_iconst (v := 3) hx hb dX9_opensBy_9 (by decide) ?_
    exact x_iret X hP hS hM dX9_opensBy_10

def mX9_isAppetite (S : xS) (h0 : Nat) : Option (Int32 × xS) := if (((gI S h0 7) - (gI S h0 8)) = 8 : Prop) then ((mX9_byteAt S h0 (gI S h0 8)).bind fun q2 => if (q2.1 = 97 : Prop) then ((mX9_byteAt q2.2 h0 ((gI q2.2 h0 8) + 1)).bind fun q4 => if (q4.1 = 112 : Prop) then ((mX9_byteAt q4.2 h0 ((gI q4.2 h0 8) + 2)).bind fun q6 => if (q6.1 = 112 : Prop) then ((mX9_byteAt q6.2 h0 ((gI q6.2 h0 8) + 3)).bind fun q8 => if (q8.1 = 101 : Prop) then ((mX9_byteAt q8.2 h0 ((gI q8.2 h0 8) + 4)).bind fun q10 => if (q10.1 = 116 : Prop) then ((mX9_byteAt q10.2 h0 ((gI q10.2 h0 8) + 5)).bind fun q12 => if (q12.1 = 105 : Prop) then ((mX9_byteAt q12.2 h0 ((gI q12.2 h0 8) + 6)).bind fun q14 => if (q14.1 = 116 : Prop) then ((mX9_byteAt q14.2 h0 ((gI q14.2 h0 8) + 7)).bind fun q16 => if (q16.1 = 101 : Prop) then (some (1, q16.2)) else (some (0, q16.2))) else (some (0, q14.2))) else (some (0, q12.2))) else (some (0, q10.2))) else (some (0, q8.2))) else (some (0, q6.2))) else (some (0, q4.2))) else (some (0, q2.2))) else (some (0, S))
set_option maxHeartbeats 4000000 in
set_option maxRecDepth 100000 in
theorem kX9_isAppetite (l : Launch) (G : xG) (S : xS) (h0 : Nat) (r : Int32) (S' : xS) (hk0 : xk Ym h0 = 9) (hM : mX9_isAppetite S h0 = some (r, S')) : xM l yX9_isAppetite cX9_isAppetite 1 (some .boolean) 1 21 G Ym [.ref (xad G h0)] S (xQi G Ym r S') := by
  refine x_start (own := RX9) (by decide +kernel) rfl (Nat.le_of_ble_eq_true rfl) ?_
  intro p e s m below meth c ls X hl hP hS
  obtain ⟨hx, hb, hml, hown, hts, hr, hlk, hK, hE, hJ⟩ := id X
  have hl : lv_has ls 1 [(0, .ref (xad G h0))] := hl
  unfold mX9_isAppetite at hM
  refine lv_aload_n hx hb dX9_isAppetite_0 rfl (lv_at hl 0 rfl) ?_
  refine fgX9_7 X hP hk0 qw232 dX9_isAppetite_1 ?_
  refine lv_aload_n hx hb dX9_isAppetite_4 rfl (lv_at hl 0 rfl) ?_
  refine fgX9_8 X hP hk0 qw234 dX9_isAppetite_5 ?_
  refine lv_isub hx hb dX9_isAppetite_8 ?_
  refine lv_bipush (v := 8) hx hb dX9_isAppetite_9 (by decide) ?_
  refine lv_icmp_ne (tgt := 72) hx hb dX9_isAppetite_11 (by decide) (fun c1 => ?_) (fun c1 => ?_)
  · replace hM := (if_neg c1).symm.trans hM
    refine lv_iconst (v := 0) hx hb dX9_isAppetite_72 (by decide) ?_
    exact x_zret X hP hS (Or.inl rfl) hM dX9_isAppetite_73
  · replace hM := (if_pos c1).symm.trans hM
    refine lv_aload_n hx hb dX9_isAppetite_14 rfl (lv_at hl 0 rfl) ?_
    refine lv_aload_n hx hb dX9_isAppetite_15 rfl (lv_at hl 0 rfl) ?_
    refine fgX9_8 X hP hk0 qw234 dX9_isAppetite_16 ?_
    obtain ⟨q2, eq2, hM⟩ := xb hM
    refine x_goi (x_runV (rest := []) X (kX9_byteAt l G S h0 (gI S h0 8) q2.1 q2.2 hk0 eq2) qw233 okX9_byteAt ⟨Nat.le_of_ble_eq_true rfl, Nat.le_of_ble_eq_true rfl⟩ hk0 (by decide) rfl hP hS rfl hl.1 rfl (Nat.le_of_ble_eq_true rfl) dX9_isAppetite_19) hS (fun H locs hP hS => ?_)
    refine lv_bipush (v := 97) hx hb dX9_isAppetite_22 (by decide) ?_
    refine lv_icmp_ne (tgt := 72) hx hb dX9_isAppetite_24 (by decide) (fun c3 => ?_) (fun c3 => ?_)
    · replace hM := (if_neg c3).symm.trans hM
      refine lv_iconst (v := 0) hx hb dX9_isAppetite_72 (by decide) ?_
      exact x_zret X hP hS (Or.inl rfl) hM dX9_isAppetite_73
    · replace hM := (if_pos c3).symm.trans hM
      refine lv_aload_n hx hb dX9_isAppetite_27 rfl (lv_at hl 0 rfl) ?_
      refine lv_aload_n hx hb dX9_isAppetite_28 rfl (lv_at hl 0 rfl) ?_
      refine fgX9_8 X hP hk0 qw234 dX9_isAppetite_29 ?_
      refine lv_iconst (v := 1) hx hb dX9_isAppetite_32 (by decide) ?_
      refine lv_iadd hx hb dX9_isAppetite_33 ?_
      obtain ⟨q4, eq4, hM⟩ := xb hM
      refine x_goi (x_runV (rest := []) X (kX9_byteAt l G q2.2 h0 ((gI q2.2 h0 8) + 1) q4.1 q4.2 hk0 eq4) qw233 okX9_byteAt ⟨Nat.le_of_ble_eq_true rfl, Nat.le_of_ble_eq_true rfl⟩ hk0 (by decide) rfl hP hS rfl hl.1 rfl (Nat.le_of_ble_eq_true rfl) dX9_isAppetite_34) hS (fun H locs hP hS => ?_)
      refine lv_bipush (v := 112) hx hb dX9_isAppetite_37 (by decide) ?_
      refine lv_icmp_ne (tgt := 72) hx hb dX9_isAppetite_39 (by decide) (fun c5 => ?_) (fun c5 => ?_)
      · replace hM := (if_neg c5).symm.trans hM
        refine lv_iconst (v := 0) hx hb dX9_isAppetite_72 (by decide) ?_
        exact x_zret X hP hS (Or.inl rfl) hM dX9_isAppetite_73
      · replace hM := (if_pos c5).symm.trans hM
        refine lv_aload_n hx hb dX9_isAppetite_42 rfl (lv_at hl 0 rfl) ?_
        refine lv_aload_n hx hb dX9_isAppetite_43 rfl (lv_at hl 0 rfl) ?_
        refine fgX9_8 X hP hk0 qw234 dX9_isAppetite_44 ?_
        refine lv_iconst (v := 2) hx hb dX9_isAppetite_47 (by decide) ?_
        refine lv_iadd hx hb dX9_isAppetite_48 ?_
        obtain ⟨q6, eq6, hM⟩ := xb hM
        refine x_goi (x_runV (rest := []) X (kX9_byteAt l G q4.2 h0 ((gI q4.2 h0 8) + 2) q6.1 q6.2 hk0 eq6) qw233 okX9_byteAt ⟨Nat.le_of_ble_eq_true rfl, Nat.le_of_ble_eq_true rfl⟩ hk0 (by decide) rfl hP hS rfl hl.1 rfl (Nat.le_of_ble_eq_true rfl) dX9_isAppetite_49) hS (fun H locs hP hS => ?_)
        refine lv_bipush (v := 112) hx hb dX9_isAppetite_52 (by decide) ?_
        refine lv_icmp_ne (tgt := 72) hx hb dX9_isAppetite_54 (by decide) (fun c7 => ?_) (fun c7 => ?_)
        · replace hM := (if_neg c7).symm.trans hM
          refine lv_iconst (v := 0) hx hb dX9_isAppetite_72 (by decide) ?_
          exact x_zret X hP hS (Or.inl rfl) hM dX9_isAppetite_73
        · replace hM := (if_pos c7).symm.trans hM
          refine lv_aload_n hx hb dX9_isAppetite_57 rfl (lv_at hl 0 rfl) ?_
          refine lv_aload_n hx hb dX9_isAppetite_58 rfl (lv_at hl 0 rfl) ?_
          refine fgX9_8 X hP hk0 qw234 dX9_isAppetite_59 ?_
          refine lv_iconst (v := 3) hx hb dX9_isAppetite_62 (by decide) ?_
          refine lv_iadd hx hb dX9_isAppetite_63 ?_
          obtain ⟨q8, eq8, hM⟩ := xb hM
          refine x_goi (x_runV (rest := []) X (kX9_byteAt l G q6.2 h0 ((gI q6.2 h0 8) + 3) q8.1 q8.2 hk0 eq8) qw233 okX9_byteAt ⟨Nat.le_of_ble_eq_true rfl, Nat.le_of_ble_eq_true rfl⟩ hk0 (by decide) rfl hP hS rfl hl.1 rfl (Nat.le_of_ble_eq_true rfl) dX9_isAppetite_64) hS (fun H locs hP hS => ?_)
          refine lv_bipush (v := 101) hx hb dX9_isAppetite_67 (by decide) ?_
          refine lv_icmp_eq (tgt := 74) hx hb dX9_isAppetite_69 (by decide) (fun c9 => ?_) (fun c9 => ?_)
          · replace hM := (if_pos c9).symm.trans hM
            refine lv_aload_n hx hb dX9_isAppetite_74 rfl (lv_at hl 0 rfl) ?_
            refine lv_aload_n hx hb dX9_isAppetite_75 rfl (lv_at hl 0 rfl) ?_
            refine fgX9_8 X hP hk0 qw234 dX9_isAppetite_76 ?_
            refine lv_iconst (v := 4) hx hb dX9_isAppetite_79 (by decide) ?_
            refine lv_iadd hx hb dX9_isAppetite_80 ?_
            obtain ⟨q10, eq10, hM⟩ := xb hM
            refine x_goi (x_runV (rest := []) X (kX9_byteAt l G q8.2 h0 ((gI q8.2 h0 8) + 4) q10.1 q10.2 hk0 eq10) qw233 okX9_byteAt ⟨Nat.le_of_ble_eq_true rfl, Nat.le_of_ble_eq_true rfl⟩ hk0 (by decide) rfl hP hS rfl hl.1 rfl (Nat.le_of_ble_eq_true rfl) dX9_isAppetite_81) hS (fun H locs hP hS => ?_)
            refine lv_bipush (v := 116) hx hb dX9_isAppetite_84 (by decide) ?_
            refine lv_icmp_ne (tgt := 140) hx hb dX9_isAppetite_86 (by decide) (fun c11 => ?_) (fun c11 => ?_)
            · replace hM := (if_neg c11).symm.trans hM
              refine lv_iconst (v := 0) hx hb dX9_isAppetite_140 (by decide) ?_
              exact x_zret X hP hS (Or.inl rfl) hM dX9_isAppetite_141
            · replace hM := (if_pos c11).symm.trans hM
              refine lv_aload_n hx hb dX9_isAppetite_89 rfl (lv_at hl 0 rfl) ?_
              refine lv_aload_n hx hb dX9_isAppetite_90 rfl (lv_at hl 0 rfl) ?_
              refine fgX9_8 X hP hk0 qw234 dX9_isAppetite_91 ?_
              refine lv_iconst (v := 5) hx hb dX9_isAppetite_94 (by decide) ?_
              refine lv_iadd hx hb dX9_isAppetite_95 ?_
              obtain ⟨q12, eq12, hM⟩ := xb hM
              refine x_goi (x_runV (rest := []) X (kX9_byteAt l G q10.2 h0 ((gI q10.2 h0 8) + 5) q12.1 q12.2 hk0 eq12) qw233 okX9_byteAt ⟨Nat.le_of_ble_eq_true rfl, Nat.le_of_ble_eq_true rfl⟩ hk0 (by decide) rfl hP hS rfl hl.1 rfl (Nat.le_of_ble_eq_true rfl) dX9_isAppetite_96) hS (fun H locs hP hS => ?_)
              refine lv_bipush (v := 105) hx hb dX9_isAppetite_99 (by decide) ?_
              refine lv_icmp_ne (tgt := 140) hx hb dX9_isAppetite_101 (by decide) (fun c13 => ?_) (fun c13 => ?_)
              · replace hM := (if_neg c13).symm.trans hM
                refine lv_iconst (v := 0) hx hb dX9_isAppetite_140 (by decide) ?_
                exact x_zret X hP hS (Or.inl rfl) hM dX9_isAppetite_141
              · replace hM := (if_pos c13).symm.trans hM
                refine lv_aload_n hx hb dX9_isAppetite_104 rfl (lv_at hl 0 rfl) ?_
                refine lv_aload_n hx hb dX9_isAppetite_105 rfl (lv_at hl 0 rfl) ?_
                refine fgX9_8 X hP hk0 qw234 dX9_isAppetite_106 ?_
                refine lv_bipush (v := 6) hx hb dX9_isAppetite_109 (by decide) ?_
                refine lv_iadd hx hb dX9_isAppetite_111 ?_
                obtain ⟨q14, eq14, hM⟩ := xb hM
                refine x_goi (x_runV (rest := []) X (kX9_byteAt l G q12.2 h0 ((gI q12.2 h0 8) + 6) q14.1 q14.2 hk0 eq14) qw233 okX9_byteAt ⟨Nat.le_of_ble_eq_true rfl, Nat.le_of_ble_eq_true rfl⟩ hk0 (by decide) rfl hP hS rfl hl.1 rfl (Nat.le_of_ble_eq_true rfl) dX9_isAppetite_112) hS (fun H locs hP hS => ?_)
                refine lv_bipush (v := 116) hx hb dX9_isAppetite_115 (by decide) ?_
                refine lv_icmp_ne (tgt := 140) hx hb dX9_isAppetite_117 (by decide) (fun c15 => ?_) (fun c15 => ?_)
                · replace hM := (if_neg c15).symm.trans hM
                  refine lv_iconst (v := 0) hx hb dX9_isAppetite_140 (by decide) ?_
                  exact x_zret X hP hS (Or.inl rfl) hM dX9_isAppetite_141
                · replace hM := (if_pos c15).symm.trans hM
                  refine lv_aload_n hx hb dX9_isAppetite_120 rfl (lv_at hl 0 rfl) ?_
                  refine lv_aload_n hx hb dX9_isAppetite_121 rfl (lv_at hl 0 rfl) ?_
                  refine fgX9_8 X hP hk0 qw234 dX9_isAppetite_122 ?_
                  refine lv_bipush (v := 7) hx hb dX9_isAppetite_125 (by decide) ?_
                  refine lv_iadd hx hb dX9_isAppetite_127 ?_
                  obtain ⟨q16, eq16, hM⟩ := xb hM
                  refine x_goi (x_runV (rest := []) X (kX9_byteAt l G q14.2 h0 ((gI q14.2 h0 8) + 7) q16.1 q16.2 hk0 eq16) qw233 okX9_byteAt ⟨Nat.le_of_ble_eq_true rfl, Nat.le_of_ble_eq_true rfl⟩ hk0 (by decide) rfl hP hS rfl hl.1 rfl (Nat.le_of_ble_eq_true rfl) dX9_isAppetite_128) hS (fun H locs hP hS => ?_)
                  refine lv_bipush (v := 101) hx hb dX9_isAppetite_131 (by decide) ?_
                  refine lv_icmp_ne (tgt := 140) hx hb dX9_isAppetite_133 (by decide) (fun c17 => ?_) (fun c17 => ?_)
                  · replace hM := (if_neg c17).symm.trans hM
                    refine lv_iconst (v := 0) hx hb dX9_isAppetite_140 (by decide) ?_
                    exact x_zret X hP hS (Or.inl rfl) hM dX9_isAppetite_141
                  · replace hM := (if_pos c17).symm.trans hM
                    refine lv_iconst (v := 1) hx hb dX9_isAppetite_136 (by decide) ?_
                    refine lv_goto (tgt := 141) hx hb dX9_isAppetite_137 (by decide) ?_
                    exact x_zret X hP hS (Or.inr rfl) hM dX9_isAppetite_141
          · replace hM := (if_neg c9).symm.trans hM
            refine lv_iconst (v := 0) hx hb dX9_isAppetite_72 (by decide) ?_
            exact x_zret X hP hS (Or.inl rfl) hM dX9_isAppetite_73

def mX9_nameOf (S : xS) (h0 : Nat) : Option (Int32 × xS) := if ((gI S h0 9) = 2 : Prop) then ((mX9_w3 S 100 97 121).bind fun q2 => if ((lg_cmp (gJ S h0 11) q2.1) = 0 : Prop) then (some (0, q2.2)) else ((mX9_w5 q2.2 116 97 98 108 101).bind fun q4 => if ((lg_cmp (gJ q2.2 h0 11) q4.1) = 0 : Prop) then (some (1, q4.2)) else ((mX9_w4 q4.2 100 97 119 110).bind fun q6 => if ((lg_cmp (gJ q4.2 h0 11) q6.1) = 0 : Prop) then (some (2, q6.2)) else ((mX9_w6 q6.2 115 105 115 116 101 114).bind fun q8 => if ((lg_cmp (gJ q6.2 h0 11) q8.1) = 0 : Prop) then (some (3, q8.2)) else ((mX9_isAppetite q8.2 h0).bind fun q10 => if (q10.1 = 0 : Prop) then ((mX9_w4 q10.2 108 101 102 116).bind fun q12 => if ((lg_cmp (gJ q10.2 h0 11) q12.1) = 0 : Prop) then (some (5, q12.2)) else (some ((-1), q12.2))) else (some (4, q10.2))))))) else (some ((-1), S))
set_option maxHeartbeats 4000000 in
set_option maxRecDepth 100000 in
theorem kX9_nameOf (l : Launch) (G : xG) (S : xS) (h0 : Nat) (r : Int32) (S' : xS) (hk0 : xk Ym h0 = 9) (hM : mX9_nameOf S h0 = some (r, S')) : xM l yX9_nameOf cX9_nameOf 1 (some .int) 3 71 G Ym [.ref (xad G h0)] S (xQi G Ym r S') := by
  refine x_start (own := RX9) (by decide +kernel) rfl (Nat.le_of_ble_eq_true rfl) ?_
  intro p e s m below meth c ls X hl hP hS
  obtain ⟨hx, hb, hml, hown, hts, hr, hlk, hK, hE, hJ⟩ := id X
  have hl : lv_has ls 1 [(0, .ref (xad G h0))] := hl
  unfold mX9_nameOf at hM
  refine lv_aload_n hx hb dX9_nameOf_0 rfl (lv_at hl 0 rfl) ?_
  refine fgX9_9 X hP hk0 qw237 dX9_nameOf_1 ?_
  refine lv_iconst (v := 2) hx hb dX9_nameOf_4 (by decide) ?_
  refine lv_icmp_eq (tgt := 10) hx hb dX9_nameOf_5 (by decide) (fun c1 => ?_) (fun c1 => ?_)
  · replace hM := (if_pos c1).symm.trans hM
    refine lv_aload_n hx hb dX9_nameOf_10 rfl (lv_at hl 0 rfl) ?_
    refine fgX9_11 X hP hk0 qw238 dX9_nameOf_11 ?_
    refine lv_bipush (v := 100) hx hb dX9_nameOf_14 (by decide) ?_
    refine lv_bipush (v := 97) hx hb dX9_nameOf_16 (by decide) ?_
    refine lv_bipush (v := 121) hx hb dX9_nameOf_18 (by decide) ?_
    obtain ⟨q2, eq2, hM⟩ := xb hM
    refine x_gol (x_runS (rest := [.long (gJ S h0 11)]) X (kX9_w3 l G S 100 97 121 q2.1 q2.2  eq2) qw241 okX9_w3 ⟨Nat.le_of_ble_eq_true rfl, Nat.le_of_ble_eq_true rfl⟩ hP hS rfl hl.1 rfl (Nat.le_of_ble_eq_true rfl) dX9_nameOf_20) hS (fun H locs hP hS => ?_)
    refine W.lcmp hx hb dX9_nameOf_23 ?_
    refine lv_if_ne (tgt := 29) hx hb dX9_nameOf_24 (by decide) (fun c3 => ?_) (fun c3 => ?_)
    · replace hM := (if_neg c3).symm.trans hM
      refine lv_aload_n hx hb dX9_nameOf_29 rfl (lv_at hl 0 rfl) ?_
      refine fgX9_11 X hP hk0 qw238 dX9_nameOf_30 ?_
      refine lv_bipush (v := 116) hx hb dX9_nameOf_33 (by decide) ?_
      refine lv_bipush (v := 97) hx hb dX9_nameOf_35 (by decide) ?_
      refine lv_bipush (v := 98) hx hb dX9_nameOf_37 (by decide) ?_
      refine lv_bipush (v := 108) hx hb dX9_nameOf_39 (by decide) ?_
      refine lv_bipush (v := 101) hx hb dX9_nameOf_41 (by decide) ?_
      obtain ⟨q4, eq4, hM⟩ := xb hM
      refine x_gol (x_runS (rest := [.long (gJ q2.2 h0 11)]) X (kX9_w5 l G q2.2 116 97 98 108 101 q4.1 q4.2  eq4) qw242 okX9_w5 ⟨Nat.le_of_ble_eq_true rfl, Nat.le_of_ble_eq_true rfl⟩ hP hS rfl hl.1 rfl (Nat.le_of_ble_eq_true rfl) dX9_nameOf_43) hS (fun H locs hP hS => ?_)
      refine W.lcmp hx hb dX9_nameOf_46 ?_
      refine lv_if_ne (tgt := 52) hx hb dX9_nameOf_47 (by decide) (fun c5 => ?_) (fun c5 => ?_)
      · replace hM := (if_neg c5).symm.trans hM
        refine lv_aload_n hx hb dX9_nameOf_52 rfl (lv_at hl 0 rfl) ?_
        refine fgX9_11 X hP hk0 qw238 dX9_nameOf_53 ?_
        refine lv_bipush (v := 100) hx hb dX9_nameOf_56 (by decide) ?_
        refine lv_bipush (v := 97) hx hb dX9_nameOf_58 (by decide) ?_
        refine lv_bipush (v := 119) hx hb dX9_nameOf_60 (by decide) ?_
        refine lv_bipush (v := 110) hx hb dX9_nameOf_62 (by decide) ?_
        obtain ⟨q6, eq6, hM⟩ := xb hM
        refine x_gol (x_runS (rest := [.long (gJ q4.2 h0 11)]) X (kX9_w4 l G q4.2 100 97 119 110 q6.1 q6.2  eq6) qw257 okX9_w4 ⟨Nat.le_of_ble_eq_true rfl, Nat.le_of_ble_eq_true rfl⟩ hP hS rfl hl.1 rfl (Nat.le_of_ble_eq_true rfl) dX9_nameOf_64) hS (fun H locs hP hS => ?_)
        refine W.lcmp hx hb dX9_nameOf_67 ?_
        refine lv_if_ne (tgt := 73) hx hb dX9_nameOf_68 (by decide) (fun c7 => ?_) (fun c7 => ?_)
        · replace hM := (if_neg c7).symm.trans hM
          refine lv_aload_n hx hb dX9_nameOf_73 rfl (lv_at hl 0 rfl) ?_
          refine fgX9_11 X hP hk0 qw238 dX9_nameOf_74 ?_
          refine lv_bipush (v := 115) hx hb dX9_nameOf_77 (by decide) ?_
          refine lv_bipush (v := 105) hx hb dX9_nameOf_79 (by decide) ?_
          refine lv_bipush (v := 115) hx hb dX9_nameOf_81 (by decide) ?_
          refine lv_bipush (v := 116) hx hb dX9_nameOf_83 (by decide) ?_
          refine lv_bipush (v := 101) hx hb dX9_nameOf_85 (by decide) ?_
          refine lv_bipush (v := 114) hx hb dX9_nameOf_87 (by decide) ?_
          obtain ⟨q8, eq8, hM⟩ := xb hM
          refine x_gol (x_runS (rest := [.long (gJ q6.2 h0 11)]) X (kX9_w6 l G q6.2 115 105 115 116 101 114 q8.1 q8.2  eq8) qw258 okX9_w6 ⟨Nat.le_of_ble_eq_true rfl, Nat.le_of_ble_eq_true rfl⟩ hP hS rfl hl.1 rfl (Nat.le_of_ble_eq_true rfl) dX9_nameOf_89) hS (fun H locs hP hS => ?_)
          refine W.lcmp hx hb dX9_nameOf_92 ?_
          refine lv_if_ne (tgt := 98) hx hb dX9_nameOf_93 (by decide) (fun c9 => ?_) (fun c9 => ?_)
          · replace hM := (if_neg c9).symm.trans hM
            refine lv_aload_n hx hb dX9_nameOf_98 rfl (lv_at hl 0 rfl) ?_
            obtain ⟨q10, eq10, hM⟩ := xb hM
            refine x_goi (x_runV (rest := []) X (kX9_isAppetite l G q8.2 h0 q10.1 q10.2 hk0 eq10) qw259 okX9_isAppetite ⟨Nat.le_of_ble_eq_true rfl, Nat.le_of_ble_eq_true rfl⟩ hk0 (by decide) rfl hP hS rfl hl.1 rfl (Nat.le_of_ble_eq_true rfl) dX9_nameOf_99) hS (fun H locs hP hS => ?_)
            refine lv_if_eq (tgt := 109) hx hb dX9_nameOf_102 (by decide) (fun c11 => ?_) (fun c11 => ?_)
            · replace hM := (if_pos c11).symm.trans hM
              refine lv_aload_n hx hb dX9_nameOf_109 rfl (lv_at hl 0 rfl) ?_
              refine fgX9_11 X hP hk0 qw238 dX9_nameOf_110 ?_
              refine lv_bipush (v := 108) hx hb dX9_nameOf_113 (by decide) ?_
              refine lv_bipush (v := 101) hx hb dX9_nameOf_115 (by decide) ?_
              refine lv_bipush (v := 102) hx hb dX9_nameOf_117 (by decide) ?_
              refine lv_bipush (v := 116) hx hb dX9_nameOf_119 (by decide) ?_
              obtain ⟨q12, eq12, hM⟩ := xb hM
              refine x_gol (x_runS (rest := [.long (gJ q10.2 h0 11)]) X (kX9_w4 l G q10.2 108 101 102 116 q12.1 q12.2  eq12) qw257 okX9_w4 ⟨Nat.le_of_ble_eq_true rfl, Nat.le_of_ble_eq_true rfl⟩ hP hS rfl hl.1 rfl (Nat.le_of_ble_eq_true rfl) dX9_nameOf_121) hS (fun H locs hP hS => ?_)
              refine W.lcmp hx hb dX9_nameOf_124 ?_
              refine lv_if_ne (tgt := 132) hx hb dX9_nameOf_125 (by decide) (fun c13 => ?_) (fun c13 => ?_)
              · replace hM := (if_neg c13).symm.trans hM
                refine lv_iconst (v := (-1)) hx hb dX9_nameOf_132 (by decide) ?_
                exact x_iret X hP hS hM dX9_nameOf_133
              · replace hM := (if_pos c13).symm.trans hM
                refine lv_iconst (v := 5) hx hb dX9_nameOf_128 (by decide) ?_
                refine lv_goto (tgt := 133) hx hb dX9_nameOf_129 (by decide) ?_
                exact x_iret X hP hS hM dX9_nameOf_133
            · replace hM := (if_neg c11).symm.trans hM
              refine lv_iconst (v := 4) hx hb dX9_nameOf_105 (by decide) ?_
              refine lv_goto (tgt := 133) hx hb dX9_nameOf_106 (by decide) ?_
              exact x_iret X hP hS hM dX9_nameOf_133
          · replace hM := (if_pos c9).symm.trans hM
            refine lv_iconst (v := 3) hx hb dX9_nameOf_96 (by decide) ?_
            exact x_iret X hP hS hM dX9_nameOf_97
        · replace hM := (if_pos c7).symm.trans hM
          refine lv_iconst (v := 2) hx hb dX9_nameOf_71 (by decide) ?_
          exact x_iret X hP hS hM dX9_nameOf_72
      · replace hM := (if_pos c5).symm.trans hM
        refine lv_iconst (v := 1) hx hb dX9_nameOf_50 (by decide) ?_
        exact x_iret X hP hS hM dX9_nameOf_51
    · replace hM := (if_pos c3).symm.trans hM
      refine lv_iconst (v := 0) hx hb dX9_nameOf_27 (by decide) ?_
      exact x_iret X hP hS hM dX9_nameOf_28
  · replace hM := (if_neg c1).symm.trans hM
    refine lv_iconst (v := (-1)) hx hb dX9_nameOf_8 (by decide) ?_
    exact x_iret X hP hS hM dX9_nameOf_9

def mX9_isOf (S : xS) (h0 : Nat) (p1 : Int32) : Option (Int32 × xS) := if (p1 < 3 : Prop) then (some (1, S)) else (if ((gI S h0 20) = 1 : Prop) then (some (1, S)) else (some (0, S)))
set_option maxHeartbeats 4000000 in
set_option maxRecDepth 100000 in
theorem kX9_isOf (l : Launch) (G : xG) (S : xS) (h0 : Nat) (p1 : Int32) (r : Int32) (S' : xS) (hk0 : xk Ym h0 = 9) (hM : mX9_isOf S h0 p1 = some (r, S')) : xM l yX9_isOf cX9_isOf 2 (some .boolean) 0 0 G Ym [.ref (xad G h0), .int p1] S (xQi G Ym r S') := by
  refine x_start (own := RX9) (by decide +kernel) rfl (Nat.le_of_ble_eq_true rfl) ?_
  intro p e s m below meth c ls X hl hP hS
  obtain ⟨hx, hb, hml, hown, hts, hr, hlk, hK, hE, hJ⟩ := id X
  have hl : lv_has ls 2 [(0, .ref (xad G h0)), (1, .int p1)] := hl
  unfold mX9_isOf at hM
  refine lv_iload_n hx hb dX9_isOf_0 rfl (lv_at hl 1 rfl) ?_
  refine lv_iconst (v := 3) hx hb dX9_isOf_1 (by decide) ?_
  refine lv_icmp_lt (tgt := 13) hx hb dX9_isOf_2 (by decide) (fun c1 => ?_) (fun c1 => ?_)
  · replace hM := (if_pos c1).symm.trans hM
    refine lv_iconst (v := 1) hx hb dX9_isOf_13 (by decide) ?_
    refine lv_goto (tgt := 18) hx hb dX9_isOf_14 (by decide) ?_
    exact x_zret X hP hS (Or.inr rfl) hM dX9_isOf_18
  · replace hM := (if_neg c1).symm.trans hM
    refine lv_aload_n hx hb dX9_isOf_5 rfl (lv_at hl 0 rfl) ?_
    refine fgX9_20 X hP hk0 qw260 dX9_isOf_6 ?_
    refine lv_iconst (v := 1) hx hb dX9_isOf_9 (by decide) ?_
    refine lv_icmp_ne (tgt := 17) hx hb dX9_isOf_10 (by decide) (fun c2 => ?_) (fun c2 => ?_)
    · replace hM := (if_neg c2).symm.trans hM
      refine lv_iconst (v := 0) hx hb dX9_isOf_17 (by decide) ?_
      exact x_zret X hP hS (Or.inl rfl) hM dX9_isOf_18
    · replace hM := (if_pos c2).symm.trans hM
      refine lv_iconst (v := 1) hx hb dX9_isOf_13 (by decide) ?_
      refine lv_goto (tgt := 18) hx hb dX9_isOf_14 (by decide) ?_
      exact x_zret X hP hS (Or.inr rfl) hM dX9_isOf_18

def jX9_beginOne_151 (S : xS) (h0 : Nat) (v1 : Int32) : Option (Int32 × xS) := (mX9_w3 S 110 111 116).bind fun q1 => (mX9_isWord q1.2 h0 q1.1).bind fun q2 => if (q2.1 = 0 : Prop) then (some (1, q2.2)) else ((mX9_isAskAhead q2.2 h0 v1).bind fun q4 => if (q4.1 = 0 : Prop) then (some (1, q4.2)) else ((mX9_opensBy q4.2 h0 20).bind fun q6 => some (q6.1, q6.2)))
set_option maxHeartbeats 4000000 in
set_option maxRecDepth 100000 in
theorem wX9_beginOne_151 {p : Program} {l : Launch} {e : Env} {s : State} {m : MethodId} {args : Array Value} {below : List Frame} {meth : Method} {c : Code} {G : xG} {r : Int32} {S' : xS} (X : xX p s m args meth c cX9_beginOne 3 (some .int) RX9 G Ym) : ∀ (S : xS) (h0 : Nat) (v1 : Int32) (H : Heap) (locs : List Loc) (ls : Array Slot), jX9_beginOne_151  S h0 v1 = some (r, S') → xk Ym h0 = 9 → xP G Ym S H → va_S (xA G Ym) s.heap H locs → lv_has ls 3 [(0, .ref (xad G h0)), (1, .int v1)] → W p l e (xr 4 91) s m args below meth c H locs 0 0 (MQ below (xQi G Ym r S') args s 0 0 (xA G Ym)) (F0 m 151 ls []) := by
  obtain ⟨hx, hb, hml, hown, hts, hr, hlk, hK, hE, hJ⟩ := id X
  intro S h0 v1 H locs ls hM hk0 hP hS hl
  unfold jX9_beginOne_151 at hM
  refine lv_aload_n hx hb dX9_beginOne_151 rfl (lv_at hl 0 rfl) ?_
  refine lv_bipush (v := 110) hx hb dX9_beginOne_152 (by decide) ?_
  refine lv_bipush (v := 111) hx hb dX9_beginOne_154 (by decide) ?_
  refine lv_bipush (v := 116) hx hb dX9_beginOne_156 (by decide) ?_
  obtain ⟨q1, eq1, hM⟩ := xb hM
  refine x_gol (x_runS (rest := [.ref (xad G h0)]) X (kX9_w3 l G S 110 111 116 q1.1 q1.2  eq1) qw241 okX9_w3 ⟨Nat.le_of_ble_eq_true rfl, Nat.le_of_ble_eq_true rfl⟩ hP hS rfl hl.1 rfl (Nat.le_of_ble_eq_true rfl) dX9_beginOne_158) hS (fun H locs hP hS => ?_)
  obtain ⟨q2, eq2, hM⟩ := xb hM
  refine x_goi (x_runV (rest := []) X (kX9_isWord l G q1.2 h0 q1.1 q2.1 q2.2 hk0 eq2) qw265 okX9_isWord ⟨Nat.le_of_ble_eq_true rfl, Nat.le_of_ble_eq_true rfl⟩ hk0 (by decide) rfl hP hS rfl hl.1 rfl (Nat.le_of_ble_eq_true rfl) dX9_beginOne_161) hS (fun H locs hP hS => ?_)
  refine lv_if_eq (tgt := 184) hx hb dX9_beginOne_164 (by decide) (fun c3 => ?_) (fun c3 => ?_)
  · replace hM := (if_pos c3).symm.trans hM
    refine lv_iconst (v := 1) hx hb dX9_beginOne_184 (by decide) ?_
    exact x_iret X hP hS hM dX9_beginOne_185
  · replace hM := (if_neg c3).symm.trans hM
    refine lv_aload_n hx hb dX9_beginOne_167 rfl (lv_at hl 0 rfl) ?_
    refine lv_iload_n hx hb dX9_beginOne_168 rfl (lv_at hl 1 rfl) ?_
    obtain ⟨q4, eq4, hM⟩ := xb hM
    refine x_goi (x_runV (rest := []) X (kX9_isAskAhead l G q2.2 h0 v1 q4.1 q4.2 hk0 eq4) qw266 okX9_isAskAhead ⟨Nat.le_of_ble_eq_true rfl, Nat.le_of_ble_eq_true rfl⟩ hk0 (by decide) rfl hP hS rfl hl.1 rfl (Nat.le_of_ble_eq_true rfl) dX9_beginOne_169) hS (fun H locs hP hS => ?_)
    refine lv_if_eq (tgt := 184) hx hb dX9_beginOne_172 (by decide) (fun c5 => ?_) (fun c5 => ?_)
    · replace hM := (if_pos c5).symm.trans hM
      refine lv_iconst (v := 1) hx hb dX9_beginOne_184 (by decide) ?_
      exact x_iret X hP hS hM dX9_beginOne_185
    · replace hM := (if_neg c5).symm.trans hM
      refine lv_aload_n hx hb dX9_beginOne_175 rfl (lv_at hl 0 rfl) ?_
      refine lv_bipush (v := 20) hx hb dX9_beginOne_176 (by decide) ?_
      obtain ⟨q6, eq6, hM⟩ := xb hM
      refine x_goi (x_runV (rest := []) X (kX9_opensBy l G q4.2 h0 20 q6.1 q6.2 hk0 eq6) qw264 okX9_opensBy ⟨Nat.le_of_ble_eq_true rfl, Nat.le_of_ble_eq_true rfl⟩ hk0 (by decide) rfl hP hS rfl hl.1 rfl (Nat.le_of_ble_eq_true rfl) dX9_beginOne_178) hS (fun H locs hP hS => ?_)
      refine lv_goto (tgt := 185) hx hb dX9_beginOne_181 (by decide) ?_
      exact x_iret X hP hS hM dX9_beginOne_185
def jX9_beginOne_81 (S : xS) (h0 : Nat) (t0 : Int32) (t1 : Int32) (t2 : Nat) : Option (Int32 × xS) := (mX9_emit S t2 t1 t0).bind fun S1 => (mX9_nextToken S1 h0).bind fun S2 => (mX9_whole S2 h0).bind fun S3 => some (0, S3)
set_option maxHeartbeats 4000000 in
set_option maxRecDepth 100000 in
theorem wX9_beginOne_81 {p : Program} {l : Launch} {e : Env} {s : State} {m : MethodId} {args : Array Value} {below : List Frame} {meth : Method} {c : Code} {G : xG} {r : Int32} {S' : xS} (X : xX p s m args meth c cX9_beginOne 3 (some .int) RX9 G Ym) : ∀ (S : xS) (h0 : Nat) (t0 : Int32) (t1 : Int32) (t2 : Nat) (H : Heap) (locs : List Loc) (ls : Array Slot), jX9_beginOne_81  S h0 t0 t1 t2 = some (r, S') → xk Ym h0 = 9 → xk Ym t2 = 9 → xP G Ym S H → va_S (xA G Ym) s.heap H locs → lv_has ls 3 [(0, .ref (xad G h0))] → W p l e (xr 4 91) s m args below meth c H locs 0 0 (MQ below (xQi G Ym r S') args s 0 0 (xA G Ym)) (F0 m 81 ls [.int t0, .int t1, .ref (xad G t2)]) := by
  obtain ⟨hx, hb, hml, hown, hts, hr, hlk, hK, hE, hJ⟩ := id X
  intro S h0 t0 t1 t2 H locs ls hM hk0 hkt2 hP hS hl
  unfold jX9_beginOne_81 at hM
  obtain ⟨S1, eS1, hM⟩ := xb hM
  refine x_gov (x_runV (rest := []) X (kX9_emit l G S t2 t1 t0 S1 hkt2 eS1) qw249 okX9_emit ⟨Nat.le_of_ble_eq_true rfl, Nat.le_of_ble_eq_true rfl⟩ hkt2 (by decide) rfl hP hS rfl hl.1 rfl (Nat.le_of_ble_eq_true rfl) dX9_beginOne_81) hS (fun H locs hP hS => ?_)
  refine lv_aload_n hx hb dX9_beginOne_84 rfl (lv_at hl 0 rfl) ?_
  obtain ⟨S2, eS2, hM⟩ := xb hM
  refine x_gov (x_runV (rest := []) X (kX9_nextToken l G S1 h0 S2 hk0 eS2) qw256 okX9_nextToken ⟨Nat.le_of_ble_eq_true rfl, Nat.le_of_ble_eq_true rfl⟩ hk0 (by decide) rfl hP hS rfl hl.1 rfl (Nat.le_of_ble_eq_true rfl) dX9_beginOne_85) hS (fun H locs hP hS => ?_)
  refine lv_aload_n hx hb dX9_beginOne_88 rfl (lv_at hl 0 rfl) ?_
  obtain ⟨S3, eS3, hM⟩ := xb hM
  refine x_gov (x_runV (rest := []) X (kX9_whole l G S2 h0 S3 hk0 eS3) qw267 okX9_whole ⟨Nat.le_of_ble_eq_true rfl, Nat.le_of_ble_eq_true rfl⟩ hk0 (by decide) rfl hP hS rfl hl.1 rfl (Nat.le_of_ble_eq_true rfl) dX9_beginOne_89) hS (fun H locs hP hS => ?_)
  refine lv_iconst (v := 0) hx hb dX9_beginOne_92 (by decide) ?_
  exact x_iret X hP hS hM dX9_beginOne_93
def jX9_beginOne_65 (S : xS) (h0 : Nat) (v2 : Int32) (t0 : Int32) (t1 : Nat) : Option (Int32 × xS) := if ((gI S h0 9) = 1 : Prop) then (jX9_beginOne_81  S h0 (gI S h0 10) t0 t1) else (jX9_beginOne_81  S h0 v2 t0 t1)
set_option maxHeartbeats 4000000 in
set_option maxRecDepth 100000 in
theorem wX9_beginOne_65 {p : Program} {l : Launch} {e : Env} {s : State} {m : MethodId} {args : Array Value} {below : List Frame} {meth : Method} {c : Code} {G : xG} {r : Int32} {S' : xS} (X : xX p s m args meth c cX9_beginOne 3 (some .int) RX9 G Ym) : ∀ (S : xS) (h0 : Nat) (v2 : Int32) (t0 : Int32) (t1 : Nat) (H : Heap) (locs : List Loc) (ls : Array Slot), jX9_beginOne_65  S h0 v2 t0 t1 = some (r, S') → xk Ym h0 = 9 → xk Ym t1 = 9 → xP G Ym S H → va_S (xA G Ym) s.heap H locs → lv_has ls 3 [(0, .ref (xad G h0)), (2, .int v2)] → W p l e (xr 4 91) s m args below meth c H locs 0 0 (MQ below (xQi G Ym r S') args s 0 0 (xA G Ym)) (F0 m 65 ls [.int t0, .ref (xad G t1)]) := by
  obtain ⟨hx, hb, hml, hown, hts, hr, hlk, hK, hE, hJ⟩ := id X
  intro S h0 v2 t0 t1 H locs ls hM hk0 hkt1 hP hS hl
  unfold jX9_beginOne_65 at hM
  refine lv_aload_n hx hb dX9_beginOne_65 rfl (lv_at hl 0 rfl) ?_
  refine fgX9_9 X hP hk0 qw237 dX9_beginOne_66 ?_
  refine lv_iconst (v := 1) hx hb dX9_beginOne_69 (by decide) ?_
  refine lv_icmp_ne (tgt := 80) hx hb dX9_beginOne_70 (by decide) (fun c1 => ?_) (fun c1 => ?_)
  · replace hM := (if_neg c1).symm.trans hM
    refine lv_iload_n hx hb dX9_beginOne_80 rfl (lv_at hl 1 rfl) ?_
    exact wX9_beginOne_81 X  S h0 v2 t0 t1 _ _ _ hM hk0 hkt1 hP hS (lv_sub hl [0] rfl)
  · replace hM := (if_pos c1).symm.trans hM
    refine lv_aload_n hx hb dX9_beginOne_73 rfl (lv_at hl 0 rfl) ?_
    refine fgX9_10 X hP hk0 qw239 dX9_beginOne_74 ?_
    refine lv_goto (tgt := 81) hx hb dX9_beginOne_77 (by decide) ?_
    exact wX9_beginOne_81 X  S h0 (gI S h0 10) t0 t1 _ _ _ hM hk0 hkt1 hP hS (lv_sub hl [0] rfl)
def jX9_beginOne_51 (S : xS) (h0 : Nat) (v2 : Int32) : Option (Int32 × xS) := if ((gI S h0 9) = 1 : Prop) then (jX9_beginOne_65  S h0 v2 0 h0) else (jX9_beginOne_65  S h0 v2 1 h0)
set_option maxHeartbeats 4000000 in
set_option maxRecDepth 100000 in
theorem wX9_beginOne_51 {p : Program} {l : Launch} {e : Env} {s : State} {m : MethodId} {args : Array Value} {below : List Frame} {meth : Method} {c : Code} {G : xG} {r : Int32} {S' : xS} (X : xX p s m args meth c cX9_beginOne 3 (some .int) RX9 G Ym) : ∀ (S : xS) (h0 : Nat) (v2 : Int32) (H : Heap) (locs : List Loc) (ls : Array Slot), jX9_beginOne_51  S h0 v2 = some (r, S') → xk Ym h0 = 9 → xP G Ym S H → va_S (xA G Ym) s.heap H locs → lv_has ls 3 [(0, .ref (xad G h0)), (2, .int v2)] → W p l e (xr 4 91) s m args below meth c H locs 0 0 (MQ below (xQi G Ym r S') args s 0 0 (xA G Ym)) (F0 m 51 ls []) := by
  obtain ⟨hx, hb, hml, hown, hts, hr, hlk, hK, hE, hJ⟩ := id X
  intro S h0 v2 H locs ls hM hk0 hP hS hl
  unfold jX9_beginOne_51 at hM
  refine lv_aload_n hx hb dX9_beginOne_51 rfl (lv_at hl 0 rfl) ?_
  refine lv_aload_n hx hb dX9_beginOne_52 rfl (lv_at hl 0 rfl) ?_
  refine fgX9_9 X hP hk0 qw237 dX9_beginOne_53 ?_
  refine lv_iconst (v := 1) hx hb dX9_beginOne_56 (by decide) ?_
  refine lv_icmp_ne (tgt := 64) hx hb dX9_beginOne_57 (by decide) (fun c1 => ?_) (fun c1 => ?_)
  · replace hM := (if_neg c1).symm.trans hM
    refine lv_iconst (v := 1) hx hb dX9_beginOne_64 (by decide) ?_
    exact wX9_beginOne_65 X  S h0 v2 1 h0 _ _ _ hM hk0 hk0 hP hS (lv_sub hl [0, 1] rfl)
  · replace hM := (if_pos c1).symm.trans hM
    refine lv_iconst (v := 0) hx hb dX9_beginOne_60 (by decide) ?_
    refine lv_goto (tgt := 65) hx hb dX9_beginOne_61 (by decide) ?_
    exact wX9_beginOne_65 X  S h0 v2 0 h0 _ _ _ hM hk0 hk0 hP hS (lv_sub hl [0, 1] rfl)
def jX9_beginOne_39 (S : xS) (h0 : Nat) (v1 : Int32) (v2 : Int32) : Option (Int32 × xS) := if ((gI S h0 9) = 1 : Prop) then (jX9_beginOne_51  S h0 v2) else (if (v2 < 0 : Prop) then (if ((gI S h0 9) = 40 : Prop) then ((mX9_opensBy S h0 40).bind fun q9 => some (q9.1, q9.2)) else (if ((gI S h0 9) = 45 : Prop) then ((mX9_opensBy S h0 2).bind fun q8 => some (q8.1, q8.2)) else (if ((gI S h0 9) = 2 : Prop) then (if ((lg_cmp (gJ S h0 11) 26982) = 0 : Prop) then ((mX9_opensBy S h0 41).bind fun q7 => some (q7.1, q7.2)) else (jX9_beginOne_151  S h0 v1)) else (jX9_beginOne_151  S h0 v1)))) else (jX9_beginOne_51  S h0 v2))
set_option maxHeartbeats 4000000 in
set_option maxRecDepth 100000 in
theorem wX9_beginOne_39 {p : Program} {l : Launch} {e : Env} {s : State} {m : MethodId} {args : Array Value} {below : List Frame} {meth : Method} {c : Code} {G : xG} {r : Int32} {S' : xS} (X : xX p s m args meth c cX9_beginOne 3 (some .int) RX9 G Ym) : ∀ (S : xS) (h0 : Nat) (v1 : Int32) (v2 : Int32) (H : Heap) (locs : List Loc) (ls : Array Slot), jX9_beginOne_39  S h0 v1 v2 = some (r, S') → xk Ym h0 = 9 → xP G Ym S H → va_S (xA G Ym) s.heap H locs → lv_has ls 3 [(0, .ref (xad G h0)), (1, .int v1), (2, .int v2)] → W p l e (xr 4 91) s m args below meth c H locs 0 0 (MQ below (xQi G Ym r S') args s 0 0 (xA G Ym)) (F0 m 39 ls []) := by
  obtain ⟨hx, hb, hml, hown, hts, hr, hlk, hK, hE, hJ⟩ := id X
  intro S h0 v1 v2 H locs ls hM hk0 hP hS hl
  unfold jX9_beginOne_39 at hM
  refine lv_aload_n hx hb dX9_beginOne_39 rfl (lv_at hl 0 rfl) ?_
  refine fgX9_9 X hP hk0 qw237 dX9_beginOne_40 ?_
  refine lv_iconst (v := 1) hx hb dX9_beginOne_43 (by decide) ?_
  refine lv_icmp_eq (tgt := 51) hx hb dX9_beginOne_44 (by decide) (fun c1 => ?_) (fun c1 => ?_)
  · replace hM := (if_pos c1).symm.trans hM
    exact wX9_beginOne_51 X  S h0 v2 _ _ _ hM hk0 hP hS (lv_sub hl [0, 2] rfl)
  · replace hM := (if_neg c1).symm.trans hM
    refine lv_iload_n hx hb dX9_beginOne_47 rfl (lv_at hl 2 rfl) ?_
    refine lv_if_lt (tgt := 94) hx hb dX9_beginOne_48 (by decide) (fun c2 => ?_) (fun c2 => ?_)
    · replace hM := (if_pos c2).symm.trans hM
      refine lv_aload_n hx hb dX9_beginOne_94 rfl (lv_at hl 0 rfl) ?_
      refine fgX9_9 X hP hk0 qw237 dX9_beginOne_95 ?_
      refine lv_bipush (v := 40) hx hb dX9_beginOne_98 (by decide) ?_
      refine lv_icmp_ne (tgt := 110) hx hb dX9_beginOne_100 (by decide) (fun c3 => ?_) (fun c3 => ?_)
      · replace hM := (if_neg c3).symm.trans hM
        refine lv_aload_n hx hb dX9_beginOne_110 rfl (lv_at hl 0 rfl) ?_
        refine fgX9_9 X hP hk0 qw237 dX9_beginOne_111 ?_
        refine lv_bipush (v := 45) hx hb dX9_beginOne_114 (by decide) ?_
        refine lv_icmp_ne (tgt := 125) hx hb dX9_beginOne_116 (by decide) (fun c4 => ?_) (fun c4 => ?_)
        · replace hM := (if_neg c4).symm.trans hM
          refine lv_aload_n hx hb dX9_beginOne_125 rfl (lv_at hl 0 rfl) ?_
          refine fgX9_9 X hP hk0 qw237 dX9_beginOne_126 ?_
          refine lv_iconst (v := 2) hx hb dX9_beginOne_129 (by decide) ?_
          refine lv_icmp_ne (tgt := 151) hx hb dX9_beginOne_130 (by decide) (fun c5 => ?_) (fun c5 => ?_)
          · replace hM := (if_neg c5).symm.trans hM
            exact wX9_beginOne_151 X  S h0 v1 _ _ _ hM hk0 hP hS (lv_sub hl [0, 1] rfl)
          · replace hM := (if_pos c5).symm.trans hM
            refine lv_aload_n hx hb dX9_beginOne_133 rfl (lv_at hl 0 rfl) ?_
            refine fgX9_11 X hP hk0 qw238 dX9_beginOne_134 ?_
            refine x_ldc2 X qw263 dX9_beginOne_137 ?_
            refine W.lcmp hx hb dX9_beginOne_140 ?_
            refine lv_if_ne (tgt := 151) hx hb dX9_beginOne_141 (by decide) (fun c6 => ?_) (fun c6 => ?_)
            · replace hM := (if_neg c6).symm.trans hM
              exact wX9_beginOne_151 X  S h0 v1 _ _ _ hM hk0 hP hS (lv_sub hl [0, 1] rfl)
            · replace hM := (if_pos c6).symm.trans hM
              refine lv_aload_n hx hb dX9_beginOne_144 rfl (lv_at hl 0 rfl) ?_
              refine lv_bipush (v := 41) hx hb dX9_beginOne_145 (by decide) ?_
              obtain ⟨q7, eq7, hM⟩ := xb hM
              refine x_goi (x_runV (rest := []) X (kX9_opensBy l G S h0 41 q7.1 q7.2 hk0 eq7) qw264 okX9_opensBy ⟨Nat.le_of_ble_eq_true rfl, Nat.le_of_ble_eq_true rfl⟩ hk0 (by decide) rfl hP hS rfl hl.1 rfl (Nat.le_of_ble_eq_true rfl) dX9_beginOne_147) hS (fun H locs hP hS => ?_)
              exact x_iret X hP hS hM dX9_beginOne_150
        · replace hM := (if_pos c4).symm.trans hM
          refine lv_aload_n hx hb dX9_beginOne_119 rfl (lv_at hl 0 rfl) ?_
          refine lv_iconst (v := 2) hx hb dX9_beginOne_120 (by decide) ?_
          obtain ⟨q8, eq8, hM⟩ := xb hM
          refine x_goi (x_runV (rest := []) X (kX9_opensBy l G S h0 2 q8.1 q8.2 hk0 eq8) qw264 okX9_opensBy ⟨Nat.le_of_ble_eq_true rfl, Nat.le_of_ble_eq_true rfl⟩ hk0 (by decide) rfl hP hS rfl hl.1 rfl (Nat.le_of_ble_eq_true rfl) dX9_beginOne_121) hS (fun H locs hP hS => ?_)
          exact x_iret X hP hS hM dX9_beginOne_124
      · replace hM := (if_pos c3).symm.trans hM
        refine lv_aload_n hx hb dX9_beginOne_103 rfl (lv_at hl 0 rfl) ?_
        refine lv_bipush (v := 40) hx hb dX9_beginOne_104 (by decide) ?_
        obtain ⟨q9, eq9, hM⟩ := xb hM
        refine x_goi (x_runV (rest := []) X (kX9_opensBy l G S h0 40 q9.1 q9.2 hk0 eq9) qw264 okX9_opensBy ⟨Nat.le_of_ble_eq_true rfl, Nat.le_of_ble_eq_true rfl⟩ hk0 (by decide) rfl hP hS rfl hl.1 rfl (Nat.le_of_ble_eq_true rfl) dX9_beginOne_106) hS (fun H locs hP hS => ?_)
        exact x_iret X hP hS hM dX9_beginOne_109
    · replace hM := (if_neg c2).symm.trans hM
      exact wX9_beginOne_51 X  S h0 v2 _ _ _ hM hk0 hP hS (lv_sub hl [0, 2] rfl)
def jX9_beginOne_20 (S : xS) (h0 : Nat) (v1 : Int32) : Option (Int32 × xS) := (mX9_nameOf S h0).bind fun q1 => if (q1.1 < 0 : Prop) then (jX9_beginOne_39  q1.2 h0 v1 q1.1) else ((mX9_isOf q1.2 h0 q1.1).bind fun q3 => if (q3.1 = 0 : Prop) then (some (5, q3.2)) else (jX9_beginOne_39  q3.2 h0 v1 q1.1))
set_option maxHeartbeats 4000000 in
set_option maxRecDepth 100000 in
theorem wX9_beginOne_20 {p : Program} {l : Launch} {e : Env} {s : State} {m : MethodId} {args : Array Value} {below : List Frame} {meth : Method} {c : Code} {G : xG} {r : Int32} {S' : xS} (X : xX p s m args meth c cX9_beginOne 3 (some .int) RX9 G Ym) : ∀ (S : xS) (h0 : Nat) (v1 : Int32) (H : Heap) (locs : List Loc) (ls : Array Slot), jX9_beginOne_20  S h0 v1 = some (r, S') → xk Ym h0 = 9 → xP G Ym S H → va_S (xA G Ym) s.heap H locs → lv_has ls 3 [(0, .ref (xad G h0)), (1, .int v1)] → W p l e (xr 4 91) s m args below meth c H locs 0 0 (MQ below (xQi G Ym r S') args s 0 0 (xA G Ym)) (F0 m 20 ls []) := by
  obtain ⟨hx, hb, hml, hown, hts, hr, hlk, hK, hE, hJ⟩ := id X
  intro S h0 v1 H locs ls hM hk0 hP hS hl
  unfold jX9_beginOne_20 at hM
  refine lv_aload_n hx hb dX9_beginOne_20 rfl (lv_at hl 0 rfl) ?_
  obtain ⟨q1, eq1, hM⟩ := xb hM
  refine x_goi (x_runV (rest := []) X (kX9_nameOf l G S h0 q1.1 q1.2 hk0 eq1) qw261 okX9_nameOf ⟨Nat.le_of_ble_eq_true rfl, Nat.le_of_ble_eq_true rfl⟩ hk0 (by decide) rfl hP hS rfl hl.1 rfl (Nat.le_of_ble_eq_true rfl) dX9_beginOne_21) hS (fun H locs hP hS => ?_)
  refine lv_istore_n (lv' := [(2, .int q1.1), (0, .ref (xad G h0)), (1, .int v1)]) hx hb dX9_beginOne_24 rfl hl (by decide) rfl (fun ls hl => ?_)
  refine lv_iload_n hx hb dX9_beginOne_25 rfl (lv_at hl 0 rfl) ?_
  refine lv_if_lt (tgt := 39) hx hb dX9_beginOne_26 (by decide) (fun c2 => ?_) (fun c2 => ?_)
  · replace hM := (if_pos c2).symm.trans hM
    exact wX9_beginOne_39 X  q1.2 h0 v1 q1.1 _ _ _ hM hk0 hP hS (lv_sub hl [1, 2, 0] rfl)
  · replace hM := (if_neg c2).symm.trans hM
    refine lv_aload_n hx hb dX9_beginOne_29 rfl (lv_at hl 1 rfl) ?_
    refine lv_iload_n hx hb dX9_beginOne_30 rfl (lv_at hl 0 rfl) ?_
    obtain ⟨q3, eq3, hM⟩ := xb hM
    refine x_goi (x_runV (rest := []) X (kX9_isOf l G q1.2 h0 q1.1 q3.1 q3.2 hk0 eq3) qw262 okX9_isOf ⟨Nat.le_of_ble_eq_true rfl, Nat.le_of_ble_eq_true rfl⟩ hk0 (by decide) rfl hP hS rfl hl.1 rfl (Nat.le_of_ble_eq_true rfl) dX9_beginOne_31) hS (fun H locs hP hS => ?_)
    refine lv_if_ne (tgt := 39) hx hb dX9_beginOne_34 (by decide) (fun c4 => ?_) (fun c4 => ?_)
    · replace hM := (if_neg c4).symm.trans hM
      exact wX9_beginOne_39 X  q3.2 h0 v1 q1.1 _ _ _ hM hk0 hP hS (lv_sub hl [1, 2, 0] rfl)
    · replace hM := (if_pos c4).symm.trans hM
      refine lv_iconst (v := 5) hx hb dX9_beginOne_37 (by decide) ?_
      exact x_iret X hP hS hM dX9_beginOne_38
def mX9_beginOne (S : xS) (h0 : Nat) (p1 : Int32) : Option (Int32 × xS) := if ((gI S h0 9) = 1 : Prop) then (if ((gI S h0 10) ≤ 9999 : Prop) then (jX9_beginOne_20  S h0 p1) else (some (2, S))) else (jX9_beginOne_20  S h0 p1)
set_option maxHeartbeats 4000000 in
set_option maxRecDepth 100000 in
theorem kX9_beginOne (l : Launch) (G : xG) (S : xS) (h0 : Nat) (p1 : Int32) (r : Int32) (S' : xS) (hk0 : xk Ym h0 = 9) (hM : mX9_beginOne S h0 p1 = some (r, S')) : xM l yX9_beginOne cX9_beginOne 3 (some .int) 4 91 G Ym [.ref (xad G h0), .int p1] S (xQi G Ym r S') := by
  refine x_start (own := RX9) (by decide +kernel) rfl (Nat.le_of_ble_eq_true rfl) ?_
  intro p e s m below meth c ls X hl hP hS
  obtain ⟨hx, hb, hml, hown, hts, hr, hlk, hK, hE, hJ⟩ := id X
  have hl : lv_has ls 3 [(0, .ref (xad G h0)), (1, .int p1)] := hl
  unfold mX9_beginOne at hM
  refine lv_aload_n hx hb dX9_beginOne_0 rfl (lv_at hl 0 rfl) ?_
  refine fgX9_9 X hP hk0 qw237 dX9_beginOne_1 ?_
  refine lv_iconst (v := 1) hx hb dX9_beginOne_4 (by decide) ?_
  refine lv_icmp_ne (tgt := 20) hx hb dX9_beginOne_5 (by decide) (fun c1 => ?_) (fun c1 => ?_)
  · replace hM := (if_neg c1).symm.trans hM
    exact wX9_beginOne_20 X  S h0 p1 _ _ _ hM hk0 hP hS (lv_sub hl [0, 1] rfl)
  · replace hM := (if_pos c1).symm.trans hM
    refine lv_aload_n hx hb dX9_beginOne_8 rfl (lv_at hl 0 rfl) ?_
    refine fgX9_10 X hP hk0 qw239 dX9_beginOne_9 ?_
    refine lv_sipush (v := 9999) hx hb dX9_beginOne_12 (by decide) ?_
    refine lv_icmp_le (tgt := 20) hx hb dX9_beginOne_15 (by decide) (fun c2 => ?_) (fun c2 => ?_)
    · replace hM := (if_pos c2).symm.trans hM
      exact wX9_beginOne_20 X  S h0 p1 _ _ _ hM hk0 hP hS (lv_sub hl [0, 1] rfl)
    · replace hM := (if_neg c2).symm.trans hM
      refine lv_iconst (v := 2) hx hb dX9_beginOne_18 (by decide) ?_
      exact x_iret X hP hS hM dX9_beginOne_19

def mX9_compareOf (S : xS) (h0 : Nat) : Option (Int32 × xS) := if ((gI S h0 9) = 60 : Prop) then (some (10, S)) else (if ((gI S h0 9) = 4 : Prop) then (some (11, S)) else (if ((gI S h0 9) = 62 : Prop) then (some (12, S)) else (if ((gI S h0 9) = 5 : Prop) then (some (13, S)) else (if ((gI S h0 9) = 61 : Prop) then (some (14, S)) else (if ((gI S h0 9) = 35 : Prop) then (some (15, S)) else (some ((-1), S)))))))
set_option maxHeartbeats 4000000 in
set_option maxRecDepth 100000 in
theorem kX9_compareOf (l : Launch) (G : xG) (S : xS) (h0 : Nat) (r : Int32) (S' : xS) (hk0 : xk Ym h0 = 9) (hM : mX9_compareOf S h0 = some (r, S')) : xM l yX9_compareOf cX9_compareOf 1 (some .int) 0 0 G Ym [.ref (xad G h0)] S (xQi G Ym r S') := by
  refine x_start (own := RX9) (by decide +kernel) rfl (Nat.le_of_ble_eq_true rfl) ?_
  intro p e s m below meth c ls X hl hP hS
  obtain ⟨hx, hb, hml, hown, hts, hr, hlk, hK, hE, hJ⟩ := id X
  have hl : lv_has ls 1 [(0, .ref (xad G h0))] := hl
  unfold mX9_compareOf at hM
  refine lv_aload_n hx hb dX9_compareOf_0 rfl (lv_at hl 0 rfl) ?_
  refine fgX9_9 X hP hk0 qw237 dX9_compareOf_1 ?_
  refine lv_bipush (v := 60) hx hb dX9_compareOf_4 (by decide) ?_
  refine lv_icmp_ne (tgt := 14) hx hb dX9_compareOf_6 (by decide) (fun c1 => ?_) (fun c1 => ?_)
  · replace hM := (if_neg c1).symm.trans hM
    refine lv_aload_n hx hb dX9_compareOf_14 rfl (lv_at hl 0 rfl) ?_
    refine fgX9_9 X hP hk0 qw237 dX9_compareOf_15 ?_
    refine lv_iconst (v := 4) hx hb dX9_compareOf_18 (by decide) ?_
    refine lv_icmp_ne (tgt := 27) hx hb dX9_compareOf_19 (by decide) (fun c2 => ?_) (fun c2 => ?_)
    · replace hM := (if_neg c2).symm.trans hM
      refine lv_aload_n hx hb dX9_compareOf_27 rfl (lv_at hl 0 rfl) ?_
      refine fgX9_9 X hP hk0 qw237 dX9_compareOf_28 ?_
      refine lv_bipush (v := 62) hx hb dX9_compareOf_31 (by decide) ?_
      refine lv_icmp_ne (tgt := 41) hx hb dX9_compareOf_33 (by decide) (fun c3 => ?_) (fun c3 => ?_)
      · replace hM := (if_neg c3).symm.trans hM
        refine lv_aload_n hx hb dX9_compareOf_41 rfl (lv_at hl 0 rfl) ?_
        refine fgX9_9 X hP hk0 qw237 dX9_compareOf_42 ?_
        refine lv_iconst (v := 5) hx hb dX9_compareOf_45 (by decide) ?_
        refine lv_icmp_ne (tgt := 54) hx hb dX9_compareOf_46 (by decide) (fun c4 => ?_) (fun c4 => ?_)
        · replace hM := (if_neg c4).symm.trans hM
          refine lv_aload_n hx hb dX9_compareOf_54 rfl (lv_at hl 0 rfl) ?_
          refine fgX9_9 X hP hk0 qw237 dX9_compareOf_55 ?_
          refine lv_bipush (v := 61) hx hb dX9_compareOf_58 (by decide) ?_
          refine lv_icmp_ne (tgt := 68) hx hb dX9_compareOf_60 (by decide) (fun c5 => ?_) (fun c5 => ?_)
          · replace hM := (if_neg c5).symm.trans hM
            refine lv_aload_n hx hb dX9_compareOf_68 rfl (lv_at hl 0 rfl) ?_
            refine fgX9_9 X hP hk0 qw237 dX9_compareOf_69 ?_
            refine lv_bipush (v := 35) hx hb dX9_compareOf_72 (by decide) ?_
            refine lv_icmp_ne (tgt := 82) hx hb dX9_compareOf_74 (by decide) (fun c6 => ?_) (fun c6 => ?_)
            · replace hM := (if_neg c6).symm.trans hM
              refine lv_iconst (v := (-1)) hx hb dX9_compareOf_82 (by decide) ?_
              exact x_iret X hP hS hM dX9_compareOf_83
            · replace hM := (if_pos c6).symm.trans hM
              refine lv_bipush (v := 15) hx hb dX9_compareOf_77 (by decide) ?_
              refine lv_goto (tgt := 83) hx hb dX9_compareOf_79 (by decide) ?_
              exact x_iret X hP hS hM dX9_compareOf_83
          · replace hM := (if_pos c5).symm.trans hM
            refine lv_bipush (v := 14) hx hb dX9_compareOf_63 (by decide) ?_
            refine lv_goto (tgt := 83) hx hb dX9_compareOf_65 (by decide) ?_
            exact x_iret X hP hS hM dX9_compareOf_83
        · replace hM := (if_pos c4).symm.trans hM
          refine lv_bipush (v := 13) hx hb dX9_compareOf_49 (by decide) ?_
          refine lv_goto (tgt := 83) hx hb dX9_compareOf_51 (by decide) ?_
          exact x_iret X hP hS hM dX9_compareOf_83
      · replace hM := (if_pos c3).symm.trans hM
        refine lv_bipush (v := 12) hx hb dX9_compareOf_36 (by decide) ?_
        refine lv_goto (tgt := 83) hx hb dX9_compareOf_38 (by decide) ?_
        exact x_iret X hP hS hM dX9_compareOf_83
    · replace hM := (if_pos c2).symm.trans hM
      refine lv_bipush (v := 11) hx hb dX9_compareOf_22 (by decide) ?_
      refine lv_goto (tgt := 83) hx hb dX9_compareOf_24 (by decide) ?_
      exact x_iret X hP hS hM dX9_compareOf_83
  · replace hM := (if_pos c1).symm.trans hM
    refine lv_bipush (v := 10) hx hb dX9_compareOf_9 (by decide) ?_
    refine lv_goto (tgt := 83) hx hb dX9_compareOf_11 (by decide) ?_
    exact x_iret X hP hS hM dX9_compareOf_83

def mX9_betweenOf (S : xS) (h0 : Nat) (p1 : Int32) : Option (Int32 × xS) := if ((gI S h0 9) = 43 : Prop) then (some (3, S)) else (if ((gI S h0 9) = 45 : Prop) then (some (4, S)) else (if ((gI S h0 9) = 42 : Prop) then (some (5, S)) else (if ((gI S h0 9) = 47 : Prop) then (some (6, S)) else ((mX9_kindOpen S h0 p1).bind fun q5 => if (q5.1 = 41 : Prop) then ((mX9_isCompared q5.2 h0).bind fun q7 => if (q7.1 = 0 : Prop) then ((mX9_compareOf q7.2 h0).bind fun q14 => some (q14.1, q14.2)) else ((mX9_w3 q7.2 97 110 100).bind fun q9 => (mX9_isWord q9.2 h0 q9.1).bind fun q10 => if (q10.1 = 0 : Prop) then (if ((gI q10.2 h0 9) = 2 : Prop) then (if ((lg_cmp (gJ q10.2 h0 11) 28530) = 0 : Prop) then (some (22, q10.2)) else (some ((-1), q10.2))) else (some ((-1), q10.2))) else (some (21, q10.2)))) else (some ((-1), q5.2))))))
set_option maxHeartbeats 4000000 in
set_option maxRecDepth 100000 in
theorem kX9_betweenOf (l : Launch) (G : xG) (S : xS) (h0 : Nat) (p1 : Int32) (r : Int32) (S' : xS) (hk0 : xk Ym h0 = 9) (hM : mX9_betweenOf S h0 p1 = some (r, S')) : xM l yX9_betweenOf cX9_betweenOf 2 (some .int) 2 43 G Ym [.ref (xad G h0), .int p1] S (xQi G Ym r S') := by
  refine x_start (own := RX9) (by decide +kernel) rfl (Nat.le_of_ble_eq_true rfl) ?_
  intro p e s m below meth c ls X hl hP hS
  obtain ⟨hx, hb, hml, hown, hts, hr, hlk, hK, hE, hJ⟩ := id X
  have hl : lv_has ls 2 [(0, .ref (xad G h0)), (1, .int p1)] := hl
  unfold mX9_betweenOf at hM
  refine lv_aload_n hx hb dX9_betweenOf_0 rfl (lv_at hl 0 rfl) ?_
  refine fgX9_9 X hP hk0 qw237 dX9_betweenOf_1 ?_
  refine lv_bipush (v := 43) hx hb dX9_betweenOf_4 (by decide) ?_
  refine lv_icmp_ne (tgt := 11) hx hb dX9_betweenOf_6 (by decide) (fun c1 => ?_) (fun c1 => ?_)
  · replace hM := (if_neg c1).symm.trans hM
    refine lv_aload_n hx hb dX9_betweenOf_11 rfl (lv_at hl 0 rfl) ?_
    refine fgX9_9 X hP hk0 qw237 dX9_betweenOf_12 ?_
    refine lv_bipush (v := 45) hx hb dX9_betweenOf_15 (by decide) ?_
    refine lv_icmp_ne (tgt := 22) hx hb dX9_betweenOf_17 (by decide) (fun c2 => ?_) (fun c2 => ?_)
    · replace hM := (if_neg c2).symm.trans hM
      refine lv_aload_n hx hb dX9_betweenOf_22 rfl (lv_at hl 0 rfl) ?_
      refine fgX9_9 X hP hk0 qw237 dX9_betweenOf_23 ?_
      refine lv_bipush (v := 42) hx hb dX9_betweenOf_26 (by decide) ?_
      refine lv_icmp_ne (tgt := 33) hx hb dX9_betweenOf_28 (by decide) (fun c3 => ?_) (fun c3 => ?_)
      · replace hM := (if_neg c3).symm.trans hM
        refine lv_aload_n hx hb dX9_betweenOf_33 rfl (lv_at hl 0 rfl) ?_
        refine fgX9_9 X hP hk0 qw237 dX9_betweenOf_34 ?_
        refine lv_bipush (v := 47) hx hb dX9_betweenOf_37 (by decide) ?_
        refine lv_icmp_ne (tgt := 45) hx hb dX9_betweenOf_39 (by decide) (fun c4 => ?_) (fun c4 => ?_)
        · replace hM := (if_neg c4).symm.trans hM
          refine lv_aload_n hx hb dX9_betweenOf_45 rfl (lv_at hl 0 rfl) ?_
          refine lv_iload_n hx hb dX9_betweenOf_46 rfl (lv_at hl 1 rfl) ?_
          obtain ⟨q5, eq5, hM⟩ := xb hM
          refine x_goi (x_runV (rest := []) X (kX9_kindOpen l G S h0 p1 q5.1 q5.2 hk0 eq5) qw254 okX9_kindOpen ⟨Nat.le_of_ble_eq_true rfl, Nat.le_of_ble_eq_true rfl⟩ hk0 (by decide) rfl hP hS rfl hl.1 rfl (Nat.le_of_ble_eq_true rfl) dX9_betweenOf_47) hS (fun H locs hP hS => ?_)
          refine lv_bipush (v := 41) hx hb dX9_betweenOf_50 (by decide) ?_
          refine lv_icmp_eq (tgt := 57) hx hb dX9_betweenOf_52 (by decide) (fun c6 => ?_) (fun c6 => ?_)
          · replace hM := (if_pos c6).symm.trans hM
            refine lv_aload_n hx hb dX9_betweenOf_57 rfl (lv_at hl 0 rfl) ?_
            obtain ⟨q7, eq7, hM⟩ := xb hM
            refine x_goi (x_runV (rest := []) X (kX9_isCompared l G q5.2 h0 q7.1 q7.2 hk0 eq7) qw268 okX9_isCompared ⟨Nat.le_of_ble_eq_true rfl, Nat.le_of_ble_eq_true rfl⟩ hk0 (by decide) rfl hP hS rfl hl.1 rfl (Nat.le_of_ble_eq_true rfl) dX9_betweenOf_58) hS (fun H locs hP hS => ?_)
            refine lv_if_ne (tgt := 69) hx hb dX9_betweenOf_61 (by decide) (fun c8 => ?_) (fun c8 => ?_)
            · replace hM := (if_neg c8).symm.trans hM
              refine lv_aload_n hx hb dX9_betweenOf_69 rfl (lv_at hl 0 rfl) ?_
              refine lv_bipush (v := 97) hx hb dX9_betweenOf_70 (by decide) ?_
              refine lv_bipush (v := 110) hx hb dX9_betweenOf_72 (by decide) ?_
              refine lv_bipush (v := 100) hx hb dX9_betweenOf_74 (by decide) ?_
              obtain ⟨q9, eq9, hM⟩ := xb hM
              refine x_gol (x_runS (rest := [.ref (xad G h0)]) X (kX9_w3 l G q7.2 97 110 100 q9.1 q9.2  eq9) qw241 okX9_w3 ⟨Nat.le_of_ble_eq_true rfl, Nat.le_of_ble_eq_true rfl⟩ hP hS rfl hl.1 rfl (Nat.le_of_ble_eq_true rfl) dX9_betweenOf_76) hS (fun H locs hP hS => ?_)
              obtain ⟨q10, eq10, hM⟩ := xb hM
              refine x_goi (x_runV (rest := []) X (kX9_isWord l G q9.2 h0 q9.1 q10.1 q10.2 hk0 eq10) qw265 okX9_isWord ⟨Nat.le_of_ble_eq_true rfl, Nat.le_of_ble_eq_true rfl⟩ hk0 (by decide) rfl hP hS rfl hl.1 rfl (Nat.le_of_ble_eq_true rfl) dX9_betweenOf_79) hS (fun H locs hP hS => ?_)
              refine lv_if_eq (tgt := 90) hx hb dX9_betweenOf_82 (by decide) (fun c11 => ?_) (fun c11 => ?_)
              · replace hM := (if_pos c11).symm.trans hM
                refine lv_aload_n hx hb dX9_betweenOf_90 rfl (lv_at hl 0 rfl) ?_
                refine fgX9_9 X hP hk0 qw237 dX9_betweenOf_91 ?_
                refine lv_iconst (v := 2) hx hb dX9_betweenOf_94 (by decide) ?_
                refine lv_icmp_ne (tgt := 114) hx hb dX9_betweenOf_95 (by decide) (fun c12 => ?_) (fun c12 => ?_)
                · replace hM := (if_neg c12).symm.trans hM
                  refine lv_iconst (v := (-1)) hx hb dX9_betweenOf_114 (by decide) ?_
                  exact x_iret X hP hS hM dX9_betweenOf_115
                · replace hM := (if_pos c12).symm.trans hM
                  refine lv_aload_n hx hb dX9_betweenOf_98 rfl (lv_at hl 0 rfl) ?_
                  refine fgX9_11 X hP hk0 qw238 dX9_betweenOf_99 ?_
                  refine x_ldc2 X qw269 dX9_betweenOf_102 ?_
                  refine W.lcmp hx hb dX9_betweenOf_105 ?_
                  refine lv_if_ne (tgt := 114) hx hb dX9_betweenOf_106 (by decide) (fun c13 => ?_) (fun c13 => ?_)
                  · replace hM := (if_neg c13).symm.trans hM
                    refine lv_iconst (v := (-1)) hx hb dX9_betweenOf_114 (by decide) ?_
                    exact x_iret X hP hS hM dX9_betweenOf_115
                  · replace hM := (if_pos c13).symm.trans hM
                    refine lv_bipush (v := 22) hx hb dX9_betweenOf_109 (by decide) ?_
                    refine lv_goto (tgt := 115) hx hb dX9_betweenOf_111 (by decide) ?_
                    exact x_iret X hP hS hM dX9_betweenOf_115
              · replace hM := (if_neg c11).symm.trans hM
                refine lv_bipush (v := 21) hx hb dX9_betweenOf_85 (by decide) ?_
                refine lv_goto (tgt := 115) hx hb dX9_betweenOf_87 (by decide) ?_
                exact x_iret X hP hS hM dX9_betweenOf_115
            · replace hM := (if_pos c8).symm.trans hM
              refine lv_aload_n hx hb dX9_betweenOf_64 rfl (lv_at hl 0 rfl) ?_
              obtain ⟨q14, eq14, hM⟩ := xb hM
              refine x_goi (x_runV (rest := []) X (kX9_compareOf l G q7.2 h0 q14.1 q14.2 hk0 eq14) qw270 okX9_compareOf ⟨Nat.le_of_ble_eq_true rfl, Nat.le_of_ble_eq_true rfl⟩ hk0 (by decide) rfl hP hS rfl hl.1 rfl (Nat.le_of_ble_eq_true rfl) dX9_betweenOf_65) hS (fun H locs hP hS => ?_)
              exact x_iret X hP hS hM dX9_betweenOf_68
          · replace hM := (if_neg c6).symm.trans hM
            refine lv_iconst (v := (-1)) hx hb dX9_betweenOf_55 (by decide) ?_
            exact x_iret X hP hS hM dX9_betweenOf_56
        · replace hM := (if_pos c4).symm.trans hM
          refine lv_bipush (v := 6) hx hb dX9_betweenOf_42 (by decide) ?_
          exact x_iret X hP hS hM dX9_betweenOf_44
      · replace hM := (if_pos c3).symm.trans hM
        refine lv_iconst (v := 5) hx hb dX9_betweenOf_31 (by decide) ?_
        exact x_iret X hP hS hM dX9_betweenOf_32
    · replace hM := (if_pos c2).symm.trans hM
      refine lv_iconst (v := 4) hx hb dX9_betweenOf_20 (by decide) ?_
      exact x_iret X hP hS hM dX9_betweenOf_21
  · replace hM := (if_pos c1).symm.trans hM
    refine lv_iconst (v := 3) hx hb dX9_betweenOf_9 (by decide) ?_
    exact x_iret X hP hS hM dX9_betweenOf_10

def jX9_behindOne_201 (S : xS) (h0 : Nat) : Option (Int32 × xS) := (mX9_nextToken S h0).bind fun S1 => some (1, S1)
set_option maxHeartbeats 4000000 in
set_option maxRecDepth 100000 in
theorem wX9_behindOne_201 {p : Program} {l : Launch} {e : Env} {s : State} {m : MethodId} {args : Array Value} {below : List Frame} {meth : Method} {c : Code} {G : xG} {r : Int32} {S' : xS} (X : xX p s m args meth c cX9_behindOne 5 (some .boolean) RX9 G Ym) : ∀ (S : xS) (h0 : Nat) (H : Heap) (locs : List Loc) (ls : Array Slot), jX9_behindOne_201  S h0 = some (r, S') → xk Ym h0 = 9 → xP G Ym S H → va_S (xA G Ym) s.heap H locs → lv_has ls 5 [(0, .ref (xad G h0))] → W p l e (xr 3 64) s m args below meth c H locs 0 0 (MQ below (xQi G Ym r S') args s 0 0 (xA G Ym)) (F0 m 201 ls []) := by
  obtain ⟨hx, hb, hml, hown, hts, hr, hlk, hK, hE, hJ⟩ := id X
  intro S h0 H locs ls hM hk0 hP hS hl
  unfold jX9_behindOne_201 at hM
  refine lv_aload_n hx hb dX9_behindOne_201 rfl (lv_at hl 0 rfl) ?_
  obtain ⟨S1, eS1, hM⟩ := xb hM
  refine x_gov (x_runV (rest := []) X (kX9_nextToken l G S h0 S1 hk0 eS1) qw256 okX9_nextToken ⟨Nat.le_of_ble_eq_true rfl, Nat.le_of_ble_eq_true rfl⟩ hk0 (by decide) rfl hP hS rfl hl.1 rfl (Nat.le_of_ble_eq_true rfl) dX9_behindOne_202) hS (fun H locs hP hS => ?_)
  refine lv_iconst (v := 1) hx hb dX9_behindOne_205 (by decide) ?_
  exact x_zret X hP hS (Or.inr rfl) hM dX9_behindOne_206
def jX9_behindOne_176 (S : xS) (h0 : Nat) (v3 : Int32) (v4 : Int32) : Option (Int32 × xS) := (mX9_settle S h0 1).bind fun S1 => (dO Ym (gR S1 h0 16) 10).bind fun d2 => (sI Ym S1 d2 v3 (v4 + 1)).bind fun S3 => xlet (pI S3 h0 19 0) fun S4 => jX9_behindOne_201  S4 h0
set_option maxHeartbeats 4000000 in
set_option maxRecDepth 100000 in
theorem wX9_behindOne_176 {p : Program} {l : Launch} {e : Env} {s : State} {m : MethodId} {args : Array Value} {below : List Frame} {meth : Method} {c : Code} {G : xG} {r : Int32} {S' : xS} (X : xX p s m args meth c cX9_behindOne 5 (some .boolean) RX9 G Ym) : ∀ (S : xS) (h0 : Nat) (v3 : Int32) (v4 : Int32) (H : Heap) (locs : List Loc) (ls : Array Slot), jX9_behindOne_176  S h0 v3 v4 = some (r, S') → xk Ym h0 = 9 → xP G Ym S H → va_S (xA G Ym) s.heap H locs → lv_has ls 5 [(0, .ref (xad G h0)), (3, .int v3), (4, .int v4)] → W p l e (xr 3 64) s m args below meth c H locs 0 0 (MQ below (xQi G Ym r S') args s 0 0 (xA G Ym)) (F0 m 176 ls []) := by
  obtain ⟨hx, hb, hml, hown, hts, hr, hlk, hK, hE, hJ⟩ := id X
  intro S h0 v3 v4 H locs ls hM hk0 hP hS hl
  unfold jX9_behindOne_176 at hM
  refine lv_aload_n hx hb dX9_behindOne_176 rfl (lv_at hl 0 rfl) ?_
  refine lv_iconst (v := 1) hx hb dX9_behindOne_177 (by decide) ?_
  obtain ⟨S1, eS1, hM⟩ := xb hM
  refine x_gov (x_runV (rest := []) X (kX9_settle l G S h0 1 S1 hk0 eS1) qw252 okX9_settle ⟨Nat.le_of_ble_eq_true rfl, Nat.le_of_ble_eq_true rfl⟩ hk0 (by decide) rfl hP hS rfl hl.1 rfl (Nat.le_of_ble_eq_true rfl) dX9_behindOne_178) hS (fun H locs hP hS => ?_)
  refine lv_aload_n hx hb dX9_behindOne_181 rfl (lv_at hl 0 rfl) ?_
  obtain ⟨d2, ed2, hM⟩ := xb hM
  refine fdX9_16 X hP hk0 qw246 dX9_behindOne_182 ed2 ?_
  refine lv_iload_n hx hb dX9_behindOne_185 rfl (lv_at hl 1 rfl) ?_
  refine lv_iload hx hb dX9_behindOne_186 (lv_at hl 2 rfl) ?_
  refine lv_iconst (v := 1) hx hb dX9_behindOne_188 (by decide) ?_
  refine lv_iadd hx hb dX9_behindOne_189 ?_
  obtain ⟨S3, eS3, hM⟩ := xb hM
  refine x_iast X hP hS (dO_k ed2) eS3 dX9_behindOne_190 (fun H locs hP hS => ?_)
  refine lv_aload_n hx hb dX9_behindOne_191 rfl (lv_at hl 0 rfl) ?_
  refine lv_iconst (v := 0) hx hb dX9_behindOne_192 (by decide) ?_
  obtain ⟨S4, eS4, hM⟩ := xlet_ex hM
  refine fpX9_19 X hP hS (Or.inl rfl) hk0 qw251 dX9_behindOne_193 eS4 (fun H locs hP hS => ?_)
  refine lv_goto (tgt := 201) hx hb dX9_behindOne_196 (by decide) ?_
  exact wX9_behindOne_201 X  S4 h0 _ _ _ hM hk0 hP hS (lv_sub hl [0] rfl)
def jX9_behindOne_160 (S : xS) (h0 : Nat) (v3 : Int32) (v4 : Int32) : Option (Int32 × xS) := if ((gI S h0 9) = 58 : Prop) then (if (v4 = 42 : Prop) then (jX9_behindOne_176  S h0 v3 v4) else (some (0, S))) else (some (0, S))
set_option maxHeartbeats 4000000 in
set_option maxRecDepth 100000 in
theorem wX9_behindOne_160 {p : Program} {l : Launch} {e : Env} {s : State} {m : MethodId} {args : Array Value} {below : List Frame} {meth : Method} {c : Code} {G : xG} {r : Int32} {S' : xS} (X : xX p s m args meth c cX9_behindOne 5 (some .boolean) RX9 G Ym) : ∀ (S : xS) (h0 : Nat) (v3 : Int32) (v4 : Int32) (H : Heap) (locs : List Loc) (ls : Array Slot), jX9_behindOne_160  S h0 v3 v4 = some (r, S') → xk Ym h0 = 9 → xP G Ym S H → va_S (xA G Ym) s.heap H locs → lv_has ls 5 [(0, .ref (xad G h0)), (3, .int v3), (4, .int v4)] → W p l e (xr 3 64) s m args below meth c H locs 0 0 (MQ below (xQi G Ym r S') args s 0 0 (xA G Ym)) (F0 m 160 ls []) := by
  obtain ⟨hx, hb, hml, hown, hts, hr, hlk, hK, hE, hJ⟩ := id X
  intro S h0 v3 v4 H locs ls hM hk0 hP hS hl
  unfold jX9_behindOne_160 at hM
  refine lv_aload_n hx hb dX9_behindOne_160 rfl (lv_at hl 0 rfl) ?_
  refine fgX9_9 X hP hk0 qw237 dX9_behindOne_161 ?_
  refine lv_bipush (v := 58) hx hb dX9_behindOne_164 (by decide) ?_
  refine lv_icmp_ne (tgt := 199) hx hb dX9_behindOne_166 (by decide) (fun c1 => ?_) (fun c1 => ?_)
  · replace hM := (if_neg c1).symm.trans hM
    refine lv_iconst (v := 0) hx hb dX9_behindOne_199 (by decide) ?_
    exact x_zret X hP hS (Or.inl rfl) hM dX9_behindOne_200
  · replace hM := (if_pos c1).symm.trans hM
    refine lv_iload hx hb dX9_behindOne_169 (lv_at hl 2 rfl) ?_
    refine lv_bipush (v := 42) hx hb dX9_behindOne_171 (by decide) ?_
    refine lv_icmp_ne (tgt := 199) hx hb dX9_behindOne_173 (by decide) (fun c2 => ?_) (fun c2 => ?_)
    · replace hM := (if_neg c2).symm.trans hM
      refine lv_iconst (v := 0) hx hb dX9_behindOne_199 (by decide) ?_
      exact x_zret X hP hS (Or.inl rfl) hM dX9_behindOne_200
    · replace hM := (if_pos c2).symm.trans hM
      exact wX9_behindOne_176 X  S h0 v3 v4 _ _ _ hM hk0 hP hS (lv_sub hl [0, 1, 2] rfl)
def jX9_behindOne_137 (S : xS) (h0 : Nat) (v3 : Int32) (v4 : Int32) : Option (Int32 × xS) := if ((gI S h0 9) = 63 : Prop) then (if (v4 = 41 : Prop) then ((mX9_isCompared S h0).bind fun q3 => if (q3.1 = 0 : Prop) then (jX9_behindOne_160  q3.2 h0 v3 v4) else (jX9_behindOne_176  q3.2 h0 v3 v4)) else (jX9_behindOne_160  S h0 v3 v4)) else (jX9_behindOne_160  S h0 v3 v4)
set_option maxHeartbeats 4000000 in
set_option maxRecDepth 100000 in
theorem wX9_behindOne_137 {p : Program} {l : Launch} {e : Env} {s : State} {m : MethodId} {args : Array Value} {below : List Frame} {meth : Method} {c : Code} {G : xG} {r : Int32} {S' : xS} (X : xX p s m args meth c cX9_behindOne 5 (some .boolean) RX9 G Ym) : ∀ (S : xS) (h0 : Nat) (v3 : Int32) (v4 : Int32) (H : Heap) (locs : List Loc) (ls : Array Slot), jX9_behindOne_137  S h0 v3 v4 = some (r, S') → xk Ym h0 = 9 → xP G Ym S H → va_S (xA G Ym) s.heap H locs → lv_has ls 5 [(0, .ref (xad G h0)), (3, .int v3), (4, .int v4)] → W p l e (xr 3 64) s m args below meth c H locs 0 0 (MQ below (xQi G Ym r S') args s 0 0 (xA G Ym)) (F0 m 137 ls []) := by
  obtain ⟨hx, hb, hml, hown, hts, hr, hlk, hK, hE, hJ⟩ := id X
  intro S h0 v3 v4 H locs ls hM hk0 hP hS hl
  unfold jX9_behindOne_137 at hM
  refine lv_aload_n hx hb dX9_behindOne_137 rfl (lv_at hl 0 rfl) ?_
  refine fgX9_9 X hP hk0 qw237 dX9_behindOne_138 ?_
  refine lv_bipush (v := 63) hx hb dX9_behindOne_141 (by decide) ?_
  refine lv_icmp_ne (tgt := 160) hx hb dX9_behindOne_143 (by decide) (fun c1 => ?_) (fun c1 => ?_)
  · replace hM := (if_neg c1).symm.trans hM
    exact wX9_behindOne_160 X  S h0 v3 v4 _ _ _ hM hk0 hP hS (lv_sub hl [0, 1, 2] rfl)
  · replace hM := (if_pos c1).symm.trans hM
    refine lv_iload hx hb dX9_behindOne_146 (lv_at hl 2 rfl) ?_
    refine lv_bipush (v := 41) hx hb dX9_behindOne_148 (by decide) ?_
    refine lv_icmp_ne (tgt := 160) hx hb dX9_behindOne_150 (by decide) (fun c2 => ?_) (fun c2 => ?_)
    · replace hM := (if_neg c2).symm.trans hM
      exact wX9_behindOne_160 X  S h0 v3 v4 _ _ _ hM hk0 hP hS (lv_sub hl [0, 1, 2] rfl)
    · replace hM := (if_pos c2).symm.trans hM
      refine lv_aload_n hx hb dX9_behindOne_153 rfl (lv_at hl 0 rfl) ?_
      obtain ⟨q3, eq3, hM⟩ := xb hM
      refine x_goi (x_runV (rest := []) X (kX9_isCompared l G S h0 q3.1 q3.2 hk0 eq3) qw268 okX9_isCompared ⟨Nat.le_of_ble_eq_true rfl, Nat.le_of_ble_eq_true rfl⟩ hk0 (by decide) rfl hP hS rfl hl.1 rfl (Nat.le_of_ble_eq_true rfl) dX9_behindOne_154) hS (fun H locs hP hS => ?_)
      refine lv_if_ne (tgt := 176) hx hb dX9_behindOne_157 (by decide) (fun c4 => ?_) (fun c4 => ?_)
      · replace hM := (if_neg c4).symm.trans hM
        exact wX9_behindOne_176 X  q3.2 h0 v3 v4 _ _ _ hM hk0 hP hS (lv_sub hl [0, 1, 2] rfl)
      · replace hM := (if_pos c4).symm.trans hM
        exact wX9_behindOne_160 X  q3.2 h0 v3 v4 _ _ _ hM hk0 hP hS (lv_sub hl [0, 1, 2] rfl)
def jX9_behindOne_130 (S : xS) (h0 : Nat) : Option (Int32 × xS) := (mX9_whole S h0).bind fun S1 => jX9_behindOne_201  S1 h0
set_option maxHeartbeats 4000000 in
set_option maxRecDepth 100000 in
theorem wX9_behindOne_130 {p : Program} {l : Launch} {e : Env} {s : State} {m : MethodId} {args : Array Value} {below : List Frame} {meth : Method} {c : Code} {G : xG} {r : Int32} {S' : xS} (X : xX p s m args meth c cX9_behindOne 5 (some .boolean) RX9 G Ym) : ∀ (S : xS) (h0 : Nat) (H : Heap) (locs : List Loc) (ls : Array Slot), jX9_behindOne_130  S h0 = some (r, S') → xk Ym h0 = 9 → xP G Ym S H → va_S (xA G Ym) s.heap H locs → lv_has ls 5 [(0, .ref (xad G h0))] → W p l e (xr 3 64) s m args below meth c H locs 0 0 (MQ below (xQi G Ym r S') args s 0 0 (xA G Ym)) (F0 m 130 ls []) := by
  obtain ⟨hx, hb, hml, hown, hts, hr, hlk, hK, hE, hJ⟩ := id X
  intro S h0 H locs ls hM hk0 hP hS hl
  unfold jX9_behindOne_130 at hM
  refine lv_aload_n hx hb dX9_behindOne_130 rfl (lv_at hl 0 rfl) ?_
  obtain ⟨S1, eS1, hM⟩ := xb hM
  refine x_gov (x_runV (rest := []) X (kX9_whole l G S h0 S1 hk0 eS1) qw267 okX9_whole ⟨Nat.le_of_ble_eq_true rfl, Nat.le_of_ble_eq_true rfl⟩ hk0 (by decide) rfl hP hS rfl hl.1 rfl (Nat.le_of_ble_eq_true rfl) dX9_behindOne_131) hS (fun H locs hP hS => ?_)
  refine lv_goto (tgt := 201) hx hb dX9_behindOne_134 (by decide) ?_
  exact wX9_behindOne_201 X  S1 h0 _ _ _ hM hk0 hP hS (lv_sub hl [0] rfl)
def jX9_behindOne_91 (S : xS) (h0 : Nat) (v4 : Int32) : Option (Int32 × xS) := (mX9_settle S h0 1).bind fun S1 => xlet (pI S1 h0 17 ((gI S1 h0 17) - 1)) fun S2 => xlet (pI S2 h0 18 ((gI S2 h0 18) - 1)) fun S3 => if (v4 = 43 : Prop) then ((mX9_emit S3 h0 23 0).bind fun S5 => jX9_behindOne_130  S5 h0) else (jX9_behindOne_130  S3 h0)
set_option maxHeartbeats 4000000 in
set_option maxRecDepth 100000 in
theorem wX9_behindOne_91 {p : Program} {l : Launch} {e : Env} {s : State} {m : MethodId} {args : Array Value} {below : List Frame} {meth : Method} {c : Code} {G : xG} {r : Int32} {S' : xS} (X : xX p s m args meth c cX9_behindOne 5 (some .boolean) RX9 G Ym) : ∀ (S : xS) (h0 : Nat) (v4 : Int32) (H : Heap) (locs : List Loc) (ls : Array Slot), jX9_behindOne_91  S h0 v4 = some (r, S') → xk Ym h0 = 9 → xP G Ym S H → va_S (xA G Ym) s.heap H locs → lv_has ls 5 [(0, .ref (xad G h0)), (4, .int v4)] → W p l e (xr 3 64) s m args below meth c H locs 0 0 (MQ below (xQi G Ym r S') args s 0 0 (xA G Ym)) (F0 m 91 ls []) := by
  obtain ⟨hx, hb, hml, hown, hts, hr, hlk, hK, hE, hJ⟩ := id X
  intro S h0 v4 H locs ls hM hk0 hP hS hl
  unfold jX9_behindOne_91 at hM
  refine lv_aload_n hx hb dX9_behindOne_91 rfl (lv_at hl 0 rfl) ?_
  refine lv_iconst (v := 1) hx hb dX9_behindOne_92 (by decide) ?_
  obtain ⟨S1, eS1, hM⟩ := xb hM
  refine x_gov (x_runV (rest := []) X (kX9_settle l G S h0 1 S1 hk0 eS1) qw252 okX9_settle ⟨Nat.le_of_ble_eq_true rfl, Nat.le_of_ble_eq_true rfl⟩ hk0 (by decide) rfl hP hS rfl hl.1 rfl (Nat.le_of_ble_eq_true rfl) dX9_behindOne_93) hS (fun H locs hP hS => ?_)
  refine lv_aload_n hx hb dX9_behindOne_96 rfl (lv_at hl 0 rfl) ?_
  refine lv_dup hx hb dX9_behindOne_97 rfl ?_
  refine fgX9_17 X hP hk0 qw247 dX9_behindOne_98 ?_
  refine lv_iconst (v := 1) hx hb dX9_behindOne_101 (by decide) ?_
  refine lv_isub hx hb dX9_behindOne_102 ?_
  obtain ⟨S2, eS2, hM⟩ := xlet_ex hM
  refine fpX9_17 X hP hS hk0 qw247 dX9_behindOne_103 eS2 (fun H locs hP hS => ?_)
  refine lv_aload_n hx hb dX9_behindOne_106 rfl (lv_at hl 0 rfl) ?_
  refine lv_dup hx hb dX9_behindOne_107 rfl ?_
  refine fgX9_18 X hP hk0 qw250 dX9_behindOne_108 ?_
  refine lv_iconst (v := 1) hx hb dX9_behindOne_111 (by decide) ?_
  refine lv_isub hx hb dX9_behindOne_112 ?_
  obtain ⟨S3, eS3, hM⟩ := xlet_ex hM
  refine fpX9_18 X hP hS hk0 qw250 dX9_behindOne_113 eS3 (fun H locs hP hS => ?_)
  refine lv_iload hx hb dX9_behindOne_116 (lv_at hl 1 rfl) ?_
  refine lv_bipush (v := 43) hx hb dX9_behindOne_118 (by decide) ?_
  refine lv_icmp_ne (tgt := 130) hx hb dX9_behindOne_120 (by decide) (fun c4 => ?_) (fun c4 => ?_)
  · replace hM := (if_neg c4).symm.trans hM
    exact wX9_behindOne_130 X  S3 h0 _ _ _ hM hk0 hP hS (lv_sub hl [0] rfl)
  · replace hM := (if_pos c4).symm.trans hM
    refine lv_aload_n hx hb dX9_behindOne_123 rfl (lv_at hl 0 rfl) ?_
    refine lv_bipush (v := 23) hx hb dX9_behindOne_124 (by decide) ?_
    refine lv_iconst (v := 0) hx hb dX9_behindOne_126 (by decide) ?_
    obtain ⟨S5, eS5, hM⟩ := xb hM
    refine x_gov (x_runV (rest := []) X (kX9_emit l G S3 h0 23 0 S5 hk0 eS5) qw249 okX9_emit ⟨Nat.le_of_ble_eq_true rfl, Nat.le_of_ble_eq_true rfl⟩ hk0 (by decide) rfl hP hS rfl hl.1 rfl (Nat.le_of_ble_eq_true rfl) dX9_behindOne_127) hS (fun H locs hP hS => ?_)
    exact wX9_behindOne_130 X  S5 h0 _ _ _ hM hk0 hP hS (lv_sub hl [0] rfl)
def jX9_behindOne_68 (S : xS) (h0 : Nat) (v3 : Int32) (v4 : Int32) : Option (Int32 × xS) := (mX9_w3 S 101 110 100).bind fun q1 => (mX9_isWord q1.2 h0 q1.1).bind fun q2 => if (q2.1 = 0 : Prop) then (jX9_behindOne_137  q2.2 h0 v3 v4) else (if (v4 = 43 : Prop) then (jX9_behindOne_91  q2.2 h0 v4) else (jX9_behindOne_137  q2.2 h0 v3 v4))
set_option maxHeartbeats 4000000 in
set_option maxRecDepth 100000 in
theorem wX9_behindOne_68 {p : Program} {l : Launch} {e : Env} {s : State} {m : MethodId} {args : Array Value} {below : List Frame} {meth : Method} {c : Code} {G : xG} {r : Int32} {S' : xS} (X : xX p s m args meth c cX9_behindOne 5 (some .boolean) RX9 G Ym) : ∀ (S : xS) (h0 : Nat) (v3 : Int32) (v4 : Int32) (H : Heap) (locs : List Loc) (ls : Array Slot), jX9_behindOne_68  S h0 v3 v4 = some (r, S') → xk Ym h0 = 9 → xP G Ym S H → va_S (xA G Ym) s.heap H locs → lv_has ls 5 [(0, .ref (xad G h0)), (3, .int v3), (4, .int v4)] → W p l e (xr 3 64) s m args below meth c H locs 0 0 (MQ below (xQi G Ym r S') args s 0 0 (xA G Ym)) (F0 m 68 ls []) := by
  obtain ⟨hx, hb, hml, hown, hts, hr, hlk, hK, hE, hJ⟩ := id X
  intro S h0 v3 v4 H locs ls hM hk0 hP hS hl
  unfold jX9_behindOne_68 at hM
  refine lv_aload_n hx hb dX9_behindOne_68 rfl (lv_at hl 0 rfl) ?_
  refine lv_bipush (v := 101) hx hb dX9_behindOne_69 (by decide) ?_
  refine lv_bipush (v := 110) hx hb dX9_behindOne_71 (by decide) ?_
  refine lv_bipush (v := 100) hx hb dX9_behindOne_73 (by decide) ?_
  obtain ⟨q1, eq1, hM⟩ := xb hM
  refine x_gol (x_runS (rest := [.ref (xad G h0)]) X (kX9_w3 l G S 101 110 100 q1.1 q1.2  eq1) qw241 okX9_w3 ⟨Nat.le_of_ble_eq_true rfl, Nat.le_of_ble_eq_true rfl⟩ hP hS rfl hl.1 rfl (Nat.le_of_ble_eq_true rfl) dX9_behindOne_75) hS (fun H locs hP hS => ?_)
  obtain ⟨q2, eq2, hM⟩ := xb hM
  refine x_goi (x_runV (rest := []) X (kX9_isWord l G q1.2 h0 q1.1 q2.1 q2.2 hk0 eq2) qw265 okX9_isWord ⟨Nat.le_of_ble_eq_true rfl, Nat.le_of_ble_eq_true rfl⟩ hk0 (by decide) rfl hP hS rfl hl.1 rfl (Nat.le_of_ble_eq_true rfl) dX9_behindOne_78) hS (fun H locs hP hS => ?_)
  refine lv_if_eq (tgt := 137) hx hb dX9_behindOne_81 (by decide) (fun c3 => ?_) (fun c3 => ?_)
  · replace hM := (if_pos c3).symm.trans hM
    exact wX9_behindOne_137 X  q2.2 h0 v3 v4 _ _ _ hM hk0 hP hS (lv_sub hl [0, 1, 2] rfl)
  · replace hM := (if_neg c3).symm.trans hM
    refine lv_iload hx hb dX9_behindOne_84 (lv_at hl 2 rfl) ?_
    refine lv_bipush (v := 43) hx hb dX9_behindOne_86 (by decide) ?_
    refine lv_icmp_ne (tgt := 137) hx hb dX9_behindOne_88 (by decide) (fun c4 => ?_) (fun c4 => ?_)
    · replace hM := (if_neg c4).symm.trans hM
      exact wX9_behindOne_137 X  q2.2 h0 v3 v4 _ _ _ hM hk0 hP hS (lv_sub hl [0, 1, 2] rfl)
    · replace hM := (if_pos c4).symm.trans hM
      exact wX9_behindOne_91 X  q2.2 h0 v4 _ _ _ hM hk0 hP hS (lv_sub hl [0, 2] rfl)
def jX9_behindOne_25 (S : xS) (h0 : Nat) (v2 : Int32) (v3 : Int32) (t0 : Int32) : Option (Int32 × xS) := if (v2 < 0 : Prop) then (if ((gI S h0 9) = 41 : Prop) then (if (t0 = 40 : Prop) then (jX9_behindOne_91  S h0 t0) else (jX9_behindOne_68  S h0 v3 t0)) else (jX9_behindOne_68  S h0 v3 t0)) else ((mX9_rank S v2).bind fun q4 => (mX9_settle q4.2 h0 q4.1).bind fun S5 => (mX9_push S5 h0 v2).bind fun S6 => xlet (pI S6 h0 19 0) fun S7 => jX9_behindOne_201  S7 h0)
set_option maxHeartbeats 4000000 in
set_option maxRecDepth 100000 in
theorem wX9_behindOne_25 {p : Program} {l : Launch} {e : Env} {s : State} {m : MethodId} {args : Array Value} {below : List Frame} {meth : Method} {c : Code} {G : xG} {r : Int32} {S' : xS} (X : xX p s m args meth c cX9_behindOne 5 (some .boolean) RX9 G Ym) : ∀ (S : xS) (h0 : Nat) (v2 : Int32) (v3 : Int32) (t0 : Int32) (H : Heap) (locs : List Loc) (ls : Array Slot), jX9_behindOne_25  S h0 v2 v3 t0 = some (r, S') → xk Ym h0 = 9 → xP G Ym S H → va_S (xA G Ym) s.heap H locs → lv_has ls 5 [(0, .ref (xad G h0)), (2, .int v2), (3, .int v3)] → W p l e (xr 3 64) s m args below meth c H locs 0 0 (MQ below (xQi G Ym r S') args s 0 0 (xA G Ym)) (F0 m 25 ls [.int t0]) := by
  obtain ⟨hx, hb, hml, hown, hts, hr, hlk, hK, hE, hJ⟩ := id X
  intro S h0 v2 v3 t0 H locs ls hM hk0 hP hS hl
  unfold jX9_behindOne_25 at hM
  refine lv_istore (lv' := [(4, .int t0), (0, .ref (xad G h0)), (2, .int v2), (3, .int v3)]) hx hb dX9_behindOne_25 hl (by decide) rfl (fun ls hl => ?_)
  refine lv_iload_n hx hb dX9_behindOne_27 rfl (lv_at hl 2 rfl) ?_
  refine lv_if_lt (tgt := 52) hx hb dX9_behindOne_28 (by decide) (fun c1 => ?_) (fun c1 => ?_)
  · replace hM := (if_pos c1).symm.trans hM
    refine lv_aload_n hx hb dX9_behindOne_52 rfl (lv_at hl 1 rfl) ?_
    refine fgX9_9 X hP hk0 qw237 dX9_behindOne_53 ?_
    refine lv_bipush (v := 41) hx hb dX9_behindOne_56 (by decide) ?_
    refine lv_icmp_ne (tgt := 68) hx hb dX9_behindOne_58 (by decide) (fun c2 => ?_) (fun c2 => ?_)
    · replace hM := (if_neg c2).symm.trans hM
      exact wX9_behindOne_68 X  S h0 v3 t0 _ _ _ hM hk0 hP hS (lv_sub hl [1, 3, 0] rfl)
    · replace hM := (if_pos c2).symm.trans hM
      refine lv_iload hx hb dX9_behindOne_61 (lv_at hl 0 rfl) ?_
      refine lv_bipush (v := 40) hx hb dX9_behindOne_63 (by decide) ?_
      refine lv_icmp_eq (tgt := 91) hx hb dX9_behindOne_65 (by decide) (fun c3 => ?_) (fun c3 => ?_)
      · replace hM := (if_pos c3).symm.trans hM
        exact wX9_behindOne_91 X  S h0 t0 _ _ _ hM hk0 hP hS (lv_sub hl [1, 0] rfl)
      · replace hM := (if_neg c3).symm.trans hM
        exact wX9_behindOne_68 X  S h0 v3 t0 _ _ _ hM hk0 hP hS (lv_sub hl [1, 3, 0] rfl)
  · replace hM := (if_neg c1).symm.trans hM
    refine lv_aload_n hx hb dX9_behindOne_31 rfl (lv_at hl 1 rfl) ?_
    refine lv_iload_n hx hb dX9_behindOne_32 rfl (lv_at hl 2 rfl) ?_
    obtain ⟨q4, eq4, hM⟩ := xb hM
    refine x_goi (x_runS (rest := [.ref (xad G h0)]) X (kX9_rank l G S v2 q4.1 q4.2  eq4) qw248 okX9_rank ⟨Nat.le_of_ble_eq_true rfl, Nat.le_of_ble_eq_true rfl⟩ hP hS rfl hl.1 rfl (Nat.le_of_ble_eq_true rfl) dX9_behindOne_33) hS (fun H locs hP hS => ?_)
    obtain ⟨S5, eS5, hM⟩ := xb hM
    refine x_gov (x_runV (rest := []) X (kX9_settle l G q4.2 h0 q4.1 S5 hk0 eS5) qw252 okX9_settle ⟨Nat.le_of_ble_eq_true rfl, Nat.le_of_ble_eq_true rfl⟩ hk0 (by decide) rfl hP hS rfl hl.1 rfl (Nat.le_of_ble_eq_true rfl) dX9_behindOne_36) hS (fun H locs hP hS => ?_)
    refine lv_aload_n hx hb dX9_behindOne_39 rfl (lv_at hl 1 rfl) ?_
    refine lv_iload_n hx hb dX9_behindOne_40 rfl (lv_at hl 2 rfl) ?_
    obtain ⟨S6, eS6, hM⟩ := xb hM
    refine x_gov (x_runV (rest := []) X (kX9_push l G S5 h0 v2 S6 hk0 eS6) qw255 okX9_push ⟨Nat.le_of_ble_eq_true rfl, Nat.le_of_ble_eq_true rfl⟩ hk0 (by decide) rfl hP hS rfl hl.1 rfl (Nat.le_of_ble_eq_true rfl) dX9_behindOne_41) hS (fun H locs hP hS => ?_)
    refine lv_aload_n hx hb dX9_behindOne_44 rfl (lv_at hl 1 rfl) ?_
    refine lv_iconst (v := 0) hx hb dX9_behindOne_45 (by decide) ?_
    obtain ⟨S7, eS7, hM⟩ := xlet_ex hM
    refine fpX9_19 X hP hS (Or.inl rfl) hk0 qw251 dX9_behindOne_46 eS7 (fun H locs hP hS => ?_)
    refine lv_goto (tgt := 201) hx hb dX9_behindOne_49 (by decide) ?_
    exact wX9_behindOne_201 X  S7 h0 _ _ _ hM hk0 hP hS (lv_sub hl [1] rfl)
def mX9_behindOne (S : xS) (h0 : Nat) (p1 : Int32) : Option (Int32 × xS) := (mX9_betweenOf S h0 p1).bind fun q1 => (mX9_marker q1.2 h0).bind fun q2 => if (0 ≤ q2.1 : Prop) then ((dO Ym (gR q2.2 h0 16) 10).bind fun d4 => (aI Ym q2.2 d4 q2.1).bind fun x5 => jX9_behindOne_25  q2.2 h0 q1.1 q2.1 x5) else (jX9_behindOne_25  q2.2 h0 q1.1 q2.1 (-1))
set_option maxHeartbeats 4000000 in
set_option maxRecDepth 100000 in
theorem kX9_behindOne (l : Launch) (G : xG) (S : xS) (h0 : Nat) (p1 : Int32) (r : Int32) (S' : xS) (hk0 : xk Ym h0 = 9) (hM : mX9_behindOne S h0 p1 = some (r, S')) : xM l yX9_behindOne cX9_behindOne 5 (some .boolean) 3 64 G Ym [.ref (xad G h0), .int p1] S (xQi G Ym r S') := by
  refine x_start (own := RX9) (by decide +kernel) rfl (Nat.le_of_ble_eq_true rfl) ?_
  intro p e s m below meth c ls X hl hP hS
  obtain ⟨hx, hb, hml, hown, hts, hr, hlk, hK, hE, hJ⟩ := id X
  have hl : lv_has ls 5 [(0, .ref (xad G h0)), (1, .int p1)] := hl
  unfold mX9_behindOne at hM
  refine lv_aload_n hx hb dX9_behindOne_0 rfl (lv_at hl 0 rfl) ?_
  refine lv_iload_n hx hb dX9_behindOne_1 rfl (lv_at hl 1 rfl) ?_
  obtain ⟨q1, eq1, hM⟩ := xb hM
  refine x_goi (x_runV (rest := []) X (kX9_betweenOf l G S h0 p1 q1.1 q1.2 hk0 eq1) qw271 okX9_betweenOf ⟨Nat.le_of_ble_eq_true rfl, Nat.le_of_ble_eq_true rfl⟩ hk0 (by decide) rfl hP hS rfl hl.1 rfl (Nat.le_of_ble_eq_true rfl) dX9_behindOne_2) hS (fun H locs hP hS => ?_)
  refine lv_istore_n (lv' := [(2, .int q1.1), (0, .ref (xad G h0)), (1, .int p1)]) hx hb dX9_behindOne_5 rfl hl (by decide) rfl (fun ls hl => ?_)
  refine lv_aload_n hx hb dX9_behindOne_6 rfl (lv_at hl 1 rfl) ?_
  obtain ⟨q2, eq2, hM⟩ := xb hM
  refine x_goi (x_runV (rest := []) X (kX9_marker l G q1.2 h0 q2.1 q2.2 hk0 eq2) qw253 okX9_marker ⟨Nat.le_of_ble_eq_true rfl, Nat.le_of_ble_eq_true rfl⟩ hk0 (by decide) rfl hP hS rfl hl.1 rfl (Nat.le_of_ble_eq_true rfl) dX9_behindOne_7) hS (fun H locs hP hS => ?_)
  refine lv_istore_n (lv' := [(3, .int q2.1), (2, .int q1.1), (0, .ref (xad G h0)), (1, .int p1)]) hx hb dX9_behindOne_10 rfl hl (by decide) rfl (fun ls hl => ?_)
  refine lv_iload_n hx hb dX9_behindOne_11 rfl (lv_at hl 0 rfl) ?_
  refine lv_if_ge (tgt := 19) hx hb dX9_behindOne_12 (by decide) (fun c3 => ?_) (fun c3 => ?_)
  · replace hM := (if_pos c3).symm.trans hM
    refine lv_aload_n hx hb dX9_behindOne_19 rfl (lv_at hl 2 rfl) ?_
    obtain ⟨d4, ed4, hM⟩ := xb hM
    refine fdX9_16 X hP hk0 qw246 dX9_behindOne_20 ed4 ?_
    refine lv_iload_n hx hb dX9_behindOne_23 rfl (lv_at hl 0 rfl) ?_
    obtain ⟨x5, ex5, hM⟩ := xb hM
    refine x_iald X hP (dO_k ed4) ex5 dX9_behindOne_24 ?_
    exact wX9_behindOne_25 X  q2.2 h0 q1.1 q2.1 x5 _ _ _ hM hk0 hP hS (lv_sub hl [2, 1, 0] rfl)
  · replace hM := (if_neg c3).symm.trans hM
    refine lv_iconst (v := (-1)) hx hb dX9_behindOne_15 (by decide) ?_
    refine lv_goto (tgt := 25) hx hb dX9_behindOne_16 (by decide) ?_
    exact wX9_behindOne_25 X  q2.2 h0 q1.1 q2.1 (-1) _ _ _ hM hk0 hP hS (lv_sub hl [2, 1, 0] rfl)

def lX2_triedIsLower_2 : Nat → xS → Nat → Int32 → Option (Int32 × xS)
  | 0, _, _, _ => none
  | n + 1, S, h0, v1 => if (6 ≤ v1 : Prop) then (some (0, S)) else ((dO Yc (gR S h0 3) 10).bind fun d2 => (aI Yc S d2 v1).bind fun x3 => (dO Yc (gR S h0 4) 10).bind fun d4 => (aI Yc S d4 v1).bind fun x5 => if (x3 = x5 : Prop) then (lX2_triedIsLower_2 n S h0 (v1 + 1)) else ((dO Yc (gR S h0 3) 10).bind fun d7 => (aI Yc S d7 v1).bind fun x8 => (dO Yc (gR S h0 4) 10).bind fun d9 => (aI Yc S d9 v1).bind fun x10 => if (x10 ≤ x8 : Prop) then (some (0, S)) else (some (1, S))))
set_option maxHeartbeats 4000000 in
set_option maxRecDepth 100000 in
theorem wX2_triedIsLower_2 {p : Program} {l : Launch} {e : Env} {s : State} {m : MethodId} {args : Array Value} {below : List Frame} {meth : Method} {c : Code} {G : xG} {r : Int32} {S' : xS} (X : xX p s m args meth c cX2_triedIsLower 2 (some .boolean) RX2 G Yc) : ∀ (n : Nat), ∀ (S : xS) (h0 : Nat) (v1 : Int32) (H : Heap) (locs : List Loc) (ls : Array Slot), lX2_triedIsLower_2  n S h0 v1 = some (r, S') → xk Yc h0 = 2 → xP G Yc S H → va_S (xA G Yc) s.heap H locs → lv_has ls 2 [(0, .ref (xad G h0)), (1, .int v1)] → W p l e (xr 0 0) s m args below meth c H locs 0 0 (MQ below (xQi G Yc r S') args s 0 0 (xA G Yc)) (F0 m 2 ls []) := by
  obtain ⟨hx, hb, hml, hown, hts, hr, hlk, hK, hE, hJ⟩ := id X
  intro n
  induction n with
  | zero =>
    intro S h0 v1 H locs ls hM
    rw [lX2_triedIsLower_2.eq_1] at hM
    cases hM
  | succ n ih =>
    intro S h0 v1 H locs ls hM hk0 hP hS hl
    rw [lX2_triedIsLower_2.eq_2] at hM
    refine lv_iload_n hx hb dX2_triedIsLower_2 rfl (lv_at hl 1 rfl) ?_
    refine lv_bipush (v := 6) hx hb dX2_triedIsLower_3 (by decide) ?_
    refine lv_icmp_ge (tgt := 50) hx hb dX2_triedIsLower_5 (by decide) (fun c1 => ?_) (fun c1 => ?_)
    · replace hM := (if_pos c1).symm.trans hM
      refine lv_iconst (v := 0) hx hb dX2_triedIsLower_50 (by decide) ?_
      exact x_zret X hP hS (Or.inl rfl) hM dX2_triedIsLower_51
    · replace hM := (if_neg c1).symm.trans hM
      refine lv_aload_n hx hb dX2_triedIsLower_8 rfl (lv_at hl 0 rfl) ?_
      obtain ⟨d2, ed2, hM⟩ := xb hM
      refine fdX2_3 X hP hk0 qw79 dX2_triedIsLower_9 ed2 ?_
      refine lv_iload_n hx hb dX2_triedIsLower_12 rfl (lv_at hl 1 rfl) ?_
      obtain ⟨x3, ex3, hM⟩ := xb hM
      refine x_iald X hP (dO_k ed2) ex3 dX2_triedIsLower_13 ?_
      refine lv_aload_n hx hb dX2_triedIsLower_14 rfl (lv_at hl 0 rfl) ?_
      obtain ⟨d4, ed4, hM⟩ := xb hM
      refine fdX2_4 X hP hk0 qw80 dX2_triedIsLower_15 ed4 ?_
      refine lv_iload_n hx hb dX2_triedIsLower_18 rfl (lv_at hl 1 rfl) ?_
      obtain ⟨x5, ex5, hM⟩ := xb hM
      refine x_iald X hP (dO_k ed4) ex5 dX2_triedIsLower_19 ?_
      refine lv_icmp_eq (tgt := 44) hx hb dX2_triedIsLower_20 (by decide) (fun c6 => ?_) (fun c6 => ?_)
      · replace hM := (if_pos c6).symm.trans hM
        refine lv_iinc (v := v1 + 1) (lv' := [(1, .int (v1 + 1)), (0, .ref (xad G h0))]) hx hb dX2_triedIsLower_44 hl (k := 1) rfl (by first | rfl | exact congrArg (fun z => v1 + z) (by decide)) (by decide) rfl (fun ls hl => ?_)
        refine lv_goto (tgt := 2) hx hb dX2_triedIsLower_47 (by decide) ?_
        exact ih S h0 (v1 + 1) _ _ _ hM hk0 hP hS (lv_sub hl [1, 0] rfl)
      · replace hM := (if_neg c6).symm.trans hM
        refine lv_aload_n hx hb dX2_triedIsLower_23 rfl (lv_at hl 0 rfl) ?_
        obtain ⟨d7, ed7, hM⟩ := xb hM
        refine fdX2_3 X hP hk0 qw79 dX2_triedIsLower_24 ed7 ?_
        refine lv_iload_n hx hb dX2_triedIsLower_27 rfl (lv_at hl 1 rfl) ?_
        obtain ⟨x8, ex8, hM⟩ := xb hM
        refine x_iald X hP (dO_k ed7) ex8 dX2_triedIsLower_28 ?_
        refine lv_aload_n hx hb dX2_triedIsLower_29 rfl (lv_at hl 0 rfl) ?_
        obtain ⟨d9, ed9, hM⟩ := xb hM
        refine fdX2_4 X hP hk0 qw80 dX2_triedIsLower_30 ed9 ?_
        refine lv_iload_n hx hb dX2_triedIsLower_33 rfl (lv_at hl 1 rfl) ?_
        obtain ⟨x10, ex10, hM⟩ := xb hM
        refine x_iald X hP (dO_k ed9) ex10 dX2_triedIsLower_34 ?_
        refine lv_icmp_ge (tgt := 42) hx hb dX2_triedIsLower_35 (by decide) (fun c11 => ?_) (fun c11 => ?_)
        · replace hM := (if_pos c11).symm.trans hM
          refine lv_iconst (v := 0) hx hb dX2_triedIsLower_42 (by decide) ?_
          exact x_zret X hP hS (Or.inl rfl) hM dX2_triedIsLower_43
        · replace hM := (if_neg c11).symm.trans hM
          refine lv_iconst (v := 1) hx hb dX2_triedIsLower_38 (by decide) ?_
          refine lv_goto (tgt := 43) hx hb dX2_triedIsLower_39 (by decide) ?_
          exact x_zret X hP hS (Or.inr rfl) hM dX2_triedIsLower_43
def mX2_triedIsLower (S : xS) (h0 : Nat) : Option (Int32 × xS) := lX2_triedIsLower_2  5000 S h0 0
set_option maxHeartbeats 4000000 in
set_option maxRecDepth 100000 in
theorem kX2_triedIsLower (l : Launch) (G : xG) (S : xS) (h0 : Nat) (r : Int32) (S' : xS) (hk0 : xk Yc h0 = 2) (hM : mX2_triedIsLower S h0 = some (r, S')) : xM l yX2_triedIsLower cX2_triedIsLower 2 (some .boolean) 0 0 G Yc [.ref (xad G h0)] S (xQi G Yc r S') := by
  refine x_start (own := RX2) (by decide +kernel) rfl (Nat.le_of_ble_eq_true rfl) ?_
  intro p e s m below meth c ls X hl hP hS
  obtain ⟨hx, hb, hml, hown, hts, hr, hlk, hK, hE, hJ⟩ := id X
  have hl : lv_has ls 2 [(0, .ref (xad G h0))] := hl
  unfold mX2_triedIsLower at hM
  refine lv_iconst (v := 0) hx hb dX2_triedIsLower_0 (by decide) ?_
  refine lv_istore_n (lv' := [(1, .int 0), (0, .ref (xad G h0))]) hx hb dX2_triedIsLower_1 rfl hl (by decide) rfl (fun ls hl => ?_)
  exact wX2_triedIsLower_2 X  5000 S h0 0 _ _ _ hM hk0 hP hS (lv_sub hl [1, 0] rfl)

def lX2_comesJustAfter_15 : Nat → xS → Nat → Int32 → Int32 → Int32 → Int32 → Option (Int32 × xS)
  | 0, _, _, _, _, _, _ => none
  | n + 1, S, h0, v2, v3, v4, v5 => if (v4 ≤ v5 : Prop) then ((dO Yc (gR S h0 2) 0).bind fun d2 => if ((gI S d2 1) < v3 : Prop) then (some (0, S)) else (some (1, S))) else ((dO Yc (gR S h0 2) 0).bind fun d4 => if (v3 ≤ (gI S d4 1) : Prop) then (some (0, S)) else ((dO Yc (gR S h0 2) 0).bind fun d6 => if ((v3 - (gI S d6 1)) ≤ (v4 - v5) : Prop) then ((dO Yc (gR S h0 1) 3).bind fun d8 => (dO Yc (gR S h0 2) 0).bind fun d9 => (mX3_dawnAt S d8 d9 v2).bind fun q10 => lX2_comesJustAfter_15 n q10.2 h0 v2 v3 v4 (v5 + 1)) else (some (0, S))))
set_option maxHeartbeats 4000000 in
set_option maxRecDepth 100000 in
theorem wX2_comesJustAfter_15 {p : Program} {l : Launch} {e : Env} {s : State} {m : MethodId} {args : Array Value} {below : List Frame} {meth : Method} {c : Code} {G : xG} {r : Int32} {S' : xS} (X : xX p s m args meth c cX2_comesJustAfter 6 (some .boolean) RX2 G Yc) : ∀ (n : Nat), ∀ (S : xS) (h0 : Nat) (v2 : Int32) (v3 : Int32) (v4 : Int32) (v5 : Int32) (H : Heap) (locs : List Loc) (ls : Array Slot), lX2_comesJustAfter_15  n S h0 v2 v3 v4 v5 = some (r, S') → xk Yc h0 = 2 → xP G Yc S H → va_S (xA G Yc) s.heap H locs → lv_has ls 6 [(0, .ref (xad G h0)), (2, .int v2), (3, .int v3), (4, .int v4), (5, .int v5)] → W p l e (xr 4 99) s m args below meth c H locs 0 0 (MQ below (xQi G Yc r S') args s 0 0 (xA G Yc)) (F0 m 15 ls []) := by
  obtain ⟨hx, hb, hml, hown, hts, hr, hlk, hK, hE, hJ⟩ := id X
  intro n
  induction n with
  | zero =>
    intro S h0 v2 v3 v4 v5 H locs ls hM
    rw [lX2_comesJustAfter_15.eq_1] at hM
    cases hM
  | succ n ih =>
    intro S h0 v2 v3 v4 v5 H locs ls hM hk0 hP hS hl
    rw [lX2_comesJustAfter_15.eq_2] at hM
    refine lv_iload hx hb dX2_comesJustAfter_15 (lv_at hl 4 rfl) ?_
    refine lv_iload hx hb dX2_comesJustAfter_17 (lv_at hl 3 rfl) ?_
    refine lv_icmp_ge (tgt := 71) hx hb dX2_comesJustAfter_19 (by decide) (fun c1 => ?_) (fun c1 => ?_)
    · replace hM := (if_pos c1).symm.trans hM
      refine lv_aload_n hx hb dX2_comesJustAfter_71 rfl (lv_at hl 0 rfl) ?_
      obtain ⟨d2, ed2, hM⟩ := xb hM
      refine fdX2_2 X hP hk0 qw61 dX2_comesJustAfter_72 ed2 ?_
      refine fgX0_1 X hP (dO_k ed2) qw65 dX2_comesJustAfter_75 ?_
      refine lv_iload_n hx hb dX2_comesJustAfter_78 rfl (lv_at hl 2 rfl) ?_
      refine lv_icmp_lt (tgt := 86) hx hb dX2_comesJustAfter_79 (by decide) (fun c3 => ?_) (fun c3 => ?_)
      · replace hM := (if_pos c3).symm.trans hM
        refine lv_iconst (v := 0) hx hb dX2_comesJustAfter_86 (by decide) ?_
        exact x_zret X hP hS (Or.inl rfl) hM dX2_comesJustAfter_87
      · replace hM := (if_neg c3).symm.trans hM
        refine lv_iconst (v := 1) hx hb dX2_comesJustAfter_82 (by decide) ?_
        refine lv_goto (tgt := 87) hx hb dX2_comesJustAfter_83 (by decide) ?_
        exact x_zret X hP hS (Or.inr rfl) hM dX2_comesJustAfter_87
    · replace hM := (if_neg c1).symm.trans hM
      refine lv_aload_n hx hb dX2_comesJustAfter_22 rfl (lv_at hl 0 rfl) ?_
      obtain ⟨d4, ed4, hM⟩ := xb hM
      refine fdX2_2 X hP hk0 qw61 dX2_comesJustAfter_23 ed4 ?_
      refine fgX0_1 X hP (dO_k ed4) qw65 dX2_comesJustAfter_26 ?_
      refine lv_iload_n hx hb dX2_comesJustAfter_29 rfl (lv_at hl 2 rfl) ?_
      refine lv_icmp_ge (tgt := 50) hx hb dX2_comesJustAfter_30 (by decide) (fun c5 => ?_) (fun c5 => ?_)
      · replace hM := (if_pos c5).symm.trans hM
        refine lv_iconst (v := 0) hx hb dX2_comesJustAfter_50 (by decide) ?_
        exact x_zret X hP hS (Or.inl rfl) hM dX2_comesJustAfter_51
      · replace hM := (if_neg c5).symm.trans hM
        refine lv_iload_n hx hb dX2_comesJustAfter_33 rfl (lv_at hl 2 rfl) ?_
        refine lv_aload_n hx hb dX2_comesJustAfter_34 rfl (lv_at hl 0 rfl) ?_
        obtain ⟨d6, ed6, hM⟩ := xb hM
        refine fdX2_2 X hP hk0 qw61 dX2_comesJustAfter_35 ed6 ?_
        refine fgX0_1 X hP (dO_k ed6) qw65 dX2_comesJustAfter_38 ?_
        refine lv_isub hx hb dX2_comesJustAfter_41 ?_
        refine lv_iload hx hb dX2_comesJustAfter_42 (lv_at hl 3 rfl) ?_
        refine lv_iload hx hb dX2_comesJustAfter_44 (lv_at hl 4 rfl) ?_
        refine lv_isub hx hb dX2_comesJustAfter_46 ?_
        refine lv_icmp_le (tgt := 52) hx hb dX2_comesJustAfter_47 (by decide) (fun c7 => ?_) (fun c7 => ?_)
        · replace hM := (if_pos c7).symm.trans hM
          refine lv_aload_n hx hb dX2_comesJustAfter_52 rfl (lv_at hl 0 rfl) ?_
          obtain ⟨d8, ed8, hM⟩ := xb hM
          refine fdX2_1 X hP hk0 qw66 dX2_comesJustAfter_53 ed8 ?_
          refine lv_aload_n hx hb dX2_comesJustAfter_56 rfl (lv_at hl 0 rfl) ?_
          obtain ⟨d9, ed9, hM⟩ := xb hM
          refine fdX2_2 X hP hk0 qw61 dX2_comesJustAfter_57 ed9 ?_
          refine lv_iload_n hx hb dX2_comesJustAfter_60 rfl (lv_at hl 1 rfl) ?_
          obtain ⟨q10, eq10, hM⟩ := xb hM
          refine x_goi (x_runV (rest := []) X (kX3_dawnAt l G S d8 d9 v2 q10.1 q10.2 (dO_k ed8) (dO_k ed9) eq10) qw67 okX3_dawnAt ⟨Nat.le_of_ble_eq_true rfl, Nat.le_of_ble_eq_true rfl⟩ (dO_k ed8) (by decide) rfl hP hS rfl hl.1 rfl (Nat.le_of_ble_eq_true rfl) dX2_comesJustAfter_61) hS (fun H locs hP hS => ?_)
          refine lv_pop hx hb dX2_comesJustAfter_64 rfl ?_
          refine lv_iinc (v := v5 + 1) (lv' := [(5, .int (v5 + 1)), (0, .ref (xad G h0)), (2, .int v2), (3, .int v3), (4, .int v4)]) hx hb dX2_comesJustAfter_65 hl (k := 4) rfl (by first | rfl | exact congrArg (fun z => v5 + z) (by decide)) (by decide) rfl (fun ls hl => ?_)
          refine lv_goto (tgt := 15) hx hb dX2_comesJustAfter_68 (by decide) ?_
          exact ih q10.2 h0 v2 v3 v4 (v5 + 1) _ _ _ hM hk0 hP hS (lv_sub hl [1, 2, 3, 4, 0] rfl)
        · replace hM := (if_neg c7).symm.trans hM
          refine lv_iconst (v := 0) hx hb dX2_comesJustAfter_50 (by decide) ?_
          exact x_zret X hP hS (Or.inl rfl) hM dX2_comesJustAfter_51
def mX2_comesJustAfter (S : xS) (h0 : Nat) (p1 : Int32) (p2 : Int32) (p3 : Int32) (p4 : Int32) : Option (Int32 × xS) := (dO Yc (gR S h0 2) 0).bind fun d1 => (dO Yc (gR S h0 0) 1).bind fun d2 => (mX0_loadFrom S d1 d2 p1).bind fun S3 => lX2_comesJustAfter_15  5000 S3 h0 p2 p3 p4 0
set_option maxHeartbeats 4000000 in
set_option maxRecDepth 100000 in
theorem kX2_comesJustAfter (l : Launch) (G : xG) (S : xS) (h0 : Nat) (p1 : Int32) (p2 : Int32) (p3 : Int32) (p4 : Int32) (r : Int32) (S' : xS) (hk0 : xk Yc h0 = 2) (hM : mX2_comesJustAfter S h0 p1 p2 p3 p4 = some (r, S')) : xM l yX2_comesJustAfter cX2_comesJustAfter 6 (some .boolean) 4 99 G Yc [.ref (xad G h0), .int p1, .int p2, .int p3, .int p4] S (xQi G Yc r S') := by
  refine x_start (own := RX2) (by decide +kernel) rfl (Nat.le_of_ble_eq_true rfl) ?_
  intro p e s m below meth c ls X hl hP hS
  obtain ⟨hx, hb, hml, hown, hts, hr, hlk, hK, hE, hJ⟩ := id X
  have hl : lv_has ls 6 [(0, .ref (xad G h0)), (1, .int p1), (2, .int p2), (3, .int p3), (4, .int p4)] := hl
  unfold mX2_comesJustAfter at hM
  refine lv_aload_n hx hb dX2_comesJustAfter_0 rfl (lv_at hl 0 rfl) ?_
  obtain ⟨d1, ed1, hM⟩ := xb hM
  refine fdX2_2 X hP hk0 qw61 dX2_comesJustAfter_1 ed1 ?_
  refine lv_aload_n hx hb dX2_comesJustAfter_4 rfl (lv_at hl 0 rfl) ?_
  obtain ⟨d2, ed2, hM⟩ := xb hM
  refine fdX2_0 X hP hk0 qw62 dX2_comesJustAfter_5 ed2 ?_
  refine lv_iload_n hx hb dX2_comesJustAfter_8 rfl (lv_at hl 1 rfl) ?_
  obtain ⟨S3, eS3, hM⟩ := xb hM
  refine x_gov (x_runV (rest := []) X (kX0_loadFrom l G S d1 d2 p1 S3 (dO_k ed1) (dO_k ed2) eS3) qw63 okX0_loadFrom ⟨Nat.le_of_ble_eq_true rfl, Nat.le_of_ble_eq_true rfl⟩ (dO_k ed1) (by decide) rfl hP hS rfl hl.1 rfl (Nat.le_of_ble_eq_true rfl) dX2_comesJustAfter_9) hS (fun H locs hP hS => ?_)
  refine lv_iconst (v := 0) hx hb dX2_comesJustAfter_12 (by decide) ?_
  refine lv_istore (lv' := [(5, .int 0), (0, .ref (xad G h0)), (1, .int p1), (2, .int p2), (3, .int p3), (4, .int p4)]) hx hb dX2_comesJustAfter_13 hl (by decide) rfl (fun ls hl => ?_)
  exact wX2_comesJustAfter_15 X  5000 S3 h0 p2 p3 p4 0 _ _ _ hM hk0 hP hS (lv_sub hl [1, 3, 4, 5, 0] rfl)

def jX2_fewestChanges_70 (k22 : xS → Nat → Int32 → Int32 → Int32 → Int32 → Int32 → Int32 → Option (Int32 × xS)) (S : xS) (h0 : Nat) (v1 : Int32) (v2 : Int32) (v3 : Int32) (v4 : Int32) (v5 : Int32) (v6 : Int32) (v7 : Int32) (t0 : Int32) : Option (Int32 × xS) := if (t0 = 0 : Prop) then (k22 S h0 v1 v2 v3 v4 v5 (v6 + 1)) else ((mX2_comesJustAfter S h0 v1 v6 v2 v3).bind fun q2 => if (q2.1 = 0 : Prop) then (k22 q2.2 h0 v1 v2 v3 v4 v5 (v6 + 1)) else ((dO Yc (gR q2.2 h0 3) 10).bind fun d4 => (dO Yc (gR q2.2 h0 4) 10).bind fun d5 => (cpI Yc q2.2 d4 0 d5 0 6).bind fun S6 => k22 S6 h0 v1 v2 v3 v7 v5 (v6 + 1)))
set_option maxHeartbeats 4000000 in
set_option maxRecDepth 100000 in
theorem wX2_fewestChanges_70 {p : Program} {l : Launch} {e : Env} {s : State} {m : MethodId} {args : Array Value} {below : List Frame} {meth : Method} {c : Code} {G : xG} {r : Int32} {S' : xS} (X : xX p s m args meth c cX2_fewestChanges 9 (some .int) RX2 G Yc) (k22 : xS → Nat → Int32 → Int32 → Int32 → Int32 → Int32 → Int32 → Option (Int32 × xS)) (hh22 : ∀ (S : xS) (h0 : Nat) (v1 : Int32) (v2 : Int32) (v3 : Int32) (v4 : Int32) (v5 : Int32) (v6 : Int32) (H : Heap) (locs : List Loc) (ls : Array Slot), k22 S h0 v1 v2 v3 v4 v5 v6 = some (r, S') → xk Yc h0 = 2 → xP G Yc S H → va_S (xA G Yc) s.heap H locs → lv_has ls 9 [(0, .ref (xad G h0)), (1, .int v1), (2, .int v2), (3, .int v3), (4, .int v4), (5, .int v5), (6, .int v6)] → W p l e (xr 5 124) s m args below meth c H locs 0 0 (MQ below (xQi G Yc r S') args s 0 0 (xA G Yc)) (F0 m 22 ls [])) : ∀ (S : xS) (h0 : Nat) (v1 : Int32) (v2 : Int32) (v3 : Int32) (v4 : Int32) (v5 : Int32) (v6 : Int32) (v7 : Int32) (t0 : Int32) (H : Heap) (locs : List Loc) (ls : Array Slot), jX2_fewestChanges_70 k22 S h0 v1 v2 v3 v4 v5 v6 v7 t0 = some (r, S') → xk Yc h0 = 2 → xP G Yc S H → va_S (xA G Yc) s.heap H locs → lv_has ls 9 [(0, .ref (xad G h0)), (1, .int v1), (2, .int v2), (3, .int v3), (4, .int v4), (5, .int v5), (6, .int v6), (7, .int v7)] → W p l e (xr 5 124) s m args below meth c H locs 0 0 (MQ below (xQi G Yc r S') args s 0 0 (xA G Yc)) (F0 m 70 ls [.int t0]) := by
  obtain ⟨hx, hb, hml, hown, hts, hr, hlk, hK, hE, hJ⟩ := id X
  intro S h0 v1 v2 v3 v4 v5 v6 v7 t0 H locs ls hM hk0 hP hS hl
  unfold jX2_fewestChanges_70 at hM
  refine lv_istore (lv' := [(8, .int t0), (0, .ref (xad G h0)), (1, .int v1), (2, .int v2), (3, .int v3), (4, .int v4), (5, .int v5), (6, .int v6), (7, .int v7)]) hx hb dX2_fewestChanges_70 hl (by decide) rfl (fun ls hl => ?_)
  refine lv_iload hx hb dX2_fewestChanges_72 (lv_at hl 0 rfl) ?_
  refine lv_if_eq (tgt := 108) hx hb dX2_fewestChanges_74 (by decide) (fun c1 => ?_) (fun c1 => ?_)
  · replace hM := (if_pos c1).symm.trans hM
    refine lv_iinc (v := v6 + 1) (lv' := [(6, .int (v6 + 1)), (8, .int t0), (0, .ref (xad G h0)), (1, .int v1), (2, .int v2), (3, .int v3), (4, .int v4), (5, .int v5), (7, .int v7)]) hx hb dX2_fewestChanges_108 hl (k := 7) rfl (by first | rfl | exact congrArg (fun z => v6 + z) (by decide)) (by decide) rfl (fun ls hl => ?_)
    refine lv_goto (tgt := 22) hx hb dX2_fewestChanges_111 (by decide) ?_
    exact hh22 S h0 v1 v2 v3 v4 v5 (v6 + 1) _ _ _ hM hk0 hP hS (lv_sub hl [2, 3, 4, 5, 6, 7, 0] rfl)
  · replace hM := (if_neg c1).symm.trans hM
    refine lv_aload_n hx hb dX2_fewestChanges_77 rfl (lv_at hl 1 rfl) ?_
    refine lv_iload_n hx hb dX2_fewestChanges_78 rfl (lv_at hl 2 rfl) ?_
    refine lv_iload hx hb dX2_fewestChanges_79 (lv_at hl 7 rfl) ?_
    refine lv_iload_n hx hb dX2_fewestChanges_81 rfl (lv_at hl 3 rfl) ?_
    refine lv_iload_n hx hb dX2_fewestChanges_82 rfl (lv_at hl 4 rfl) ?_
    obtain ⟨q2, eq2, hM⟩ := xb hM
    refine x_goi (x_runV (rest := []) X (kX2_comesJustAfter l G S h0 v1 v6 v2 v3 q2.1 q2.2 hk0 eq2) qw85 okX2_comesJustAfter ⟨Nat.le_of_ble_eq_true rfl, Nat.le_of_ble_eq_true rfl⟩ hk0 (by decide) rfl hP hS rfl hl.1 rfl (Nat.le_of_ble_eq_true rfl) dX2_fewestChanges_83) hS (fun H locs hP hS => ?_)
    refine lv_if_eq (tgt := 108) hx hb dX2_fewestChanges_86 (by decide) (fun c3 => ?_) (fun c3 => ?_)
    · replace hM := (if_pos c3).symm.trans hM
      refine lv_iinc (v := v6 + 1) (lv' := [(6, .int (v6 + 1)), (8, .int t0), (0, .ref (xad G h0)), (1, .int v1), (2, .int v2), (3, .int v3), (4, .int v4), (5, .int v5), (7, .int v7)]) hx hb dX2_fewestChanges_108 hl (k := 7) rfl (by first | rfl | exact congrArg (fun z => v6 + z) (by decide)) (by decide) rfl (fun ls hl => ?_)
      refine lv_goto (tgt := 22) hx hb dX2_fewestChanges_111 (by decide) ?_
      exact hh22 q2.2 h0 v1 v2 v3 v4 v5 (v6 + 1) _ _ _ hM hk0 hP hS (lv_sub hl [2, 3, 4, 5, 6, 7, 0] rfl)
    · replace hM := (if_neg c3).symm.trans hM
      refine lv_iload hx hb dX2_fewestChanges_89 (lv_at hl 8 rfl) ?_
      refine lv_istore (lv' := [(4, .int v7), (8, .int t0), (0, .ref (xad G h0)), (1, .int v1), (2, .int v2), (3, .int v3), (5, .int v5), (6, .int v6), (7, .int v7)]) hx hb dX2_fewestChanges_91 hl (by decide) rfl (fun ls hl => ?_)
      refine lv_aload_n hx hb dX2_fewestChanges_93 rfl (lv_at hl 2 rfl) ?_
      obtain ⟨d4, ed4, hM⟩ := xb hM
      refine fdX2_3 X hP hk0 qw79 dX2_fewestChanges_94 ed4 ?_
      refine lv_iconst (v := 0) hx hb dX2_fewestChanges_97 (by decide) ?_
      refine lv_aload_n hx hb dX2_fewestChanges_98 rfl (lv_at hl 2 rfl) ?_
      obtain ⟨d5, ed5, hM⟩ := xb hM
      refine fdX2_4 X hP hk0 qw80 dX2_fewestChanges_99 ed5 ?_
      refine lv_iconst (v := 0) hx hb dX2_fewestChanges_102 (by decide) ?_
      refine lv_bipush (v := 6) hx hb dX2_fewestChanges_103 (by decide) ?_
      obtain ⟨S6, eS6, hM⟩ := xb hM
      refine x_copyi X hP hS (dO_k ed4) (dO_k ed5) eS6 qw86 xokCp.1 xokCp.2.1 xokCp.2.2 hl.1 (Nat.le_of_ble_eq_true rfl) (by decide) dX2_fewestChanges_105 (fun H locs hP hS => ?_)
      refine lv_iinc (v := v6 + 1) (lv' := [(6, .int (v6 + 1)), (4, .int v7), (8, .int t0), (0, .ref (xad G h0)), (1, .int v1), (2, .int v2), (3, .int v3), (5, .int v5), (7, .int v7)]) hx hb dX2_fewestChanges_108 hl (k := 7) rfl (by first | rfl | exact congrArg (fun z => v6 + z) (by decide)) (by decide) rfl (fun ls hl => ?_)
      refine lv_goto (tgt := 22) hx hb dX2_fewestChanges_111 (by decide) ?_
      exact hh22 S6 h0 v1 v2 v3 v7 v5 (v6 + 1) _ _ _ hM hk0 hP hS (lv_sub hl [3, 4, 5, 6, 1, 7, 0] rfl)
def jX2_fewestChanges_69 (k22 : xS → Nat → Int32 → Int32 → Int32 → Int32 → Int32 → Int32 → Option (Int32 × xS)) (S : xS) (h0 : Nat) (v1 : Int32) (v2 : Int32) (v3 : Int32) (v4 : Int32) (v5 : Int32) (v6 : Int32) (v7 : Int32) : Option (Int32 × xS) := jX2_fewestChanges_70 k22 S h0 v1 v2 v3 v4 v5 v6 v7 0
set_option maxHeartbeats 4000000 in
set_option maxRecDepth 100000 in
theorem wX2_fewestChanges_69 {p : Program} {l : Launch} {e : Env} {s : State} {m : MethodId} {args : Array Value} {below : List Frame} {meth : Method} {c : Code} {G : xG} {r : Int32} {S' : xS} (X : xX p s m args meth c cX2_fewestChanges 9 (some .int) RX2 G Yc) (k22 : xS → Nat → Int32 → Int32 → Int32 → Int32 → Int32 → Int32 → Option (Int32 × xS)) (hh22 : ∀ (S : xS) (h0 : Nat) (v1 : Int32) (v2 : Int32) (v3 : Int32) (v4 : Int32) (v5 : Int32) (v6 : Int32) (H : Heap) (locs : List Loc) (ls : Array Slot), k22 S h0 v1 v2 v3 v4 v5 v6 = some (r, S') → xk Yc h0 = 2 → xP G Yc S H → va_S (xA G Yc) s.heap H locs → lv_has ls 9 [(0, .ref (xad G h0)), (1, .int v1), (2, .int v2), (3, .int v3), (4, .int v4), (5, .int v5), (6, .int v6)] → W p l e (xr 5 124) s m args below meth c H locs 0 0 (MQ below (xQi G Yc r S') args s 0 0 (xA G Yc)) (F0 m 22 ls [])) : ∀ (S : xS) (h0 : Nat) (v1 : Int32) (v2 : Int32) (v3 : Int32) (v4 : Int32) (v5 : Int32) (v6 : Int32) (v7 : Int32) (H : Heap) (locs : List Loc) (ls : Array Slot), jX2_fewestChanges_69 k22 S h0 v1 v2 v3 v4 v5 v6 v7 = some (r, S') → xk Yc h0 = 2 → xP G Yc S H → va_S (xA G Yc) s.heap H locs → lv_has ls 9 [(0, .ref (xad G h0)), (1, .int v1), (2, .int v2), (3, .int v3), (4, .int v4), (5, .int v5), (6, .int v6), (7, .int v7)] → W p l e (xr 5 124) s m args below meth c H locs 0 0 (MQ below (xQi G Yc r S') args s 0 0 (xA G Yc)) (F0 m 69 ls []) := by
  obtain ⟨hx, hb, hml, hown, hts, hr, hlk, hK, hE, hJ⟩ := id X
  intro S h0 v1 v2 v3 v4 v5 v6 v7 H locs ls hM hk0 hP hS hl
  unfold jX2_fewestChanges_69 at hM
  refine lv_iconst (v := 0) hx hb dX2_fewestChanges_69 (by decide) ?_
  exact wX2_fewestChanges_70 X k22 hh22 S h0 v1 v2 v3 v4 v5 v6 v7 0 _ _ _ hM hk0 hP hS (lv_sub hl [0, 1, 2, 3, 4, 5, 6, 7] rfl)
def jX2_fewestChanges_65 (k22 : xS → Nat → Int32 → Int32 → Int32 → Int32 → Int32 → Int32 → Option (Int32 × xS)) (S : xS) (h0 : Nat) (v1 : Int32) (v2 : Int32) (v3 : Int32) (v4 : Int32) (v5 : Int32) (v6 : Int32) (v7 : Int32) : Option (Int32 × xS) := jX2_fewestChanges_70 k22 S h0 v1 v2 v3 v4 v5 v6 v7 1
set_option maxHeartbeats 4000000 in
set_option maxRecDepth 100000 in
theorem wX2_fewestChanges_65 {p : Program} {l : Launch} {e : Env} {s : State} {m : MethodId} {args : Array Value} {below : List Frame} {meth : Method} {c : Code} {G : xG} {r : Int32} {S' : xS} (X : xX p s m args meth c cX2_fewestChanges 9 (some .int) RX2 G Yc) (k22 : xS → Nat → Int32 → Int32 → Int32 → Int32 → Int32 → Int32 → Option (Int32 × xS)) (hh22 : ∀ (S : xS) (h0 : Nat) (v1 : Int32) (v2 : Int32) (v3 : Int32) (v4 : Int32) (v5 : Int32) (v6 : Int32) (H : Heap) (locs : List Loc) (ls : Array Slot), k22 S h0 v1 v2 v3 v4 v5 v6 = some (r, S') → xk Yc h0 = 2 → xP G Yc S H → va_S (xA G Yc) s.heap H locs → lv_has ls 9 [(0, .ref (xad G h0)), (1, .int v1), (2, .int v2), (3, .int v3), (4, .int v4), (5, .int v5), (6, .int v6)] → W p l e (xr 5 124) s m args below meth c H locs 0 0 (MQ below (xQi G Yc r S') args s 0 0 (xA G Yc)) (F0 m 22 ls [])) : ∀ (S : xS) (h0 : Nat) (v1 : Int32) (v2 : Int32) (v3 : Int32) (v4 : Int32) (v5 : Int32) (v6 : Int32) (v7 : Int32) (H : Heap) (locs : List Loc) (ls : Array Slot), jX2_fewestChanges_65 k22 S h0 v1 v2 v3 v4 v5 v6 v7 = some (r, S') → xk Yc h0 = 2 → xP G Yc S H → va_S (xA G Yc) s.heap H locs → lv_has ls 9 [(0, .ref (xad G h0)), (1, .int v1), (2, .int v2), (3, .int v3), (4, .int v4), (5, .int v5), (6, .int v6), (7, .int v7)] → W p l e (xr 5 124) s m args below meth c H locs 0 0 (MQ below (xQi G Yc r S') args s 0 0 (xA G Yc)) (F0 m 65 ls []) := by
  obtain ⟨hx, hb, hml, hown, hts, hr, hlk, hK, hE, hJ⟩ := id X
  intro S h0 v1 v2 v3 v4 v5 v6 v7 H locs ls hM hk0 hP hS hl
  unfold jX2_fewestChanges_65 at hM
  refine lv_iconst (v := 1) hx hb dX2_fewestChanges_65 (by decide) ?_
  refine lv_goto (tgt := 70) hx hb dX2_fewestChanges_66 (by decide) ?_
  exact wX2_fewestChanges_70 X k22 hh22 S h0 v1 v2 v3 v4 v5 v6 v7 1 _ _ _ hM hk0 hP hS (lv_sub hl [0, 1, 2, 3, 4, 5, 6, 7] rfl)
def lX2_fewestChanges_22 : Nat → xS → Nat → Int32 → Int32 → Int32 → Int32 → Int32 → Int32 → Option (Int32 × xS)
  | 0, _, _, _, _, _, _, _, _ => none
  | n + 1, S, h0, v1, v2, v3, v4, v5, v6 => if (v5 ≤ v6 : Prop) then (some (v4, S)) else ((mX2_trySeats S h0 v1 v6).bind fun q2 => if (v4 = (-1) : Prop) then (jX2_fewestChanges_65 (lX2_fewestChanges_22  n) q2.2 h0 v1 v2 v3 v4 v5 v6 q2.1) else (if (q2.1 < v4 : Prop) then (jX2_fewestChanges_65 (lX2_fewestChanges_22  n) q2.2 h0 v1 v2 v3 v4 v5 v6 q2.1) else (if (q2.1 = v4 : Prop) then ((mX2_triedIsLower q2.2 h0).bind fun q6 => if (q6.1 = 0 : Prop) then (jX2_fewestChanges_69 (lX2_fewestChanges_22  n) q6.2 h0 v1 v2 v3 v4 v5 v6 q2.1) else (jX2_fewestChanges_65 (lX2_fewestChanges_22  n) q6.2 h0 v1 v2 v3 v4 v5 v6 q2.1)) else (jX2_fewestChanges_69 (lX2_fewestChanges_22  n) q2.2 h0 v1 v2 v3 v4 v5 v6 q2.1))))
set_option maxHeartbeats 4000000 in
set_option maxRecDepth 100000 in
theorem wX2_fewestChanges_22 {p : Program} {l : Launch} {e : Env} {s : State} {m : MethodId} {args : Array Value} {below : List Frame} {meth : Method} {c : Code} {G : xG} {r : Int32} {S' : xS} (X : xX p s m args meth c cX2_fewestChanges 9 (some .int) RX2 G Yc) : ∀ (n : Nat), ∀ (S : xS) (h0 : Nat) (v1 : Int32) (v2 : Int32) (v3 : Int32) (v4 : Int32) (v5 : Int32) (v6 : Int32) (H : Heap) (locs : List Loc) (ls : Array Slot), lX2_fewestChanges_22  n S h0 v1 v2 v3 v4 v5 v6 = some (r, S') → xk Yc h0 = 2 → xP G Yc S H → va_S (xA G Yc) s.heap H locs → lv_has ls 9 [(0, .ref (xad G h0)), (1, .int v1), (2, .int v2), (3, .int v3), (4, .int v4), (5, .int v5), (6, .int v6)] → W p l e (xr 5 124) s m args below meth c H locs 0 0 (MQ below (xQi G Yc r S') args s 0 0 (xA G Yc)) (F0 m 22 ls []) := by
  obtain ⟨hx, hb, hml, hown, hts, hr, hlk, hK, hE, hJ⟩ := id X
  intro n
  induction n with
  | zero =>
    intro S h0 v1 v2 v3 v4 v5 v6 H locs ls hM
    rw [lX2_fewestChanges_22.eq_1] at hM
    cases hM
  | succ n ih =>
    intro S h0 v1 v2 v3 v4 v5 v6 H locs ls hM hk0 hP hS hl
    rw [lX2_fewestChanges_22.eq_2] at hM
    refine lv_iload hx hb dX2_fewestChanges_22 (lv_at hl 6 rfl) ?_
    refine lv_iload hx hb dX2_fewestChanges_24 (lv_at hl 5 rfl) ?_
    refine lv_icmp_ge (tgt := 114) hx hb dX2_fewestChanges_26 (by decide) (fun c1 => ?_) (fun c1 => ?_)
    · replace hM := (if_pos c1).symm.trans hM
      refine lv_iload hx hb dX2_fewestChanges_114 (lv_at hl 4 rfl) ?_
      exact x_iret X hP hS hM dX2_fewestChanges_116
    · replace hM := (if_neg c1).symm.trans hM
      refine lv_aload_n hx hb dX2_fewestChanges_29 rfl (lv_at hl 0 rfl) ?_
      refine lv_iload_n hx hb dX2_fewestChanges_30 rfl (lv_at hl 1 rfl) ?_
      refine lv_iload hx hb dX2_fewestChanges_31 (lv_at hl 6 rfl) ?_
      obtain ⟨q2, eq2, hM⟩ := xb hM
      refine x_goi (x_runV (rest := []) X (kX2_trySeats l G S h0 v1 v6 q2.1 q2.2 hk0 eq2) qw83 okX2_trySeats ⟨Nat.le_of_ble_eq_true rfl, Nat.le_of_ble_eq_true rfl⟩ hk0 (by decide) rfl hP hS rfl hl.1 rfl (Nat.le_of_ble_eq_true rfl) dX2_fewestChanges_33) hS (fun H locs hP hS => ?_)
      refine lv_istore (lv' := [(7, .int q2.1), (0, .ref (xad G h0)), (1, .int v1), (2, .int v2), (3, .int v3), (4, .int v4), (5, .int v5), (6, .int v6)]) hx hb dX2_fewestChanges_36 hl (by decide) rfl (fun ls hl => ?_)
      refine lv_iload hx hb dX2_fewestChanges_38 (lv_at hl 5 rfl) ?_
      refine lv_iconst (v := (-1)) hx hb dX2_fewestChanges_40 (by decide) ?_
      refine lv_icmp_eq (tgt := 65) hx hb dX2_fewestChanges_41 (by decide) (fun c3 => ?_) (fun c3 => ?_)
      · replace hM := (if_pos c3).symm.trans hM
        exact wX2_fewestChanges_65 X (lX2_fewestChanges_22  n) ih q2.2 h0 v1 v2 v3 v4 v5 v6 q2.1 _ _ _ hM hk0 hP hS (lv_sub hl [1, 2, 3, 4, 5, 6, 7, 0] rfl)
      · replace hM := (if_neg c3).symm.trans hM
        refine lv_iload hx hb dX2_fewestChanges_44 (lv_at hl 0 rfl) ?_
        refine lv_iload hx hb dX2_fewestChanges_46 (lv_at hl 5 rfl) ?_
        refine lv_icmp_lt (tgt := 65) hx hb dX2_fewestChanges_48 (by decide) (fun c4 => ?_) (fun c4 => ?_)
        · replace hM := (if_pos c4).symm.trans hM
          exact wX2_fewestChanges_65 X (lX2_fewestChanges_22  n) ih q2.2 h0 v1 v2 v3 v4 v5 v6 q2.1 _ _ _ hM hk0 hP hS (lv_sub hl [1, 2, 3, 4, 5, 6, 7, 0] rfl)
        · replace hM := (if_neg c4).symm.trans hM
          refine lv_iload hx hb dX2_fewestChanges_51 (lv_at hl 0 rfl) ?_
          refine lv_iload hx hb dX2_fewestChanges_53 (lv_at hl 5 rfl) ?_
          refine lv_icmp_ne (tgt := 69) hx hb dX2_fewestChanges_55 (by decide) (fun c5 => ?_) (fun c5 => ?_)
          · replace hM := (if_neg c5).symm.trans hM
            exact wX2_fewestChanges_69 X (lX2_fewestChanges_22  n) ih q2.2 h0 v1 v2 v3 v4 v5 v6 q2.1 _ _ _ hM hk0 hP hS (lv_sub hl [1, 2, 3, 4, 5, 6, 7, 0] rfl)
          · replace hM := (if_pos c5).symm.trans hM
            refine lv_aload_n hx hb dX2_fewestChanges_58 rfl (lv_at hl 1 rfl) ?_
            obtain ⟨q6, eq6, hM⟩ := xb hM
            refine x_goi (x_runV (rest := []) X (kX2_triedIsLower l G q2.2 h0 q6.1 q6.2 hk0 eq6) qw84 okX2_triedIsLower ⟨Nat.le_of_ble_eq_true rfl, Nat.le_of_ble_eq_true rfl⟩ hk0 (by decide) rfl hP hS rfl hl.1 rfl (Nat.le_of_ble_eq_true rfl) dX2_fewestChanges_59) hS (fun H locs hP hS => ?_)
            refine lv_if_eq (tgt := 69) hx hb dX2_fewestChanges_62 (by decide) (fun c7 => ?_) (fun c7 => ?_)
            · replace hM := (if_pos c7).symm.trans hM
              exact wX2_fewestChanges_69 X (lX2_fewestChanges_22  n) ih q6.2 h0 v1 v2 v3 v4 v5 v6 q2.1 _ _ _ hM hk0 hP hS (lv_sub hl [1, 2, 3, 4, 5, 6, 7, 0] rfl)
            · replace hM := (if_neg c7).symm.trans hM
              exact wX2_fewestChanges_65 X (lX2_fewestChanges_22  n) ih q6.2 h0 v1 v2 v3 v4 v5 v6 q2.1 _ _ _ hM hk0 hP hS (lv_sub hl [1, 2, 3, 4, 5, 6, 7, 0] rfl)
def mX2_fewestChanges (S : xS) (h0 : Nat) (p1 : Int32) (p2 : Int32) (p3 : Int32) : Option (Int32 × xS) := (dO Yc (gR S h0 0) 1).bind fun d1 => xlet (1 <<< ((if 6 < (gI S d1 5) then 6 else (gI S d1 5)) &&& 31) : Int32) fun x2 => lX2_fewestChanges_22  5000 S h0 p1 p2 p3 (-1) x2 0
set_option maxHeartbeats 4000000 in
set_option maxRecDepth 100000 in
theorem kX2_fewestChanges (l : Launch) (G : xG) (S : xS) (h0 : Nat) (p1 : Int32) (p2 : Int32) (p3 : Int32) (r : Int32) (S' : xS) (hk0 : xk Yc h0 = 2) (hM : mX2_fewestChanges S h0 p1 p2 p3 = some (r, S')) : xM l yX2_fewestChanges cX2_fewestChanges 9 (some .int) 5 124 G Yc [.ref (xad G h0), .int p1, .int p2, .int p3] S (xQi G Yc r S') := by
  refine x_start (own := RX2) (by decide +kernel) rfl (Nat.le_of_ble_eq_true rfl) ?_
  intro p e s m below meth c ls X hl hP hS
  obtain ⟨hx, hb, hml, hown, hts, hr, hlk, hK, hE, hJ⟩ := id X
  have hl : lv_has ls 9 [(0, .ref (xad G h0)), (1, .int p1), (2, .int p2), (3, .int p3)] := hl
  unfold mX2_fewestChanges at hM
  refine lv_iconst (v := (-1)) hx hb dX2_fewestChanges_0 (by decide) ?_
  refine lv_istore (lv' := [(4, .int (-1)), (0, .ref (xad G h0)), (1, .int p1), (2, .int p2), (3, .int p3)]) hx hb dX2_fewestChanges_1 hl (by decide) rfl (fun ls hl => ?_)
  refine lv_iconst (v := 1) hx hb dX2_fewestChanges_3 (by decide) ?_
  refine lv_aload_n hx hb dX2_fewestChanges_4 rfl (lv_at hl 1 rfl) ?_
  obtain ⟨d1, ed1, hM⟩ := xb hM
  refine fdX2_0 X hP hk0 qw62 dX2_fewestChanges_5 ed1 ?_
  refine fgX1_5 X hP (dO_k ed1) qw81 dX2_fewestChanges_8 ?_
  refine lv_bipush (v := 6) hx hb dX2_fewestChanges_11 (by decide) ?_
  refine x_mmin X qw82 xokMmin hl.1 (Nat.le_of_ble_eq_true rfl) (Nat.le_of_ble_eq_true rfl) dX2_fewestChanges_13 ?_
  refine lv_ishl hx hb dX2_fewestChanges_16 ?_
  obtain ⟨x2, ex2, hM⟩ := xlet_ex hM
  refine x_topi ex2 ?_
  refine lv_istore (lv' := [(5, .int x2), (4, .int (-1)), (0, .ref (xad G h0)), (1, .int p1), (2, .int p2), (3, .int p3)]) hx hb dX2_fewestChanges_17 hl (by decide) rfl (fun ls hl => ?_)
  refine lv_iconst (v := 0) hx hb dX2_fewestChanges_19 (by decide) ?_
  refine lv_istore (lv' := [(6, .int 0), (5, .int x2), (4, .int (-1)), (0, .ref (xad G h0)), (1, .int p1), (2, .int p2), (3, .int p3)]) hx hb dX2_fewestChanges_20 hl (by decide) rfl (fun ls hl => ?_)
  exact wX2_fewestChanges_22 X  5000 S h0 p1 p2 p3 (-1) x2 0 _ _ _ hM hk0 hP hS (lv_sub hl [3, 4, 5, 6, 2, 1, 0] rfl)

def mX2_bestSeat (S : xS) (h0 : Nat) (p1 : Int32) : Option (Int32 × xS) := if (p1 < 0 : Prop) then (some ((-1), S)) else (if (6 ≤ p1 : Prop) then (some ((-1), S)) else ((dO Yc (gR S h0 4) 10).bind fun d3 => (aI Yc S d3 p1).bind fun x4 => some (x4, S)))
set_option maxHeartbeats 4000000 in
set_option maxRecDepth 100000 in
theorem kX2_bestSeat (l : Launch) (G : xG) (S : xS) (h0 : Nat) (p1 : Int32) (r : Int32) (S' : xS) (hk0 : xk Yc h0 = 2) (hM : mX2_bestSeat S h0 p1 = some (r, S')) : xM l yX2_bestSeat cX2_bestSeat 2 (some .int) 0 0 G Yc [.ref (xad G h0), .int p1] S (xQi G Yc r S') := by
  refine x_start (own := RX2) (by decide +kernel) rfl (Nat.le_of_ble_eq_true rfl) ?_
  intro p e s m below meth c ls X hl hP hS
  obtain ⟨hx, hb, hml, hown, hts, hr, hlk, hK, hE, hJ⟩ := id X
  have hl : lv_has ls 2 [(0, .ref (xad G h0)), (1, .int p1)] := hl
  unfold mX2_bestSeat at hM
  refine lv_iload_n hx hb dX2_bestSeat_0 rfl (lv_at hl 1 rfl) ?_
  refine lv_if_lt (tgt := 19) hx hb dX2_bestSeat_1 (by decide) (fun c1 => ?_) (fun c1 => ?_)
  · replace hM := (if_pos c1).symm.trans hM
    refine lv_iconst (v := (-1)) hx hb dX2_bestSeat_19 (by decide) ?_
    exact x_iret X hP hS hM dX2_bestSeat_20
  · replace hM := (if_neg c1).symm.trans hM
    refine lv_iload_n hx hb dX2_bestSeat_4 rfl (lv_at hl 1 rfl) ?_
    refine lv_bipush (v := 6) hx hb dX2_bestSeat_5 (by decide) ?_
    refine lv_icmp_ge (tgt := 19) hx hb dX2_bestSeat_7 (by decide) (fun c2 => ?_) (fun c2 => ?_)
    · replace hM := (if_pos c2).symm.trans hM
      refine lv_iconst (v := (-1)) hx hb dX2_bestSeat_19 (by decide) ?_
      exact x_iret X hP hS hM dX2_bestSeat_20
    · replace hM := (if_neg c2).symm.trans hM
      refine lv_aload_n hx hb dX2_bestSeat_10 rfl (lv_at hl 0 rfl) ?_
      obtain ⟨d3, ed3, hM⟩ := xb hM
      refine fdX2_4 X hP hk0 qw80 dX2_bestSeat_11 ed3 ?_
      refine lv_iload_n hx hb dX2_bestSeat_14 rfl (lv_at hl 1 rfl) ?_
      obtain ⟨x4, ex4, hM⟩ := xb hM
      refine x_iald X hP (dO_k ed3) ex4 dX2_bestSeat_15 ?_
      refine lv_goto (tgt := 20) hx hb dX2_bestSeat_16 (by decide) ?_
      exact x_iret X hP hS hM dX2_bestSeat_20

def lX2_fitsSeen_2 : Nat → xS → Nat → Int32 → Int32 → Option (Int32 × xS)
  | 0, _, _, _, _ => none
  | n + 1, S, h0, v1, v2 => (dO Yc (gR S h0 0) 1).bind fun d1 => if ((gI S d1 10) ≤ v2 : Prop) then (some (1, S)) else (if (8 ≤ v2 : Prop) then (some (1, S)) else ((dO Yc (gR S h0 2) 0).bind fun d4 => xlet (pI S d4 4 ((gI S d4 4) + 1)) fun S5 => (dO Yc (gR S5 h0 1) 3).bind fun d6 => (dO Yc (gR S5 h0 2) 0).bind fun d7 => (mX3_eatenBy S5 d6 v1 d7).bind fun q8 => (dO Yc (gR q8.2 h0 2) 0).bind fun d9 => (dO Yc (gR q8.2 h0 0) 1).bind fun d10 => (dO Yc (gR q8.2 d10 9) 10).bind fun d11 => (aI Yc q8.2 d11 v2).bind fun x12 => if ((gI q8.2 d9 2) = x12 : Prop) then (lX2_fitsSeen_2 n q8.2 h0 v1 (v2 + 1)) else (some (0, q8.2))))
set_option maxHeartbeats 4000000 in
set_option maxRecDepth 100000 in
theorem wX2_fitsSeen_2 {p : Program} {l : Launch} {e : Env} {s : State} {m : MethodId} {args : Array Value} {below : List Frame} {meth : Method} {c : Code} {G : xG} {r : Int32} {S' : xS} (X : xX p s m args meth c cX2_fitsSeen 3 (some .boolean) RX2 G Yc) : ∀ (n : Nat), ∀ (S : xS) (h0 : Nat) (v1 : Int32) (v2 : Int32) (H : Heap) (locs : List Loc) (ls : Array Slot), lX2_fitsSeen_2  n S h0 v1 v2 = some (r, S') → xk Yc h0 = 2 → xP G Yc S H → va_S (xA G Yc) s.heap H locs → lv_has ls 3 [(0, .ref (xad G h0)), (1, .int v1), (2, .int v2)] → W p l e (xr 3 77) s m args below meth c H locs 0 0 (MQ below (xQi G Yc r S') args s 0 0 (xA G Yc)) (F0 m 2 ls []) := by
  obtain ⟨hx, hb, hml, hown, hts, hr, hlk, hK, hE, hJ⟩ := id X
  intro n
  induction n with
  | zero =>
    intro S h0 v1 v2 H locs ls hM
    rw [lX2_fitsSeen_2.eq_1] at hM
    cases hM
  | succ n ih =>
    intro S h0 v1 v2 H locs ls hM hk0 hP hS hl
    rw [lX2_fitsSeen_2.eq_2] at hM
    refine lv_iload_n hx hb dX2_fitsSeen_2 rfl (lv_at hl 2 rfl) ?_
    refine lv_aload_n hx hb dX2_fitsSeen_3 rfl (lv_at hl 0 rfl) ?_
    obtain ⟨d1, ed1, hM⟩ := xb hM
    refine fdX2_0 X hP hk0 qw62 dX2_fitsSeen_4 ed1 ?_
    refine fgX1_10 X hP (dO_k ed1) qw87 dX2_fitsSeen_7 ?_
    refine lv_icmp_ge (tgt := 72) hx hb dX2_fitsSeen_10 (by decide) (fun c2 => ?_) (fun c2 => ?_)
    · replace hM := (if_pos c2).symm.trans hM
      refine lv_iconst (v := 1) hx hb dX2_fitsSeen_72 (by decide) ?_
      exact x_zret X hP hS (Or.inr rfl) hM dX2_fitsSeen_73
    · replace hM := (if_neg c2).symm.trans hM
      refine lv_iload_n hx hb dX2_fitsSeen_13 rfl (lv_at hl 2 rfl) ?_
      refine lv_bipush (v := 8) hx hb dX2_fitsSeen_14 (by decide) ?_
      refine lv_icmp_ge (tgt := 72) hx hb dX2_fitsSeen_16 (by decide) (fun c3 => ?_) (fun c3 => ?_)
      · replace hM := (if_pos c3).symm.trans hM
        refine lv_iconst (v := 1) hx hb dX2_fitsSeen_72 (by decide) ?_
        exact x_zret X hP hS (Or.inr rfl) hM dX2_fitsSeen_73
      · replace hM := (if_neg c3).symm.trans hM
        refine lv_aload_n hx hb dX2_fitsSeen_19 rfl (lv_at hl 0 rfl) ?_
        obtain ⟨d4, ed4, hM⟩ := xb hM
        refine fdX2_2 X hP hk0 qw61 dX2_fitsSeen_20 ed4 ?_
        refine lv_dup hx hb dX2_fitsSeen_23 rfl ?_
        refine fgX0_4 X hP (dO_k ed4) qw74 dX2_fitsSeen_24 ?_
        refine lv_iconst (v := 1) hx hb dX2_fitsSeen_27 (by decide) ?_
        refine lv_iadd hx hb dX2_fitsSeen_28 ?_
        obtain ⟨S5, eS5, hM⟩ := xlet_ex hM
        refine fpX0_4 X hP hS (dO_k ed4) qw74 dX2_fitsSeen_29 eS5 (fun H locs hP hS => ?_)
        refine lv_aload_n hx hb dX2_fitsSeen_32 rfl (lv_at hl 0 rfl) ?_
        obtain ⟨d6, ed6, hM⟩ := xb hM
        refine fdX2_1 X hP hk0 qw66 dX2_fitsSeen_33 ed6 ?_
        refine lv_iload_n hx hb dX2_fitsSeen_36 rfl (lv_at hl 1 rfl) ?_
        refine lv_aload_n hx hb dX2_fitsSeen_37 rfl (lv_at hl 0 rfl) ?_
        obtain ⟨d7, ed7, hM⟩ := xb hM
        refine fdX2_2 X hP hk0 qw61 dX2_fitsSeen_38 ed7 ?_
        obtain ⟨q8, eq8, hM⟩ := xb hM
        refine x_goi (x_runV (rest := []) X (kX3_eatenBy l G S5 d6 v1 d7 q8.1 q8.2 (dO_k ed6) (dO_k ed7) eq8) qw88 okX3_eatenBy ⟨Nat.le_of_ble_eq_true rfl, Nat.le_of_ble_eq_true rfl⟩ (dO_k ed6) (by decide) rfl hP hS rfl hl.1 rfl (Nat.le_of_ble_eq_true rfl) dX2_fitsSeen_41) hS (fun H locs hP hS => ?_)
        refine lv_pop hx hb dX2_fitsSeen_44 rfl ?_
        refine lv_aload_n hx hb dX2_fitsSeen_45 rfl (lv_at hl 0 rfl) ?_
        obtain ⟨d9, ed9, hM⟩ := xb hM
        refine fdX2_2 X hP hk0 qw61 dX2_fitsSeen_46 ed9 ?_
        refine fgX0_2 X hP (dO_k ed9) qw73 dX2_fitsSeen_49 ?_
        refine lv_aload_n hx hb dX2_fitsSeen_52 rfl (lv_at hl 0 rfl) ?_
        obtain ⟨d10, ed10, hM⟩ := xb hM
        refine fdX2_0 X hP hk0 qw62 dX2_fitsSeen_53 ed10 ?_
        obtain ⟨d11, ed11, hM⟩ := xb hM
        refine fdX1_9 X hP (dO_k ed10) qw89 dX2_fitsSeen_56 ed11 ?_
        refine lv_iload_n hx hb dX2_fitsSeen_59 rfl (lv_at hl 2 rfl) ?_
        obtain ⟨x12, ex12, hM⟩ := xb hM
        refine x_iald X hP (dO_k ed11) ex12 dX2_fitsSeen_60 ?_
        refine lv_icmp_eq (tgt := 66) hx hb dX2_fitsSeen_61 (by decide) (fun c13 => ?_) (fun c13 => ?_)
        · replace hM := (if_pos c13).symm.trans hM
          refine lv_iinc (v := v2 + 1) (lv' := [(2, .int (v2 + 1)), (0, .ref (xad G h0)), (1, .int v1)]) hx hb dX2_fitsSeen_66 hl (k := 2) rfl (by first | rfl | exact congrArg (fun z => v2 + z) (by decide)) (by decide) rfl (fun ls hl => ?_)
          refine lv_goto (tgt := 2) hx hb dX2_fitsSeen_69 (by decide) ?_
          exact ih q8.2 h0 v1 (v2 + 1) _ _ _ hM hk0 hP hS (lv_sub hl [1, 2, 0] rfl)
        · replace hM := (if_neg c13).symm.trans hM
          refine lv_iconst (v := 0) hx hb dX2_fitsSeen_64 (by decide) ?_
          exact x_zret X hP hS (Or.inl rfl) hM dX2_fitsSeen_65
def mX2_fitsSeen (S : xS) (h0 : Nat) (p1 : Int32) : Option (Int32 × xS) := lX2_fitsSeen_2  5000 S h0 p1 0
set_option maxHeartbeats 4000000 in
set_option maxRecDepth 100000 in
theorem kX2_fitsSeen (l : Launch) (G : xG) (S : xS) (h0 : Nat) (p1 : Int32) (r : Int32) (S' : xS) (hk0 : xk Yc h0 = 2) (hM : mX2_fitsSeen S h0 p1 = some (r, S')) : xM l yX2_fitsSeen cX2_fitsSeen 3 (some .boolean) 3 77 G Yc [.ref (xad G h0), .int p1] S (xQi G Yc r S') := by
  refine x_start (own := RX2) (by decide +kernel) rfl (Nat.le_of_ble_eq_true rfl) ?_
  intro p e s m below meth c ls X hl hP hS
  obtain ⟨hx, hb, hml, hown, hts, hr, hlk, hK, hE, hJ⟩ := id X
  have hl : lv_has ls 3 [(0, .ref (xad G h0)), (1, .int p1)] := hl
  unfold mX2_fitsSeen at hM
  refine lv_iconst (v := 0) hx hb dX2_fitsSeen_0 (by decide) ?_
  refine lv_istore_n (lv' := [(2, .int 0), (0, .ref (xad G h0)), (1, .int p1)]) hx hb dX2_fitsSeen_1 rfl hl (by decide) rfl (fun ls hl => ?_)
  exact wX2_fitsSeen_2 X  5000 S h0 p1 0 _ _ _ hM hk0 hP hS (lv_sub hl [1, 2, 0] rfl)

def lX2_nibblers_44 : Nat → xS → Nat → Int32 → Int32 → Int32 → Int32 → Int32 → Int32 → Int32 → Option (Int32 × xS)
  | 0, _, _, _, _, _, _, _, _, _ => none
  | n + 1, S, h0, v1, v2, v3, v4, v5, v6, v7 => if (v5 ≤ v7 : Prop) then (if (v3 = (-1) : Prop) then (some (v6, S)) else (some ((-1), S))) else ((dO Yc (gR S h0 2) 0).bind fun d3 => (dO Yc (gR S h0 0) 1).bind fun d4 => (mX0_loadFrom S d3 d4 v1).bind fun S5 => (dO Yc (gR S5 h0 2) 0).bind fun d6 => xlet (pI S5 d6 1 v2) fun S7 => (dO Yc (gR S7 h0 2) 0).bind fun d8 => xlet (pI S7 d8 2 v4) fun S9 => (dO Yc (gR S9 h0 2) 0).bind fun d10 => xlet (pI S9 d10 3 0) fun S11 => (mX2_fitsSeen S11 h0 v7).bind fun q12 => if (q12.1 = 0 : Prop) then (lX2_nibblers_44 n q12.2 h0 v1 v2 v3 v4 v5 v6 (v7 + 1)) else (if (v6 = v3 : Prop) then (some (v7, q12.2)) else (lX2_nibblers_44 n q12.2 h0 v1 v2 v3 v4 v5 (v6 + 1) (v7 + 1))))
set_option maxHeartbeats 4000000 in
set_option maxRecDepth 100000 in
theorem wX2_nibblers_44 {p : Program} {l : Launch} {e : Env} {s : State} {m : MethodId} {args : Array Value} {below : List Frame} {meth : Method} {c : Code} {G : xG} {r : Int32} {S' : xS} (X : xX p s m args meth c cX2_nibblers 8 (some .int) RX2 G Yc) : ∀ (n : Nat), ∀ (S : xS) (h0 : Nat) (v1 : Int32) (v2 : Int32) (v3 : Int32) (v4 : Int32) (v5 : Int32) (v6 : Int32) (v7 : Int32) (H : Heap) (locs : List Loc) (ls : Array Slot), lX2_nibblers_44  n S h0 v1 v2 v3 v4 v5 v6 v7 = some (r, S') → xk Yc h0 = 2 → xP G Yc S H → va_S (xA G Yc) s.heap H locs → lv_has ls 8 [(0, .ref (xad G h0)), (1, .int v1), (2, .int v2), (3, .int v3), (4, .int v4), (5, .int v5), (6, .int v6), (7, .int v7)] → W p l e (xr 4 99) s m args below meth c H locs 0 0 (MQ below (xQi G Yc r S') args s 0 0 (xA G Yc)) (F0 m 44 ls []) := by
  obtain ⟨hx, hb, hml, hown, hts, hr, hlk, hK, hE, hJ⟩ := id X
  intro n
  induction n with
  | zero =>
    intro S h0 v1 v2 v3 v4 v5 v6 v7 H locs ls hM
    rw [lX2_nibblers_44.eq_1] at hM
    cases hM
  | succ n ih =>
    intro S h0 v1 v2 v3 v4 v5 v6 v7 H locs ls hM hk0 hP hS hl
    rw [lX2_nibblers_44.eq_2] at hM
    refine lv_iload hx hb dX2_nibblers_44 (lv_at hl 7 rfl) ?_
    refine lv_iload hx hb dX2_nibblers_46 (lv_at hl 5 rfl) ?_
    refine lv_icmp_ge (tgt := 115) hx hb dX2_nibblers_48 (by decide) (fun c1 => ?_) (fun c1 => ?_)
    · replace hM := (if_pos c1).symm.trans hM
      refine lv_iload_n hx hb dX2_nibblers_115 rfl (lv_at hl 3 rfl) ?_
      refine lv_iconst (v := (-1)) hx hb dX2_nibblers_116 (by decide) ?_
      refine lv_icmp_ne (tgt := 125) hx hb dX2_nibblers_117 (by decide) (fun c2 => ?_) (fun c2 => ?_)
      · replace hM := (if_neg c2).symm.trans hM
        refine lv_iconst (v := (-1)) hx hb dX2_nibblers_125 (by decide) ?_
        exact x_iret X hP hS hM dX2_nibblers_126
      · replace hM := (if_pos c2).symm.trans hM
        refine lv_iload hx hb dX2_nibblers_120 (lv_at hl 6 rfl) ?_
        refine lv_goto (tgt := 126) hx hb dX2_nibblers_122 (by decide) ?_
        exact x_iret X hP hS hM dX2_nibblers_126
    · replace hM := (if_neg c1).symm.trans hM
      refine lv_aload_n hx hb dX2_nibblers_51 rfl (lv_at hl 0 rfl) ?_
      obtain ⟨d3, ed3, hM⟩ := xb hM
      refine fdX2_2 X hP hk0 qw61 dX2_nibblers_52 ed3 ?_
      refine lv_aload_n hx hb dX2_nibblers_55 rfl (lv_at hl 0 rfl) ?_
      obtain ⟨d4, ed4, hM⟩ := xb hM
      refine fdX2_0 X hP hk0 qw62 dX2_nibblers_56 ed4 ?_
      refine lv_iload_n hx hb dX2_nibblers_59 rfl (lv_at hl 1 rfl) ?_
      obtain ⟨S5, eS5, hM⟩ := xb hM
      refine x_gov (x_runV (rest := []) X (kX0_loadFrom l G S d3 d4 v1 S5 (dO_k ed3) (dO_k ed4) eS5) qw63 okX0_loadFrom ⟨Nat.le_of_ble_eq_true rfl, Nat.le_of_ble_eq_true rfl⟩ (dO_k ed3) (by decide) rfl hP hS rfl hl.1 rfl (Nat.le_of_ble_eq_true rfl) dX2_nibblers_60) hS (fun H locs hP hS => ?_)
      refine lv_aload_n hx hb dX2_nibblers_63 rfl (lv_at hl 0 rfl) ?_
      obtain ⟨d6, ed6, hM⟩ := xb hM
      refine fdX2_2 X hP hk0 qw61 dX2_nibblers_64 ed6 ?_
      refine lv_iload_n hx hb dX2_nibblers_67 rfl (lv_at hl 2 rfl) ?_
      obtain ⟨S7, eS7, hM⟩ := xlet_ex hM
      refine fpX0_1 X hP hS (dO_k ed6) qw65 dX2_nibblers_68 eS7 (fun H locs hP hS => ?_)
      refine lv_aload_n hx hb dX2_nibblers_71 rfl (lv_at hl 0 rfl) ?_
      obtain ⟨d8, ed8, hM⟩ := xb hM
      refine fdX2_2 X hP hk0 qw61 dX2_nibblers_72 ed8 ?_
      refine lv_iload hx hb dX2_nibblers_75 (lv_at hl 4 rfl) ?_
      obtain ⟨S9, eS9, hM⟩ := xlet_ex hM
      refine fpX0_2 X hP hS (dO_k ed8) qw73 dX2_nibblers_77 eS9 (fun H locs hP hS => ?_)
      refine lv_aload_n hx hb dX2_nibblers_80 rfl (lv_at hl 0 rfl) ?_
      obtain ⟨d10, ed10, hM⟩ := xb hM
      refine fdX2_2 X hP hk0 qw61 dX2_nibblers_81 ed10 ?_
      refine lv_iconst (v := 0) hx hb dX2_nibblers_84 (by decide) ?_
      obtain ⟨S11, eS11, hM⟩ := xlet_ex hM
      refine fpX0_3 X hP hS (dO_k ed10) qw92 dX2_nibblers_85 eS11 (fun H locs hP hS => ?_)
      refine lv_aload_n hx hb dX2_nibblers_88 rfl (lv_at hl 0 rfl) ?_
      refine lv_iload hx hb dX2_nibblers_89 (lv_at hl 7 rfl) ?_
      obtain ⟨q12, eq12, hM⟩ := xb hM
      refine x_goi (x_runV (rest := []) X (kX2_fitsSeen l G S11 h0 v7 q12.1 q12.2 hk0 eq12) qw93 okX2_fitsSeen ⟨Nat.le_of_ble_eq_true rfl, Nat.le_of_ble_eq_true rfl⟩ hk0 (by decide) rfl hP hS rfl hl.1 rfl (Nat.le_of_ble_eq_true rfl) dX2_nibblers_91) hS (fun H locs hP hS => ?_)
      refine lv_if_eq (tgt := 109) hx hb dX2_nibblers_94 (by decide) (fun c13 => ?_) (fun c13 => ?_)
      · replace hM := (if_pos c13).symm.trans hM
        refine lv_iinc (v := v7 + 1) (lv' := [(7, .int (v7 + 1)), (0, .ref (xad G h0)), (1, .int v1), (2, .int v2), (3, .int v3), (4, .int v4), (5, .int v5), (6, .int v6)]) hx hb dX2_nibblers_109 hl (k := 7) rfl (by first | rfl | exact congrArg (fun z => v7 + z) (by decide)) (by decide) rfl (fun ls hl => ?_)
        refine lv_goto (tgt := 44) hx hb dX2_nibblers_112 (by decide) ?_
        exact ih q12.2 h0 v1 v2 v3 v4 v5 v6 (v7 + 1) _ _ _ hM hk0 hP hS (lv_sub hl [1, 2, 3, 4, 5, 6, 7, 0] rfl)
      · replace hM := (if_neg c13).symm.trans hM
        refine lv_iload hx hb dX2_nibblers_97 (lv_at hl 6 rfl) ?_
        refine lv_iload_n hx hb dX2_nibblers_99 rfl (lv_at hl 3 rfl) ?_
        refine lv_icmp_ne (tgt := 106) hx hb dX2_nibblers_100 (by decide) (fun c14 => ?_) (fun c14 => ?_)
        · replace hM := (if_neg c14).symm.trans hM
          refine lv_iinc (v := v6 + 1) (lv' := [(6, .int (v6 + 1)), (0, .ref (xad G h0)), (1, .int v1), (2, .int v2), (3, .int v3), (4, .int v4), (5, .int v5), (7, .int v7)]) hx hb dX2_nibblers_106 hl (k := 6) rfl (by first | rfl | exact congrArg (fun z => v6 + z) (by decide)) (by decide) rfl (fun ls hl => ?_)
          refine lv_iinc (v := v7 + 1) (lv' := [(7, .int (v7 + 1)), (6, .int (v6 + 1)), (0, .ref (xad G h0)), (1, .int v1), (2, .int v2), (3, .int v3), (4, .int v4), (5, .int v5)]) hx hb dX2_nibblers_109 hl (k := 7) rfl (by first | rfl | exact congrArg (fun z => v7 + z) (by decide)) (by decide) rfl (fun ls hl => ?_)
          refine lv_goto (tgt := 44) hx hb dX2_nibblers_112 (by decide) ?_
          exact ih q12.2 h0 v1 v2 v3 v4 v5 (v6 + 1) (v7 + 1) _ _ _ hM hk0 hP hS (lv_sub hl [2, 3, 4, 5, 6, 7, 1, 0] rfl)
        · replace hM := (if_pos c14).symm.trans hM
          refine lv_iload hx hb dX2_nibblers_103 (lv_at hl 7 rfl) ?_
          exact x_iret X hP hS hM dX2_nibblers_105
def mX2_nibblers (S : xS) (h0 : Nat) (p1 : Int32) (p2 : Int32) (p3 : Int32) : Option (Int32 × xS) := (dO Yc (gR S h0 1) 3).bind fun d1 => (dO Yc (gR S h0 0) 1).bind fun d2 => (mX1_get S d2 12).bind fun q3 => (mX3_slicesAt q3.2 d1 p1 p2 (q3.1 + 1)).bind fun q4 => (dO Yc (gR q4.2 h0 0) 1).bind fun d5 => xlet (1 <<< ((if 6 < (gI q4.2 d5 5) then 6 else (gI q4.2 d5 5)) &&& 31) : Int32) fun x6 => lX2_nibblers_44  5000 q4.2 h0 p1 p2 p3 q4.1 x6 0 0
set_option maxHeartbeats 4000000 in
set_option maxRecDepth 100000 in
theorem kX2_nibblers (l : Launch) (G : xG) (S : xS) (h0 : Nat) (p1 : Int32) (p2 : Int32) (p3 : Int32) (r : Int32) (S' : xS) (hk0 : xk Yc h0 = 2) (hM : mX2_nibblers S h0 p1 p2 p3 = some (r, S')) : xM l yX2_nibblers cX2_nibblers 8 (some .int) 4 99 G Yc [.ref (xad G h0), .int p1, .int p2, .int p3] S (xQi G Yc r S') := by
  refine x_start (own := RX2) (by decide +kernel) rfl (Nat.le_of_ble_eq_true rfl) ?_
  intro p e s m below meth c ls X hl hP hS
  obtain ⟨hx, hb, hml, hown, hts, hr, hlk, hK, hE, hJ⟩ := id X
  have hl : lv_has ls 8 [(0, .ref (xad G h0)), (1, .int p1), (2, .int p2), (3, .int p3)] := hl
  unfold mX2_nibblers at hM
  refine lv_aload_n hx hb dX2_nibblers_0 rfl (lv_at hl 0 rfl) ?_
  obtain ⟨d1, ed1, hM⟩ := xb hM
  refine fdX2_1 X hP hk0 qw66 dX2_nibblers_1 ed1 ?_
  refine lv_iload_n hx hb dX2_nibblers_4 rfl (lv_at hl 1 rfl) ?_
  refine lv_iload_n hx hb dX2_nibblers_5 rfl (lv_at hl 2 rfl) ?_
  refine lv_aload_n hx hb dX2_nibblers_6 rfl (lv_at hl 0 rfl) ?_
  obtain ⟨d2, ed2, hM⟩ := xb hM
  refine fdX2_0 X hP hk0 qw62 dX2_nibblers_7 ed2 ?_
  refine lv_bipush (v := 12) hx hb dX2_nibblers_10 (by decide) ?_
  obtain ⟨q3, eq3, hM⟩ := xb hM
  refine x_goi (x_runV (rest := [.int p2, .int p1, .ref (xad G d1)]) X (kX1_get l G S d2 12 q3.1 q3.2 (dO_k ed2) eq3) qw90 okX1_get ⟨Nat.le_of_ble_eq_true rfl, Nat.le_of_ble_eq_true rfl⟩ (dO_k ed2) (by decide) rfl hP hS rfl hl.1 rfl (Nat.le_of_ble_eq_true rfl) dX2_nibblers_12) hS (fun H locs hP hS => ?_)
  refine lv_iconst (v := 1) hx hb dX2_nibblers_15 (by decide) ?_
  refine lv_iadd hx hb dX2_nibblers_16 ?_
  obtain ⟨q4, eq4, hM⟩ := xb hM
  refine x_goi (x_runV (rest := []) X (kX3_slicesAt l G q3.2 d1 p1 p2 (q3.1 + 1) q4.1 q4.2 (dO_k ed1) eq4) qw91 okX3_slicesAt ⟨Nat.le_of_ble_eq_true rfl, Nat.le_of_ble_eq_true rfl⟩ (dO_k ed1) (by decide) rfl hP hS rfl hl.1 rfl (Nat.le_of_ble_eq_true rfl) dX2_nibblers_17) hS (fun H locs hP hS => ?_)
  refine lv_istore (lv' := [(4, .int q4.1), (0, .ref (xad G h0)), (1, .int p1), (2, .int p2), (3, .int p3)]) hx hb dX2_nibblers_20 hl (by decide) rfl (fun ls hl => ?_)
  refine lv_iconst (v := 1) hx hb dX2_nibblers_22 (by decide) ?_
  refine lv_aload_n hx hb dX2_nibblers_23 rfl (lv_at hl 1 rfl) ?_
  obtain ⟨d5, ed5, hM⟩ := xb hM
  refine fdX2_0 X hP hk0 qw62 dX2_nibblers_24 ed5 ?_
  refine fgX1_5 X hP (dO_k ed5) qw81 dX2_nibblers_27 ?_
  refine lv_bipush (v := 6) hx hb dX2_nibblers_30 (by decide) ?_
  refine x_mmin X qw82 xokMmin hl.1 (Nat.le_of_ble_eq_true rfl) (Nat.le_of_ble_eq_true rfl) dX2_nibblers_32 ?_
  refine lv_ishl hx hb dX2_nibblers_35 ?_
  obtain ⟨x6, ex6, hM⟩ := xlet_ex hM
  refine x_topi ex6 ?_
  refine lv_istore (lv' := [(5, .int x6), (4, .int q4.1), (0, .ref (xad G h0)), (1, .int p1), (2, .int p2), (3, .int p3)]) hx hb dX2_nibblers_36 hl (by decide) rfl (fun ls hl => ?_)
  refine lv_iconst (v := 0) hx hb dX2_nibblers_38 (by decide) ?_
  refine lv_istore (lv' := [(6, .int 0), (5, .int x6), (4, .int q4.1), (0, .ref (xad G h0)), (1, .int p1), (2, .int p2), (3, .int p3)]) hx hb dX2_nibblers_39 hl (by decide) rfl (fun ls hl => ?_)
  refine lv_iconst (v := 0) hx hb dX2_nibblers_41 (by decide) ?_
  refine lv_istore (lv' := [(7, .int 0), (6, .int 0), (5, .int x6), (4, .int q4.1), (0, .ref (xad G h0)), (1, .int p1), (2, .int p2), (3, .int p3)]) hx hb dX2_nibblers_42 hl (by decide) rfl (fun ls hl => ?_)
  exact wX2_nibblers_44 X  5000 q4.2 h0 p1 p2 p3 q4.1 x6 0 0 _ _ _ hM hk0 hP hS (lv_sub hl [4, 5, 6, 7, 3, 2, 1, 0] rfl)

def mX3_drawnForMice (S : xS) (h0 : Nat) : Option (Int32 × xS) := (dO Yc (gR S h0 0) 1).bind fun d1 => (mX1_get S d1 13).bind fun q2 => (dO Yc (gR q2.2 h0 0) 1).bind fun d3 => (mX1_put q2.2 d3 13 (((q2.1 * 173) + 79) - ((q2.1 * 173) + 79) / 30089 * 30089)).bind fun S4 => (dO Yc (gR S4 h0 0) 1).bind fun d5 => if ((gI S4 d5 6) ≤ (q2.1 - q2.1 / 10 * 10) : Prop) then (some (0, S4)) else (some (1, S4))
set_option maxHeartbeats 4000000 in
set_option maxRecDepth 100000 in
theorem kX3_drawnForMice (l : Launch) (G : xG) (S : xS) (h0 : Nat) (r : Int32) (S' : xS) (hk0 : xk Yc h0 = 3) (hM : mX3_drawnForMice S h0 = some (r, S')) : xM l yX3_drawnForMice cX3_drawnForMice 2 (some .boolean) 1 22 G Yc [.ref (xad G h0)] S (xQi G Yc r S') := by
  refine x_start (own := RX3) (by decide +kernel) rfl (Nat.le_of_ble_eq_true rfl) ?_
  intro p e s m below meth c ls X hl hP hS
  obtain ⟨hx, hb, hml, hown, hts, hr, hlk, hK, hE, hJ⟩ := id X
  have hl : lv_has ls 2 [(0, .ref (xad G h0))] := hl
  unfold mX3_drawnForMice at hM
  refine lv_aload_n hx hb dX3_drawnForMice_0 rfl (lv_at hl 0 rfl) ?_
  obtain ⟨d1, ed1, hM⟩ := xb hM
  refine fdX3_0 X hP hk0 qw53 dX3_drawnForMice_1 ed1 ?_
  refine lv_bipush (v := 13) hx hb dX3_drawnForMice_4 (by decide) ?_
  obtain ⟨q2, eq2, hM⟩ := xb hM
  refine x_goi (x_runV (rest := []) X (kX1_get l G S d1 13 q2.1 q2.2 (dO_k ed1) eq2) qw94 okX1_get ⟨Nat.le_of_ble_eq_true rfl, Nat.le_of_ble_eq_true rfl⟩ (dO_k ed1) (by decide) rfl hP hS rfl hl.1 rfl (Nat.le_of_ble_eq_true rfl) dX3_drawnForMice_6) hS (fun H locs hP hS => ?_)
  refine lv_istore_n (lv' := [(1, .int q2.1), (0, .ref (xad G h0))]) hx hb dX3_drawnForMice_9 rfl hl (by decide) rfl (fun ls hl => ?_)
  refine lv_aload_n hx hb dX3_drawnForMice_10 rfl (lv_at hl 1 rfl) ?_
  obtain ⟨d3, ed3, hM⟩ := xb hM
  refine fdX3_0 X hP hk0 qw53 dX3_drawnForMice_11 ed3 ?_
  refine lv_bipush (v := 13) hx hb dX3_drawnForMice_14 (by decide) ?_
  refine lv_iload_n hx hb dX3_drawnForMice_16 rfl (lv_at hl 0 rfl) ?_
  refine lv_sipush (v := 173) hx hb dX3_drawnForMice_17 (by decide) ?_
  refine lv_imul hx hb dX3_drawnForMice_20 ?_
  refine lv_bipush (v := 79) hx hb dX3_drawnForMice_21 (by decide) ?_
  refine lv_iadd hx hb dX3_drawnForMice_23 ?_
  refine lv_sipush (v := 30089) hx hb dX3_drawnForMice_24 (by decide) ?_
  refine lv_irem hx hb dX3_drawnForMice_27 (by decide) ?_
  obtain ⟨S4, eS4, hM⟩ := xb hM
  refine x_gov (x_runV (rest := []) X (kX1_put l G q2.2 d3 13 (((q2.1 * 173) + 79) - ((q2.1 * 173) + 79) / 30089 * 30089) S4 (dO_k ed3) eS4) qw95 okX1_put ⟨Nat.le_of_ble_eq_true rfl, Nat.le_of_ble_eq_true rfl⟩ (dO_k ed3) (by decide) rfl hP hS rfl hl.1 rfl (Nat.le_of_ble_eq_true rfl) dX3_drawnForMice_28) hS (fun H locs hP hS => ?_)
  refine lv_iload_n hx hb dX3_drawnForMice_31 rfl (lv_at hl 0 rfl) ?_
  refine lv_bipush (v := 10) hx hb dX3_drawnForMice_32 (by decide) ?_
  refine lv_irem hx hb dX3_drawnForMice_34 (by decide) ?_
  refine lv_aload_n hx hb dX3_drawnForMice_35 rfl (lv_at hl 1 rfl) ?_
  obtain ⟨d5, ed5, hM⟩ := xb hM
  refine fdX3_0 X hP hk0 qw53 dX3_drawnForMice_36 ed5 ?_
  refine fgX1_6 X hP (dO_k ed5) qw96 dX3_drawnForMice_39 ?_
  refine lv_icmp_ge (tgt := 49) hx hb dX3_drawnForMice_42 (by decide) (fun c6 => ?_) (fun c6 => ?_)
  · replace hM := (if_pos c6).symm.trans hM
    refine lv_iconst (v := 0) hx hb dX3_drawnForMice_49 (by decide) ?_
    exact x_zret X hP hS (Or.inl rfl) hM dX3_drawnForMice_50
  · replace hM := (if_neg c6).symm.trans hM
    refine lv_iconst (v := 1) hx hb dX3_drawnForMice_45 (by decide) ?_
    refine lv_goto (tgt := 50) hx hb dX3_drawnForMice_46 (by decide) ?_
    exact x_zret X hP hS (Or.inr rfl) hM dX3_drawnForMice_50

def jX3_dawnForAll_77 (k21 : xS → Nat → Int32 → Int32 → Int32 → Option (Int32 × xS)) (S : xS) (h0 : Nat) (v1 : Int32) (v2 : Int32) (v3 : Int32) : Option (Int32 × xS) := (dO Yc (gR S h0 0) 1).bind fun d1 => (mX1_dayAt S v3).bind fun q2 => (dO Yc (gR q2.2 h0 1) 0).bind fun d3 => (mX1_put q2.2 d1 q2.1 (gI q2.2 d3 1)).bind fun S4 => (dO Yc (gR S4 h0 0) 1).bind fun d5 => (mX1_leftAt S4 v3).bind fun q6 => (dO Yc (gR q6.2 h0 1) 0).bind fun d7 => (mX1_put q6.2 d5 q6.1 (gI q6.2 d7 2)).bind fun S8 => k21 S8 h0 v1 v2 (v3 + 1)
set_option maxHeartbeats 4000000 in
set_option maxRecDepth 100000 in
theorem wX3_dawnForAll_77 {p : Program} {l : Launch} {e : Env} {s : State} {m : MethodId} {args : Array Value} {below : List Frame} {meth : Method} {c : Code} {G : xG} {r : Int32} {S' : xS} (X : xX p s m args meth c cX3_dawnForAll 4 (some .int) RX3 G Yc) (k21 : xS → Nat → Int32 → Int32 → Int32 → Option (Int32 × xS)) (hh21 : ∀ (S : xS) (h0 : Nat) (v1 : Int32) (v2 : Int32) (v3 : Int32) (H : Heap) (locs : List Loc) (ls : Array Slot), k21 S h0 v1 v2 v3 = some (r, S') → xk Yc h0 = 3 → xP G Yc S H → va_S (xA G Yc) s.heap H locs → lv_has ls 4 [(0, .ref (xad G h0)), (1, .int v1), (2, .int v2), (3, .int v3)] → W p l e (xr 4 99) s m args below meth c H locs 0 0 (MQ below (xQi G Yc r S') args s 0 0 (xA G Yc)) (F0 m 21 ls [])) : ∀ (S : xS) (h0 : Nat) (v1 : Int32) (v2 : Int32) (v3 : Int32) (H : Heap) (locs : List Loc) (ls : Array Slot), jX3_dawnForAll_77 k21 S h0 v1 v2 v3 = some (r, S') → xk Yc h0 = 3 → xP G Yc S H → va_S (xA G Yc) s.heap H locs → lv_has ls 4 [(0, .ref (xad G h0)), (1, .int v1), (2, .int v2), (3, .int v3)] → W p l e (xr 4 99) s m args below meth c H locs 0 0 (MQ below (xQi G Yc r S') args s 0 0 (xA G Yc)) (F0 m 77 ls []) := by
  obtain ⟨hx, hb, hml, hown, hts, hr, hlk, hK, hE, hJ⟩ := id X
  intro S h0 v1 v2 v3 H locs ls hM hk0 hP hS hl
  unfold jX3_dawnForAll_77 at hM
  refine lv_aload_n hx hb dX3_dawnForAll_77 rfl (lv_at hl 0 rfl) ?_
  obtain ⟨d1, ed1, hM⟩ := xb hM
  refine fdX3_0 X hP hk0 qw53 dX3_dawnForAll_78 ed1 ?_
  refine lv_iload_n hx hb dX3_dawnForAll_81 rfl (lv_at hl 3 rfl) ?_
  obtain ⟨q2, eq2, hM⟩ := xb hM
  refine x_goi (x_runS (rest := [.ref (xad G d1)]) X (kX1_dayAt l G S v3 q2.1 q2.2  eq2) qw104 okX1_dayAt ⟨Nat.le_of_ble_eq_true rfl, Nat.le_of_ble_eq_true rfl⟩ hP hS rfl hl.1 rfl (Nat.le_of_ble_eq_true rfl) dX3_dawnForAll_82) hS (fun H locs hP hS => ?_)
  refine lv_aload_n hx hb dX3_dawnForAll_85 rfl (lv_at hl 0 rfl) ?_
  obtain ⟨d3, ed3, hM⟩ := xb hM
  refine fdX3_1 X hP hk0 qw98 dX3_dawnForAll_86 ed3 ?_
  refine fgX0_1 X hP (dO_k ed3) qw50 dX3_dawnForAll_89 ?_
  obtain ⟨S4, eS4, hM⟩ := xb hM
  refine x_gov (x_runV (rest := []) X (kX1_put l G q2.2 d1 q2.1 (gI q2.2 d3 1) S4 (dO_k ed1) eS4) qw95 okX1_put ⟨Nat.le_of_ble_eq_true rfl, Nat.le_of_ble_eq_true rfl⟩ (dO_k ed1) (by decide) rfl hP hS rfl hl.1 rfl (Nat.le_of_ble_eq_true rfl) dX3_dawnForAll_92) hS (fun H locs hP hS => ?_)
  refine lv_aload_n hx hb dX3_dawnForAll_95 rfl (lv_at hl 0 rfl) ?_
  obtain ⟨d5, ed5, hM⟩ := xb hM
  refine fdX3_0 X hP hk0 qw53 dX3_dawnForAll_96 ed5 ?_
  refine lv_iload_n hx hb dX3_dawnForAll_99 rfl (lv_at hl 3 rfl) ?_
  obtain ⟨q6, eq6, hM⟩ := xb hM
  refine x_goi (x_runS (rest := [.ref (xad G d5)]) X (kX1_leftAt l G S4 v3 q6.1 q6.2  eq6) qw105 okX1_leftAt ⟨Nat.le_of_ble_eq_true rfl, Nat.le_of_ble_eq_true rfl⟩ hP hS rfl hl.1 rfl (Nat.le_of_ble_eq_true rfl) dX3_dawnForAll_100) hS (fun H locs hP hS => ?_)
  refine lv_aload_n hx hb dX3_dawnForAll_103 rfl (lv_at hl 0 rfl) ?_
  obtain ⟨d7, ed7, hM⟩ := xb hM
  refine fdX3_1 X hP hk0 qw98 dX3_dawnForAll_104 ed7 ?_
  refine fgX0_2 X hP (dO_k ed7) qw48 dX3_dawnForAll_107 ?_
  obtain ⟨S8, eS8, hM⟩ := xb hM
  refine x_gov (x_runV (rest := []) X (kX1_put l G q6.2 d5 q6.1 (gI q6.2 d7 2) S8 (dO_k ed5) eS8) qw95 okX1_put ⟨Nat.le_of_ble_eq_true rfl, Nat.le_of_ble_eq_true rfl⟩ (dO_k ed5) (by decide) rfl hP hS rfl hl.1 rfl (Nat.le_of_ble_eq_true rfl) dX3_dawnForAll_110) hS (fun H locs hP hS => ?_)
  refine lv_iinc (v := v3 + 1) (lv' := [(3, .int (v3 + 1)), (0, .ref (xad G h0)), (1, .int v1), (2, .int v2)]) hx hb dX3_dawnForAll_113 hl (k := 3) rfl (by first | rfl | exact congrArg (fun z => v3 + z) (by decide)) (by decide) rfl (fun ls hl => ?_)
  refine lv_goto (tgt := 21) hx hb dX3_dawnForAll_116 (by decide) ?_
  exact hh21 S8 h0 v1 v2 (v3 + 1) _ _ _ hM hk0 hP hS (lv_sub hl [1, 2, 3, 0] rfl)
def lX3_dawnForAll_21 : Nat → xS → Nat → Int32 → Int32 → Int32 → Option (Int32 × xS)
  | 0, _, _, _, _, _ => none
  | n + 1, S, h0, v1, v2, v3 => if (2 ≤ v3 : Prop) then ((dO Yc (gR S h0 0) 1).bind fun d2 => (mX1_put S d2 12 (v2 + 1)).bind fun S3 => some (v1, S3)) else ((dO Yc (gR S h0 1) 0).bind fun d4 => (dO Yc (gR S h0 0) 1).bind fun d5 => (mX0_loadFrom S d4 d5 v3).bind fun S6 => (dO Yc (gR S6 h0 1) 0).bind fun d7 => (dO Yc (gR S6 h0 0) 1).bind fun d8 => (mX1_sitters S6 d8 v3).bind fun q9 => (mX3_dawnAt q9.2 h0 d7 q9.1).bind fun q10 => (mX3_drawnForMice q10.2 h0).bind fun q11 => if (q11.1 = 0 : Prop) then (jX3_dawnForAll_77 (lX3_dawnForAll_21  n) q11.2 h0 (v1 + q10.1) v2 v3) else ((dO Yc (gR q11.2 h0 1) 0).bind fun d13 => (mX0_loseSlice q11.2 d13).bind fun q14 => if (q14.1 = 0 : Prop) then (jX3_dawnForAll_77 (lX3_dawnForAll_21  n) q14.2 h0 (v1 + q10.1) v2 v3) else (jX3_dawnForAll_77 (lX3_dawnForAll_21  n) q14.2 h0 ((v1 + q10.1) + 1) v2 v3)))
set_option maxHeartbeats 4000000 in
set_option maxRecDepth 100000 in
theorem wX3_dawnForAll_21 {p : Program} {l : Launch} {e : Env} {s : State} {m : MethodId} {args : Array Value} {below : List Frame} {meth : Method} {c : Code} {G : xG} {r : Int32} {S' : xS} (X : xX p s m args meth c cX3_dawnForAll 4 (some .int) RX3 G Yc) : ∀ (n : Nat), ∀ (S : xS) (h0 : Nat) (v1 : Int32) (v2 : Int32) (v3 : Int32) (H : Heap) (locs : List Loc) (ls : Array Slot), lX3_dawnForAll_21  n S h0 v1 v2 v3 = some (r, S') → xk Yc h0 = 3 → xP G Yc S H → va_S (xA G Yc) s.heap H locs → lv_has ls 4 [(0, .ref (xad G h0)), (1, .int v1), (2, .int v2), (3, .int v3)] → W p l e (xr 4 99) s m args below meth c H locs 0 0 (MQ below (xQi G Yc r S') args s 0 0 (xA G Yc)) (F0 m 21 ls []) := by
  obtain ⟨hx, hb, hml, hown, hts, hr, hlk, hK, hE, hJ⟩ := id X
  intro n
  induction n with
  | zero =>
    intro S h0 v1 v2 v3 H locs ls hM
    rw [lX3_dawnForAll_21.eq_1] at hM
    cases hM
  | succ n ih =>
    intro S h0 v1 v2 v3 H locs ls hM hk0 hP hS hl
    rw [lX3_dawnForAll_21.eq_2] at hM
    refine lv_iload_n hx hb dX3_dawnForAll_21 rfl (lv_at hl 3 rfl) ?_
    refine lv_iconst (v := 2) hx hb dX3_dawnForAll_22 (by decide) ?_
    refine lv_icmp_ge (tgt := 119) hx hb dX3_dawnForAll_23 (by decide) (fun c1 => ?_) (fun c1 => ?_)
    · replace hM := (if_pos c1).symm.trans hM
      refine lv_aload_n hx hb dX3_dawnForAll_119 rfl (lv_at hl 0 rfl) ?_
      obtain ⟨d2, ed2, hM⟩ := xb hM
      refine fdX3_0 X hP hk0 qw53 dX3_dawnForAll_120 ed2 ?_
      refine lv_bipush (v := 12) hx hb dX3_dawnForAll_123 (by decide) ?_
      refine lv_iload_n hx hb dX3_dawnForAll_125 rfl (lv_at hl 2 rfl) ?_
      refine lv_iconst (v := 1) hx hb dX3_dawnForAll_126 (by decide) ?_
      refine lv_iadd hx hb dX3_dawnForAll_127 ?_
      obtain ⟨S3, eS3, hM⟩ := xb hM
      refine x_gov (x_runV (rest := []) X (kX1_put l G S d2 12 (v2 + 1) S3 (dO_k ed2) eS3) qw95 okX1_put ⟨Nat.le_of_ble_eq_true rfl, Nat.le_of_ble_eq_true rfl⟩ (dO_k ed2) (by decide) rfl hP hS rfl hl.1 rfl (Nat.le_of_ble_eq_true rfl) dX3_dawnForAll_128) hS (fun H locs hP hS => ?_)
      refine lv_iload_n hx hb dX3_dawnForAll_131 rfl (lv_at hl 1 rfl) ?_
      exact x_iret X hP hS hM dX3_dawnForAll_132
    · replace hM := (if_neg c1).symm.trans hM
      refine lv_aload_n hx hb dX3_dawnForAll_26 rfl (lv_at hl 0 rfl) ?_
      obtain ⟨d4, ed4, hM⟩ := xb hM
      refine fdX3_1 X hP hk0 qw98 dX3_dawnForAll_27 ed4 ?_
      refine lv_aload_n hx hb dX3_dawnForAll_30 rfl (lv_at hl 0 rfl) ?_
      obtain ⟨d5, ed5, hM⟩ := xb hM
      refine fdX3_0 X hP hk0 qw53 dX3_dawnForAll_31 ed5 ?_
      refine lv_iload_n hx hb dX3_dawnForAll_34 rfl (lv_at hl 3 rfl) ?_
      obtain ⟨S6, eS6, hM⟩ := xb hM
      refine x_gov (x_runV (rest := []) X (kX0_loadFrom l G S d4 d5 v3 S6 (dO_k ed4) (dO_k ed5) eS6) qw99 okX0_loadFrom ⟨Nat.le_of_ble_eq_true rfl, Nat.le_of_ble_eq_true rfl⟩ (dO_k ed4) (by decide) rfl hP hS rfl hl.1 rfl (Nat.le_of_ble_eq_true rfl) dX3_dawnForAll_35) hS (fun H locs hP hS => ?_)
      refine lv_iload_n hx hb dX3_dawnForAll_38 rfl (lv_at hl 1 rfl) ?_
      refine lv_aload_n hx hb dX3_dawnForAll_39 rfl (lv_at hl 0 rfl) ?_
      refine lv_aload_n hx hb dX3_dawnForAll_40 rfl (lv_at hl 0 rfl) ?_
      obtain ⟨d7, ed7, hM⟩ := xb hM
      refine fdX3_1 X hP hk0 qw98 dX3_dawnForAll_41 ed7 ?_
      refine lv_aload_n hx hb dX3_dawnForAll_44 rfl (lv_at hl 0 rfl) ?_
      obtain ⟨d8, ed8, hM⟩ := xb hM
      refine fdX3_0 X hP hk0 qw53 dX3_dawnForAll_45 ed8 ?_
      refine lv_iload_n hx hb dX3_dawnForAll_48 rfl (lv_at hl 3 rfl) ?_
      obtain ⟨q9, eq9, hM⟩ := xb hM
      refine x_goi (x_runV (rest := [.ref (xad G d7), .ref (xad G h0), .int v1]) X (kX1_sitters l G S6 d8 v3 q9.1 q9.2 (dO_k ed8) eq9) qw100 okX1_sitters ⟨Nat.le_of_ble_eq_true rfl, Nat.le_of_ble_eq_true rfl⟩ (dO_k ed8) (by decide) rfl hP hS rfl hl.1 rfl (Nat.le_of_ble_eq_true rfl) dX3_dawnForAll_49) hS (fun H locs hP hS => ?_)
      obtain ⟨q10, eq10, hM⟩ := xb hM
      refine x_goi (x_runV (rest := [.int v1]) X (kX3_dawnAt l G q9.2 h0 d7 q9.1 q10.1 q10.2 hk0 (dO_k ed7) eq10) qw101 okX3_dawnAt ⟨Nat.le_of_ble_eq_true rfl, Nat.le_of_ble_eq_true rfl⟩ hk0 (by decide) rfl hP hS rfl hl.1 rfl (Nat.le_of_ble_eq_true rfl) dX3_dawnForAll_52) hS (fun H locs hP hS => ?_)
      refine lv_iadd hx hb dX3_dawnForAll_55 ?_
      refine lv_istore_n (lv' := [(1, .int (v1 + q10.1)), (0, .ref (xad G h0)), (2, .int v2), (3, .int v3)]) hx hb dX3_dawnForAll_56 rfl hl (by decide) rfl (fun ls hl => ?_)
      refine lv_aload_n hx hb dX3_dawnForAll_57 rfl (lv_at hl 1 rfl) ?_
      obtain ⟨q11, eq11, hM⟩ := xb hM
      refine x_goi (x_runV (rest := []) X (kX3_drawnForMice l G q10.2 h0 q11.1 q11.2 hk0 eq11) qw102 okX3_drawnForMice ⟨Nat.le_of_ble_eq_true rfl, Nat.le_of_ble_eq_true rfl⟩ hk0 (by decide) rfl hP hS rfl hl.1 rfl (Nat.le_of_ble_eq_true rfl) dX3_dawnForAll_58) hS (fun H locs hP hS => ?_)
      refine lv_if_eq (tgt := 77) hx hb dX3_dawnForAll_61 (by decide) (fun c12 => ?_) (fun c12 => ?_)
      · replace hM := (if_pos c12).symm.trans hM
        exact wX3_dawnForAll_77 X (lX3_dawnForAll_21  n) ih q11.2 h0 (v1 + q10.1) v2 v3 _ _ _ hM hk0 hP hS (lv_sub hl [1, 0, 2, 3] rfl)
      · replace hM := (if_neg c12).symm.trans hM
        refine lv_aload_n hx hb dX3_dawnForAll_64 rfl (lv_at hl 1 rfl) ?_
        obtain ⟨d13, ed13, hM⟩ := xb hM
        refine fdX3_1 X hP hk0 qw98 dX3_dawnForAll_65 ed13 ?_
        obtain ⟨q14, eq14, hM⟩ := xb hM
        refine x_goi (x_runV (rest := []) X (kX0_loseSlice l G q11.2 d13 q14.1 q14.2 (dO_k ed13) eq14) qw103 okX0_loseSlice ⟨Nat.le_of_ble_eq_true rfl, Nat.le_of_ble_eq_true rfl⟩ (dO_k ed13) (by decide) rfl hP hS rfl hl.1 rfl (Nat.le_of_ble_eq_true rfl) dX3_dawnForAll_68) hS (fun H locs hP hS => ?_)
        refine lv_if_eq (tgt := 77) hx hb dX3_dawnForAll_71 (by decide) (fun c15 => ?_) (fun c15 => ?_)
        · replace hM := (if_pos c15).symm.trans hM
          exact wX3_dawnForAll_77 X (lX3_dawnForAll_21  n) ih q14.2 h0 (v1 + q10.1) v2 v3 _ _ _ hM hk0 hP hS (lv_sub hl [1, 0, 2, 3] rfl)
        · replace hM := (if_neg c15).symm.trans hM
          refine lv_iinc (v := (v1 + q10.1) + 1) (lv' := [(1, .int ((v1 + q10.1) + 1)), (0, .ref (xad G h0)), (2, .int v2), (3, .int v3)]) hx hb dX3_dawnForAll_74 hl (k := 0) rfl (by first | rfl | exact congrArg (fun z => (v1 + q10.1) + z) (by decide)) (by decide) rfl (fun ls hl => ?_)
          exact wX3_dawnForAll_77 X (lX3_dawnForAll_21  n) ih q14.2 h0 ((v1 + q10.1) + 1) v2 v3 _ _ _ hM hk0 hP hS (lv_sub hl [1, 0, 2, 3] rfl)
def mX3_dawnForAll (S : xS) (h0 : Nat) : Option (Int32 × xS) := (dO Yc (gR S h0 0) 1).bind fun d1 => (mX1_remember S d1).bind fun S2 => (dO Yc (gR S2 h0 0) 1).bind fun d3 => (mX1_get S2 d3 12).bind fun q4 => lX3_dawnForAll_21  5000 q4.2 h0 0 q4.1 0
set_option maxHeartbeats 4000000 in
set_option maxRecDepth 100000 in
theorem kX3_dawnForAll (l : Launch) (G : xG) (S : xS) (h0 : Nat) (r : Int32) (S' : xS) (hk0 : xk Yc h0 = 3) (hM : mX3_dawnForAll S h0 = some (r, S')) : xM l yX3_dawnForAll cX3_dawnForAll 4 (some .int) 4 99 G Yc [.ref (xad G h0)] S (xQi G Yc r S') := by
  refine x_start (own := RX3) (by decide +kernel) rfl (Nat.le_of_ble_eq_true rfl) ?_
  intro p e s m below meth c ls X hl hP hS
  obtain ⟨hx, hb, hml, hown, hts, hr, hlk, hK, hE, hJ⟩ := id X
  have hl : lv_has ls 4 [(0, .ref (xad G h0))] := hl
  unfold mX3_dawnForAll at hM
  refine lv_aload_n hx hb dX3_dawnForAll_0 rfl (lv_at hl 0 rfl) ?_
  obtain ⟨d1, ed1, hM⟩ := xb hM
  refine fdX3_0 X hP hk0 qw53 dX3_dawnForAll_1 ed1 ?_
  obtain ⟨S2, eS2, hM⟩ := xb hM
  refine x_gov (x_runV (rest := []) X (kX1_remember l G S d1 S2 (dO_k ed1) eS2) qw97 okX1_remember ⟨Nat.le_of_ble_eq_true rfl, Nat.le_of_ble_eq_true rfl⟩ (dO_k ed1) (by decide) rfl hP hS rfl hl.1 rfl (Nat.le_of_ble_eq_true rfl) dX3_dawnForAll_4) hS (fun H locs hP hS => ?_)
  refine lv_iconst (v := 0) hx hb dX3_dawnForAll_7 (by decide) ?_
  refine lv_istore_n (lv' := [(1, .int 0), (0, .ref (xad G h0))]) hx hb dX3_dawnForAll_8 rfl hl (by decide) rfl (fun ls hl => ?_)
  refine lv_aload_n hx hb dX3_dawnForAll_9 rfl (lv_at hl 1 rfl) ?_
  obtain ⟨d3, ed3, hM⟩ := xb hM
  refine fdX3_0 X hP hk0 qw53 dX3_dawnForAll_10 ed3 ?_
  refine lv_bipush (v := 12) hx hb dX3_dawnForAll_13 (by decide) ?_
  obtain ⟨q4, eq4, hM⟩ := xb hM
  refine x_goi (x_runV (rest := []) X (kX1_get l G S2 d3 12 q4.1 q4.2 (dO_k ed3) eq4) qw94 okX1_get ⟨Nat.le_of_ble_eq_true rfl, Nat.le_of_ble_eq_true rfl⟩ (dO_k ed3) (by decide) rfl hP hS rfl hl.1 rfl (Nat.le_of_ble_eq_true rfl) dX3_dawnForAll_15) hS (fun H locs hP hS => ?_)
  refine lv_istore_n (lv' := [(2, .int q4.1), (1, .int 0), (0, .ref (xad G h0))]) hx hb dX3_dawnForAll_18 rfl hl (by decide) rfl (fun ls hl => ?_)
  refine lv_iconst (v := 0) hx hb dX3_dawnForAll_19 (by decide) ?_
  refine lv_istore_n (lv' := [(3, .int 0), (2, .int q4.1), (1, .int 0), (0, .ref (xad G h0))]) hx hb dX3_dawnForAll_20 rfl hl (by decide) rfl (fun ls hl => ?_)
  exact wX3_dawnForAll_21 X  5000 q4.2 h0 0 q4.1 0 _ _ _ hM hk0 hP hS (lv_sub hl [3, 2, 1, 0] rfl)

def mX3_wouldEat (S : xS) (h0 : Nat) (p1 : Int32) : Option (Int32 × xS) := (dO Yc (gR S h0 0) 1).bind fun d1 => (mX1_seatOf S d1 p1).bind fun q2 => if (q2.1 = 2 : Prop) then (some (0, q2.2)) else ((dO Yc (gR q2.2 h0 1) 0).bind fun d4 => (dO Yc (gR q2.2 h0 0) 1).bind fun d5 => (mX0_loadFrom q2.2 d4 d5 q2.1).bind fun S6 => (dO Yc (gR S6 h0 1) 0).bind fun d7 => (mX3_eatenBy S6 h0 (1 <<< (p1 &&& 31)) d7).bind fun q8 => some (q8.1, q8.2))
set_option maxHeartbeats 4000000 in
set_option maxRecDepth 100000 in
theorem kX3_wouldEat (l : Launch) (G : xG) (S : xS) (h0 : Nat) (p1 : Int32) (r : Int32) (S' : xS) (hk0 : xk Yc h0 = 3) (hM : mX3_wouldEat S h0 p1 = some (r, S')) : xM l yX3_wouldEat cX3_wouldEat 3 (some .int) 3 77 G Yc [.ref (xad G h0), .int p1] S (xQi G Yc r S') := by
  refine x_start (own := RX3) (by decide +kernel) rfl (Nat.le_of_ble_eq_true rfl) ?_
  intro p e s m below meth c ls X hl hP hS
  obtain ⟨hx, hb, hml, hown, hts, hr, hlk, hK, hE, hJ⟩ := id X
  have hl : lv_has ls 3 [(0, .ref (xad G h0)), (1, .int p1)] := hl
  unfold mX3_wouldEat at hM
  refine lv_aload_n hx hb dX3_wouldEat_0 rfl (lv_at hl 0 rfl) ?_
  obtain ⟨d1, ed1, hM⟩ := xb hM
  refine fdX3_0 X hP hk0 qw53 dX3_wouldEat_1 ed1 ?_
  refine lv_iload_n hx hb dX3_wouldEat_4 rfl (lv_at hl 1 rfl) ?_
  obtain ⟨q2, eq2, hM⟩ := xb hM
  refine x_goi (x_runV (rest := []) X (kX1_seatOf l G S d1 p1 q2.1 q2.2 (dO_k ed1) eq2) qw106 okX1_seatOf ⟨Nat.le_of_ble_eq_true rfl, Nat.le_of_ble_eq_true rfl⟩ (dO_k ed1) (by decide) rfl hP hS rfl hl.1 rfl (Nat.le_of_ble_eq_true rfl) dX3_wouldEat_5) hS (fun H locs hP hS => ?_)
  refine lv_istore_n (lv' := [(2, .int q2.1), (0, .ref (xad G h0)), (1, .int p1)]) hx hb dX3_wouldEat_8 rfl hl (by decide) rfl (fun ls hl => ?_)
  refine lv_iload_n hx hb dX3_wouldEat_9 rfl (lv_at hl 0 rfl) ?_
  refine lv_iconst (v := 2) hx hb dX3_wouldEat_10 (by decide) ?_
  refine lv_icmp_ne (tgt := 16) hx hb dX3_wouldEat_11 (by decide) (fun c3 => ?_) (fun c3 => ?_)
  · replace hM := (if_neg c3).symm.trans hM
    refine lv_aload_n hx hb dX3_wouldEat_16 rfl (lv_at hl 1 rfl) ?_
    obtain ⟨d4, ed4, hM⟩ := xb hM
    refine fdX3_1 X hP hk0 qw98 dX3_wouldEat_17 ed4 ?_
    refine lv_aload_n hx hb dX3_wouldEat_20 rfl (lv_at hl 1 rfl) ?_
    obtain ⟨d5, ed5, hM⟩ := xb hM
    refine fdX3_0 X hP hk0 qw53 dX3_wouldEat_21 ed5 ?_
    refine lv_iload_n hx hb dX3_wouldEat_24 rfl (lv_at hl 0 rfl) ?_
    obtain ⟨S6, eS6, hM⟩ := xb hM
    refine x_gov (x_runV (rest := []) X (kX0_loadFrom l G q2.2 d4 d5 q2.1 S6 (dO_k ed4) (dO_k ed5) eS6) qw99 okX0_loadFrom ⟨Nat.le_of_ble_eq_true rfl, Nat.le_of_ble_eq_true rfl⟩ (dO_k ed4) (by decide) rfl hP hS rfl hl.1 rfl (Nat.le_of_ble_eq_true rfl) dX3_wouldEat_25) hS (fun H locs hP hS => ?_)
    refine lv_aload_n hx hb dX3_wouldEat_28 rfl (lv_at hl 1 rfl) ?_
    refine lv_iconst (v := 1) hx hb dX3_wouldEat_29 (by decide) ?_
    refine lv_iload_n hx hb dX3_wouldEat_30 rfl (lv_at hl 2 rfl) ?_
    refine lv_ishl hx hb dX3_wouldEat_31 ?_
    refine lv_aload_n hx hb dX3_wouldEat_32 rfl (lv_at hl 1 rfl) ?_
    obtain ⟨d7, ed7, hM⟩ := xb hM
    refine fdX3_1 X hP hk0 qw98 dX3_wouldEat_33 ed7 ?_
    obtain ⟨q8, eq8, hM⟩ := xb hM
    refine x_goi (x_runV (rest := []) X (kX3_eatenBy l G S6 h0 (1 <<< (p1 &&& 31)) d7 q8.1 q8.2 hk0 (dO_k ed7) eq8) qw60 okX3_eatenBy ⟨Nat.le_of_ble_eq_true rfl, Nat.le_of_ble_eq_true rfl⟩ hk0 (by decide) rfl hP hS rfl hl.1 rfl (Nat.le_of_ble_eq_true rfl) dX3_wouldEat_36) hS (fun H locs hP hS => ?_)
    exact x_iret X hP hS hM dX3_wouldEat_39
  · replace hM := (if_pos c3).symm.trans hM
    refine lv_iconst (v := 0) hx hb dX3_wouldEat_14 (by decide) ?_
    exact x_iret X hP hS hM dX3_wouldEat_15

def mX6_clear (S : xS) (h0 : Nat) : Option xS := xlet (pI S h0 2 0) fun S1 => xlet (pI S1 h0 3 0) fun S2 => xlet (pI S2 h0 4 0) fun S3 => xlet (pI S3 h0 5 0) fun S4 => xlet (pI S4 h0 6 0) fun S5 => xlet (pI S5 h0 10 0) fun S6 => some S6
set_option maxHeartbeats 4000000 in
set_option maxRecDepth 100000 in
theorem kX6_clear (l : Launch) (G : xG) (S : xS) (h0 : Nat) (S' : xS) (hk0 : xk Yc h0 = 6) (hM : mX6_clear S h0 = some S') : xM l yX6_clear cX6_clear 1 none 0 0 G Yc [.ref (xad G h0)] S (xQv G Yc S') := by
  refine x_start (own := RX6) (by decide +kernel) rfl (Nat.le_of_ble_eq_true rfl) ?_
  intro p e s m below meth c ls X hl hP hS
  obtain ⟨hx, hb, hml, hown, hts, hr, hlk, hK, hE, hJ⟩ := id X
  have hl : lv_has ls 1 [(0, .ref (xad G h0))] := hl
  unfold mX6_clear at hM
  refine lv_aload_n hx hb dX6_clear_0 rfl (lv_at hl 0 rfl) ?_
  refine lv_iconst (v := 0) hx hb dX6_clear_1 (by decide) ?_
  obtain ⟨S1, eS1, hM⟩ := xlet_ex hM
  refine fpX6_2 X hP hS hk0 qw107 dX6_clear_2 eS1 (fun H locs hP hS => ?_)
  refine lv_aload_n hx hb dX6_clear_5 rfl (lv_at hl 0 rfl) ?_
  refine lv_iconst (v := 0) hx hb dX6_clear_6 (by decide) ?_
  obtain ⟨S2, eS2, hM⟩ := xlet_ex hM
  refine fpX6_3 X hP hS hk0 qw23 dX6_clear_7 eS2 (fun H locs hP hS => ?_)
  refine lv_aload_n hx hb dX6_clear_10 rfl (lv_at hl 0 rfl) ?_
  refine lv_iconst (v := 0) hx hb dX6_clear_11 (by decide) ?_
  obtain ⟨S3, eS3, hM⟩ := xlet_ex hM
  refine fpX6_4 X hP hS hk0 qw24 dX6_clear_12 eS3 (fun H locs hP hS => ?_)
  refine lv_aload_n hx hb dX6_clear_15 rfl (lv_at hl 0 rfl) ?_
  refine lv_iconst (v := 0) hx hb dX6_clear_16 (by decide) ?_
  obtain ⟨S4, eS4, hM⟩ := xlet_ex hM
  refine fpX6_5 X hP hS hk0 qw46 dX6_clear_17 eS4 (fun H locs hP hS => ?_)
  refine lv_aload_n hx hb dX6_clear_20 rfl (lv_at hl 0 rfl) ?_
  refine lv_iconst (v := 0) hx hb dX6_clear_21 (by decide) ?_
  obtain ⟨S5, eS5, hM⟩ := xlet_ex hM
  refine fpX6_6 X hP hS hk0 qw47 dX6_clear_22 eS5 (fun H locs hP hS => ?_)
  refine lv_aload_n hx hb dX6_clear_25 rfl (lv_at hl 0 rfl) ?_
  refine lv_iconst (v := 0) hx hb dX6_clear_26 (by decide) ?_
  obtain ⟨S6, eS6, hM⟩ := xlet_ex hM
  refine fpX6_10 X hP hS hk0 qw108 dX6_clear_27 eS6 (fun H locs hP hS => ?_)
  exact x_vret X hP hS hM dX6_clear_30

def mX7_byteAt (S : xS) (h0 : Nat) (p1 : Int32) : Option (Int32 × xS) := if (p1 < 0 : Prop) then (some (0, S)) else (if ((gI S h0 1) ≤ p1 : Prop) then (some (0, S)) else (if (300 ≤ p1 : Prop) then (some (0, S)) else ((dO Yc (gR S h0 0) 10).bind fun d4 => (aI Yc S d4 p1).bind fun x5 => some (x5, S))))
set_option maxHeartbeats 4000000 in
set_option maxRecDepth 100000 in
theorem kX7_byteAt (l : Launch) (G : xG) (S : xS) (h0 : Nat) (p1 : Int32) (r : Int32) (S' : xS) (hk0 : xk Yc h0 = 7) (hM : mX7_byteAt S h0 p1 = some (r, S')) : xM l yX7_byteAt cX7_byteAt 2 (some .int) 0 0 G Yc [.ref (xad G h0), .int p1] S (xQi G Yc r S') := by
  refine x_start (own := RX7) (by decide +kernel) rfl (Nat.le_of_ble_eq_true rfl) ?_
  intro p e s m below meth c ls X hl hP hS
  obtain ⟨hx, hb, hml, hown, hts, hr, hlk, hK, hE, hJ⟩ := id X
  have hl : lv_has ls 2 [(0, .ref (xad G h0)), (1, .int p1)] := hl
  unfold mX7_byteAt at hM
  refine lv_iload_n hx hb dX7_byteAt_0 rfl (lv_at hl 1 rfl) ?_
  refine lv_if_lt (tgt := 28) hx hb dX7_byteAt_1 (by decide) (fun c1 => ?_) (fun c1 => ?_)
  · replace hM := (if_pos c1).symm.trans hM
    refine lv_iconst (v := 0) hx hb dX7_byteAt_28 (by decide) ?_
    exact x_iret X hP hS hM dX7_byteAt_29
  · replace hM := (if_neg c1).symm.trans hM
    refine lv_iload_n hx hb dX7_byteAt_4 rfl (lv_at hl 1 rfl) ?_
    refine lv_aload_n hx hb dX7_byteAt_5 rfl (lv_at hl 0 rfl) ?_
    refine fgX7_1 X hP hk0 qw109 dX7_byteAt_6 ?_
    refine lv_icmp_ge (tgt := 28) hx hb dX7_byteAt_9 (by decide) (fun c2 => ?_) (fun c2 => ?_)
    · replace hM := (if_pos c2).symm.trans hM
      refine lv_iconst (v := 0) hx hb dX7_byteAt_28 (by decide) ?_
      exact x_iret X hP hS hM dX7_byteAt_29
    · replace hM := (if_neg c2).symm.trans hM
      refine lv_iload_n hx hb dX7_byteAt_12 rfl (lv_at hl 1 rfl) ?_
      refine lv_sipush (v := 300) hx hb dX7_byteAt_13 (by decide) ?_
      refine lv_icmp_ge (tgt := 28) hx hb dX7_byteAt_16 (by decide) (fun c3 => ?_) (fun c3 => ?_)
      · replace hM := (if_pos c3).symm.trans hM
        refine lv_iconst (v := 0) hx hb dX7_byteAt_28 (by decide) ?_
        exact x_iret X hP hS hM dX7_byteAt_29
      · replace hM := (if_neg c3).symm.trans hM
        refine lv_aload_n hx hb dX7_byteAt_19 rfl (lv_at hl 0 rfl) ?_
        obtain ⟨d4, ed4, hM⟩ := xb hM
        refine fdX7_0 X hP hk0 qw110 dX7_byteAt_20 ed4 ?_
        refine lv_iload_n hx hb dX7_byteAt_23 rfl (lv_at hl 1 rfl) ?_
        obtain ⟨x5, ex5, hM⟩ := xb hM
        refine x_iald X hP (dO_k ed4) ex5 dX7_byteAt_24 ?_
        refine lv_goto (tgt := 29) hx hb dX7_byteAt_25 (by decide) ?_
        exact x_iret X hP hS hM dX7_byteAt_29

def mX7_isBlank (S : xS) (p0 : Int32) : Option (Int32 × xS) := if (p0 = 32 : Prop) then (some (1, S)) else (if (p0 = 10 : Prop) then (some (1, S)) else (some (0, S)))
set_option maxHeartbeats 4000000 in
set_option maxRecDepth 100000 in
theorem kX7_isBlank (l : Launch) (G : xG) (S : xS) (p0 : Int32) (r : Int32) (S' : xS) (hM : mX7_isBlank S p0 = some (r, S')) : xM l yX7_isBlank cX7_isBlank 1 (some .boolean) 0 0 G Yc [.int p0] S (xQi G Yc r S') := by
  refine x_start (own := RX7) (by decide +kernel) rfl (Nat.le_of_ble_eq_true rfl) ?_
  intro p e s m below meth c ls X hl hP hS
  obtain ⟨hx, hb, hml, hown, hts, hr, hlk, hK, hE, hJ⟩ := id X
  have hl : lv_has ls 1 [(0, .int p0)] := hl
  unfold mX7_isBlank at hM
  refine lv_iload_n hx hb dX7_isBlank_0 rfl (lv_at hl 0 rfl) ?_
  refine lv_bipush (v := 32) hx hb dX7_isBlank_1 (by decide) ?_
  refine lv_icmp_eq (tgt := 12) hx hb dX7_isBlank_3 (by decide) (fun c1 => ?_) (fun c1 => ?_)
  · replace hM := (if_pos c1).symm.trans hM
    refine lv_iconst (v := 1) hx hb dX7_isBlank_12 (by decide) ?_
    refine lv_goto (tgt := 17) hx hb dX7_isBlank_13 (by decide) ?_
    exact x_zret X hP hS (Or.inr rfl) hM dX7_isBlank_17
  · replace hM := (if_neg c1).symm.trans hM
    refine lv_iload_n hx hb dX7_isBlank_6 rfl (lv_at hl 0 rfl) ?_
    refine lv_bipush (v := 10) hx hb dX7_isBlank_7 (by decide) ?_
    refine lv_icmp_ne (tgt := 16) hx hb dX7_isBlank_9 (by decide) (fun c2 => ?_) (fun c2 => ?_)
    · replace hM := (if_neg c2).symm.trans hM
      refine lv_iconst (v := 0) hx hb dX7_isBlank_16 (by decide) ?_
      exact x_zret X hP hS (Or.inl rfl) hM dX7_isBlank_17
    · replace hM := (if_pos c2).symm.trans hM
      refine lv_iconst (v := 1) hx hb dX7_isBlank_12 (by decide) ?_
      refine lv_goto (tgt := 17) hx hb dX7_isBlank_13 (by decide) ?_
      exact x_zret X hP hS (Or.inr rfl) hM dX7_isBlank_17

def jX7_isLetter_12 (S : xS) (v0 : Int32) : Option (Int32 × xS) := if (v0 < 65 : Prop) then (some (0, S)) else (if (90 < v0 : Prop) then (some (0, S)) else (some (1, S)))
set_option maxHeartbeats 4000000 in
set_option maxRecDepth 100000 in
theorem wX7_isLetter_12 {p : Program} {l : Launch} {e : Env} {s : State} {m : MethodId} {args : Array Value} {below : List Frame} {meth : Method} {c : Code} {G : xG} {r : Int32} {S' : xS} (X : xX p s m args meth c cX7_isLetter 1 (some .boolean) RX7 G Yc) : ∀ (S : xS) (v0 : Int32) (H : Heap) (locs : List Loc) (ls : Array Slot), jX7_isLetter_12  S v0 = some (r, S') → xP G Yc S H → va_S (xA G Yc) s.heap H locs → lv_has ls 1 [(0, .int v0)] → W p l e (xr 0 0) s m args below meth c H locs 0 0 (MQ below (xQi G Yc r S') args s 0 0 (xA G Yc)) (F0 m 12 ls []) := by
  obtain ⟨hx, hb, hml, hown, hts, hr, hlk, hK, hE, hJ⟩ := id X
  intro S v0 H locs ls hM  hP hS hl
  unfold jX7_isLetter_12 at hM
  refine lv_iload_n hx hb dX7_isLetter_12 rfl (lv_at hl 0 rfl) ?_
  refine lv_bipush (v := 65) hx hb dX7_isLetter_13 (by decide) ?_
  refine lv_icmp_lt (tgt := 28) hx hb dX7_isLetter_15 (by decide) (fun c1 => ?_) (fun c1 => ?_)
  · replace hM := (if_pos c1).symm.trans hM
    refine lv_iconst (v := 0) hx hb dX7_isLetter_28 (by decide) ?_
    exact x_zret X hP hS (Or.inl rfl) hM dX7_isLetter_29
  · replace hM := (if_neg c1).symm.trans hM
    refine lv_iload_n hx hb dX7_isLetter_18 rfl (lv_at hl 0 rfl) ?_
    refine lv_bipush (v := 90) hx hb dX7_isLetter_19 (by decide) ?_
    refine lv_icmp_gt (tgt := 28) hx hb dX7_isLetter_21 (by decide) (fun c2 => ?_) (fun c2 => ?_)
    · replace hM := (if_pos c2).symm.trans hM
      refine lv_iconst (v := 0) hx hb dX7_isLetter_28 (by decide) ?_
      exact x_zret X hP hS (Or.inl rfl) hM dX7_isLetter_29
    · replace hM := (if_neg c2).symm.trans hM
      refine lv_iconst (v := 1) hx hb dX7_isLetter_24 (by decide) ?_
      refine lv_goto (tgt := 29) hx hb dX7_isLetter_25 (by decide) ?_
      exact x_zret X hP hS (Or.inr rfl) hM dX7_isLetter_29
def mX7_isLetter (S : xS) (p0 : Int32) : Option (Int32 × xS) := if (p0 < 97 : Prop) then (jX7_isLetter_12  S p0) else (if (p0 ≤ 122 : Prop) then (some (1, S)) else (jX7_isLetter_12  S p0))
set_option maxHeartbeats 4000000 in
set_option maxRecDepth 100000 in
theorem kX7_isLetter (l : Launch) (G : xG) (S : xS) (p0 : Int32) (r : Int32) (S' : xS) (hM : mX7_isLetter S p0 = some (r, S')) : xM l yX7_isLetter cX7_isLetter 1 (some .boolean) 0 0 G Yc [.int p0] S (xQi G Yc r S') := by
  refine x_start (own := RX7) (by decide +kernel) rfl (Nat.le_of_ble_eq_true rfl) ?_
  intro p e s m below meth c ls X hl hP hS
  obtain ⟨hx, hb, hml, hown, hts, hr, hlk, hK, hE, hJ⟩ := id X
  have hl : lv_has ls 1 [(0, .int p0)] := hl
  unfold mX7_isLetter at hM
  refine lv_iload_n hx hb dX7_isLetter_0 rfl (lv_at hl 0 rfl) ?_
  refine lv_bipush (v := 97) hx hb dX7_isLetter_1 (by decide) ?_
  refine lv_icmp_lt (tgt := 12) hx hb dX7_isLetter_3 (by decide) (fun c1 => ?_) (fun c1 => ?_)
  · replace hM := (if_pos c1).symm.trans hM
    exact wX7_isLetter_12 X  S p0 _ _ _ hM  hP hS (lv_sub hl [0] rfl)
  · replace hM := (if_neg c1).symm.trans hM
    refine lv_iload_n hx hb dX7_isLetter_6 rfl (lv_at hl 0 rfl) ?_
    refine lv_bipush (v := 122) hx hb dX7_isLetter_7 (by decide) ?_
    refine lv_icmp_le (tgt := 24) hx hb dX7_isLetter_9 (by decide) (fun c2 => ?_) (fun c2 => ?_)
    · replace hM := (if_pos c2).symm.trans hM
      refine lv_iconst (v := 1) hx hb dX7_isLetter_24 (by decide) ?_
      refine lv_goto (tgt := 29) hx hb dX7_isLetter_25 (by decide) ?_
      exact x_zret X hP hS (Or.inr rfl) hM dX7_isLetter_29
    · replace hM := (if_neg c2).symm.trans hM
      exact wX7_isLetter_12 X  S p0 _ _ _ hM  hP hS (lv_sub hl [0] rfl)

def lX7_spells_52 : Nat → xS → Nat → Int32 → Int32 → Int32 → Option (Int32 × xS)
  | 0, _, _, _, _, _ => none
  | n + 1, S, h0, v1, v3, v4 => if (v3 ≤ v4 : Prop) then (some (1, S)) else ((xch 0 (v1 + v4)).bind fun x2 => (dO Yc (gR S h0 0) 10).bind fun d3 => (aI Yc S d3 ((gI S h0 3) + v4)).bind fun x4 => if (x2 = x4 : Prop) then (lX7_spells_52 n S h0 v1 v3 (v4 + 1)) else (some (0, S)))
set_option maxHeartbeats 4000000 in
set_option maxRecDepth 100000 in
theorem wX7_spells_52 {p : Program} {l : Launch} {e : Env} {s : State} {m : MethodId} {args : Array Value} {below : List Frame} {meth : Method} {c : Code} {G : xG} {r : Int32} {S' : xS} (X : xX p s m args meth c cX7_spells 5 (some .boolean) RX7 G Yc) : ∀ (n : Nat), ∀ (S : xS) (h0 : Nat) (v1 : Int32) (v3 : Int32) (v4 : Int32) (H : Heap) (locs : List Loc) (ls : Array Slot), lX7_spells_52  n S h0 v1 v3 v4 = some (r, S') → xk Yc h0 = 7 → xP G Yc S H → va_S (xA G Yc) s.heap H locs → lv_has ls 5 [(0, .ref (xad G h0)), (1, .int v1), (3, .int v3), (4, .int v4)] → W p l e (xr 4 120) s m args below meth c H locs 0 0 (MQ below (xQi G Yc r S') args s 0 0 (xA G Yc)) (F0 m 52 ls []) := by
  obtain ⟨hx, hb, hml, hown, hts, hr, hlk, hK, hE, hJ⟩ := id X
  intro n
  induction n with
  | zero =>
    intro S h0 v1 v3 v4 H locs ls hM
    rw [lX7_spells_52.eq_1] at hM
    cases hM
  | succ n ih =>
    intro S h0 v1 v3 v4 H locs ls hM hk0 hP hS hl
    rw [lX7_spells_52.eq_2] at hM
    refine lv_iload hx hb dX7_spells_52 (lv_at hl 3 rfl) ?_
    refine lv_iload_n hx hb dX7_spells_54 rfl (lv_at hl 2 rfl) ?_
    refine lv_icmp_ge (tgt := 90) hx hb dX7_spells_55 (by decide) (fun c1 => ?_) (fun c1 => ?_)
    · replace hM := (if_pos c1).symm.trans hM
      refine lv_iconst (v := 1) hx hb dX7_spells_90 (by decide) ?_
      exact x_zret X hP hS (Or.inr rfl) hM dX7_spells_91
    · replace hM := (if_neg c1).symm.trans hM
      refine va_ldcS hx hb hown hE.1 dX7_spells_58 ?_
      refine lv_iload_n hx hb dX7_spells_60 rfl (lv_at hl 1 rfl) ?_
      refine lv_iload hx hb dX7_spells_61 (lv_at hl 3 rfl) ?_
      refine lv_iadd hx hb dX7_spells_63 ?_
      obtain ⟨x2, ex2, hM⟩ := xb hM
      refine x_goi (x_runT (rest := []) X 0 (by decide) (kJ_chr l G Yc S 0 (v1 + v4) x2 ex2 (by decide)) qw114 okJ0_charAt_5068e ⟨Nat.le_of_ble_eq_true rfl, Nat.le_of_ble_eq_true rfl⟩ hP hS rfl hl.1 rfl (Nat.le_of_ble_eq_true rfl) dX7_spells_64) hS (fun H locs hP hS => ?_)
      refine lv_aload_n hx hb dX7_spells_67 rfl (lv_at hl 0 rfl) ?_
      obtain ⟨d3, ed3, hM⟩ := xb hM
      refine fdX7_0 X hP hk0 qw110 dX7_spells_68 ed3 ?_
      refine lv_aload_n hx hb dX7_spells_71 rfl (lv_at hl 0 rfl) ?_
      refine fgX7_3 X hP hk0 qw112 dX7_spells_72 ?_
      refine lv_iload hx hb dX7_spells_75 (lv_at hl 3 rfl) ?_
      refine lv_iadd hx hb dX7_spells_77 ?_
      obtain ⟨x4, ex4, hM⟩ := xb hM
      refine x_iald X hP (dO_k ed3) ex4 dX7_spells_78 ?_
      refine lv_icmp_eq (tgt := 84) hx hb dX7_spells_79 (by decide) (fun c5 => ?_) (fun c5 => ?_)
      · replace hM := (if_pos c5).symm.trans hM
        refine lv_iinc (v := v4 + 1) (lv' := [(4, .int (v4 + 1)), (0, .ref (xad G h0)), (1, .int v1), (3, .int v3)]) hx hb dX7_spells_84 hl (k := 3) rfl (by first | rfl | exact congrArg (fun z => v4 + z) (by decide)) (by decide) rfl (fun ls hl => ?_)
        refine lv_goto (tgt := 52) hx hb dX7_spells_87 (by decide) ?_
        exact ih S h0 v1 v3 (v4 + 1) _ _ _ hM hk0 hP hS (lv_sub hl [1, 2, 3, 0] rfl)
      · replace hM := (if_neg c5).symm.trans hM
        refine lv_iconst (v := 0) hx hb dX7_spells_82 (by decide) ?_
        exact x_zret X hP hS (Or.inl rfl) hM dX7_spells_83
def mX7_spells (S : xS) (h0 : Nat) (p1 : Int32) (p2 : Int32) : Option (Int32 × xS) := if ((p2 - p1) = ((gI S h0 5) - (gI S h0 3)) : Prop) then (if (p1 < 0 : Prop) then (some (0, S)) else (if (89 < p2 : Prop) then (some (0, S)) else (if ((gI S h0 3) < 0 : Prop) then (some (0, S)) else (if ((gI S h0 5) ≤ 300 : Prop) then (lX7_spells_52  5000 S h0 p1 (p2 - p1) 0) else (some (0, S)))))) else (some (0, S))
set_option maxHeartbeats 4000000 in
set_option maxRecDepth 100000 in
theorem kX7_spells (l : Launch) (G : xG) (S : xS) (h0 : Nat) (p1 : Int32) (p2 : Int32) (r : Int32) (S' : xS) (hk0 : xk Yc h0 = 7) (hM : mX7_spells S h0 p1 p2 = some (r, S')) : xM l yX7_spells cX7_spells 5 (some .boolean) 4 120 G Yc [.ref (xad G h0), .int p1, .int p2] S (xQi G Yc r S') := by
  refine x_start (own := RX7) (by decide +kernel) rfl (Nat.le_of_ble_eq_true rfl) ?_
  intro p e s m below meth c ls X hl hP hS
  obtain ⟨hx, hb, hml, hown, hts, hr, hlk, hK, hE, hJ⟩ := id X
  have hl : lv_has ls 5 [(0, .ref (xad G h0)), (1, .int p1), (2, .int p2)] := hl
  unfold mX7_spells at hM
  refine lv_iload_n hx hb dX7_spells_0 rfl (lv_at hl 2 rfl) ?_
  refine lv_iload_n hx hb dX7_spells_1 rfl (lv_at hl 1 rfl) ?_
  refine lv_isub hx hb dX7_spells_2 ?_
  refine lv_istore_n (lv' := [(3, .int (p2 - p1)), (0, .ref (xad G h0)), (1, .int p1), (2, .int p2)]) hx hb dX7_spells_3 rfl hl (by decide) rfl (fun ls hl => ?_)
  refine lv_iload_n hx hb dX7_spells_4 rfl (lv_at hl 0 rfl) ?_
  refine lv_aload_n hx hb dX7_spells_5 rfl (lv_at hl 1 rfl) ?_
  refine fgX7_5 X hP hk0 qw111 dX7_spells_6 ?_
  refine lv_aload_n hx hb dX7_spells_9 rfl (lv_at hl 1 rfl) ?_
  refine fgX7_3 X hP hk0 qw112 dX7_spells_10 ?_
  refine lv_isub hx hb dX7_spells_13 ?_
  refine lv_icmp_ne (tgt := 47) hx hb dX7_spells_14 (by decide) (fun c1 => ?_) (fun c1 => ?_)
  · replace hM := (if_neg c1).symm.trans hM
    refine lv_iconst (v := 0) hx hb dX7_spells_47 (by decide) ?_
    exact x_zret X hP hS (Or.inl rfl) hM dX7_spells_48
  · replace hM := (if_pos c1).symm.trans hM
    refine lv_iload_n hx hb dX7_spells_17 rfl (lv_at hl 2 rfl) ?_
    refine lv_if_lt (tgt := 47) hx hb dX7_spells_18 (by decide) (fun c2 => ?_) (fun c2 => ?_)
    · replace hM := (if_pos c2).symm.trans hM
      refine lv_iconst (v := 0) hx hb dX7_spells_47 (by decide) ?_
      exact x_zret X hP hS (Or.inl rfl) hM dX7_spells_48
    · replace hM := (if_neg c2).symm.trans hM
      refine lv_iload_n hx hb dX7_spells_21 rfl (lv_at hl 3 rfl) ?_
      refine va_ldcS hx hb hown hE.1 dX7_spells_22 ?_
      refine x_goi (x_runT (rest := [.int p2]) X 0 (by decide) (kJ_len l G Yc S 0 (by decide)) qw113 okJ0_length_8abf5 ⟨Nat.le_of_ble_eq_true rfl, Nat.le_of_ble_eq_true rfl⟩ hP hS rfl hl.1 rfl (Nat.le_of_ble_eq_true rfl) dX7_spells_24) hS (fun H locs hP hS => ?_)
      refine x_topi (v := 89) (by decide) ?_
      refine lv_icmp_gt (tgt := 47) hx hb dX7_spells_27 (by decide) (fun c3 => ?_) (fun c3 => ?_)
      · replace hM := (if_pos c3).symm.trans hM
        refine lv_iconst (v := 0) hx hb dX7_spells_47 (by decide) ?_
        exact x_zret X hP hS (Or.inl rfl) hM dX7_spells_48
      · replace hM := (if_neg c3).symm.trans hM
        refine lv_aload_n hx hb dX7_spells_30 rfl (lv_at hl 1 rfl) ?_
        refine fgX7_3 X hP hk0 qw112 dX7_spells_31 ?_
        refine lv_if_lt (tgt := 47) hx hb dX7_spells_34 (by decide) (fun c4 => ?_) (fun c4 => ?_)
        · replace hM := (if_pos c4).symm.trans hM
          refine lv_iconst (v := 0) hx hb dX7_spells_47 (by decide) ?_
          exact x_zret X hP hS (Or.inl rfl) hM dX7_spells_48
        · replace hM := (if_neg c4).symm.trans hM
          refine lv_aload_n hx hb dX7_spells_37 rfl (lv_at hl 1 rfl) ?_
          refine fgX7_5 X hP hk0 qw111 dX7_spells_38 ?_
          refine lv_sipush (v := 300) hx hb dX7_spells_41 (by decide) ?_
          refine lv_icmp_le (tgt := 49) hx hb dX7_spells_44 (by decide) (fun c5 => ?_) (fun c5 => ?_)
          · replace hM := (if_pos c5).symm.trans hM
            refine lv_iconst (v := 0) hx hb dX7_spells_49 (by decide) ?_
            refine lv_istore (lv' := [(4, .int 0), (3, .int (p2 - p1)), (0, .ref (xad G h0)), (1, .int p1), (2, .int p2)]) hx hb dX7_spells_50 hl (by decide) rfl (fun ls hl => ?_)
            exact wX7_spells_52 X  5000 S h0 p1 (p2 - p1) 0 _ _ _ hM hk0 hP hS (lv_sub hl [2, 3, 1, 0] rfl)
          · replace hM := (if_neg c5).symm.trans hM
            refine lv_iconst (v := 0) hx hb dX7_spells_47 (by decide) ?_
            exact x_zret X hP hS (Or.inl rfl) hM dX7_spells_48

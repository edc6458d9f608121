def lX7_addWord_3 : Nat → xS → Nat → Int32 → Int32 → Option xS
  | 0, _, _, _, _ => none
  | n + 1, S, h0, v1, v2 => if (v2 < 0 : Prop) then (some S) else (if ((gI S h0 1) < 0 : Prop) then (lX7_addWord_3 n S h0 v1 (v2 + (-8))) else (if (300 ≤ (gI S h0 1) : Prop) then (lX7_addWord_3 n S h0 v1 (v2 + (-8))) else ((dO Yc (gR S h0 0) 10).bind fun d4 => (sI Yc S d4 (gI S h0 1) ((v1 >>> (v2 &&& 31)) &&& 255)).bind fun S5 => xlet (pI S5 h0 1 ((gI S5 h0 1) + 1)) fun S6 => lX7_addWord_3 n S6 h0 v1 (v2 + (-8)))))
set_option maxHeartbeats 4000000 in
set_option maxRecDepth 100000 in
theorem wX7_addWord_3 {p : Program} {l : Launch} {e : Env} {s : State} {m : MethodId} {args : Array Value} {below : List Frame} {meth : Method} {c : Code} {G : xG} {S' : xS} (X : xX p s m args meth c cX7_addWord 3 none RX7 G Yc) : ∀ (n : Nat), ∀ (S : xS) (h0 : Nat) (v1 : Int32) (v2 : Int32) (H : Heap) (locs : List Loc) (ls : Array Slot), lX7_addWord_3  n S h0 v1 v2 = some S' → xk Yc h0 = 7 → xP G Yc S H → va_S (xA G Yc) s.heap H locs → lv_has ls 3 [(0, .ref (xad G h0)), (1, .int v1), (2, .int v2)] → W p l e (xr 0 0) s m args below meth c H locs 0 0 (MQ below (xQv G Yc S') args s 0 0 (xA G Yc)) (F0 m 3 ls []) := by
  obtain ⟨hx, hb, hml, hown, hts, hr, hlk, hK, hE, hJ⟩ := id X
  intro n
  induction n with
  | zero =>
    intro S h0 v1 v2 H locs ls hM
    rw [lX7_addWord_3.eq_1] at hM
    cases hM
  | succ n ih =>
    intro S h0 v1 v2 H locs ls hM hk0 hP hS hl
    rw [lX7_addWord_3.eq_2] at hM
    refine lv_iload_n hx hb dX7_addWord_3 rfl (lv_at hl 2 rfl) ?_
    refine lv_if_lt (tgt := 56) hx hb dX7_addWord_4 (by decide) (fun c1 => ?_) (fun c1 => ?_)
    · replace hM := (if_pos c1).symm.trans hM
      exact x_vret X hP hS hM dX7_addWord_56
    · replace hM := (if_neg c1).symm.trans hM
      refine lv_aload_n hx hb dX7_addWord_7 rfl (lv_at hl 0 rfl) ?_
      refine fgX7_1 X hP hk0 qw109 dX7_addWord_8 ?_
      refine lv_if_lt (tgt := 50) hx hb dX7_addWord_11 (by decide) (fun c2 => ?_) (fun c2 => ?_)
      · replace hM := (if_pos c2).symm.trans hM
        refine lv_iinc (v := v2 + (-8)) (lv' := [(2, .int (v2 + (-8))), (0, .ref (xad G h0)), (1, .int v1)]) hx hb dX7_addWord_50 hl (k := 2) rfl (by first | rfl | exact congrArg (fun z => v2 + z) (by decide)) (by decide) rfl (fun ls hl => ?_)
        refine lv_goto (tgt := 3) hx hb dX7_addWord_53 (by decide) ?_
        exact ih S h0 v1 (v2 + (-8)) _ _ _ hM hk0 hP hS (lv_sub hl [1, 2, 0] rfl)
      · replace hM := (if_neg c2).symm.trans hM
        refine lv_aload_n hx hb dX7_addWord_14 rfl (lv_at hl 0 rfl) ?_
        refine fgX7_1 X hP hk0 qw109 dX7_addWord_15 ?_
        refine lv_sipush (v := 300) hx hb dX7_addWord_18 (by decide) ?_
        refine lv_icmp_ge (tgt := 50) hx hb dX7_addWord_21 (by decide) (fun c3 => ?_) (fun c3 => ?_)
        · replace hM := (if_pos c3).symm.trans hM
          refine lv_iinc (v := v2 + (-8)) (lv' := [(2, .int (v2 + (-8))), (0, .ref (xad G h0)), (1, .int v1)]) hx hb dX7_addWord_50 hl (k := 2) rfl (by first | rfl | exact congrArg (fun z => v2 + z) (by decide)) (by decide) rfl (fun ls hl => ?_)
          refine lv_goto (tgt := 3) hx hb dX7_addWord_53 (by decide) ?_
          exact ih S h0 v1 (v2 + (-8)) _ _ _ hM hk0 hP hS (lv_sub hl [1, 2, 0] rfl)
        · replace hM := (if_neg c3).symm.trans hM
          refine lv_aload_n hx hb dX7_addWord_24 rfl (lv_at hl 0 rfl) ?_
          obtain ⟨d4, ed4, hM⟩ := xb hM
          refine fdX7_0 X hP hk0 qw110 dX7_addWord_25 ed4 ?_
          refine lv_aload_n hx hb dX7_addWord_28 rfl (lv_at hl 0 rfl) ?_
          refine fgX7_1 X hP hk0 qw109 dX7_addWord_29 ?_
          refine lv_iload_n hx hb dX7_addWord_32 rfl (lv_at hl 1 rfl) ?_
          refine lv_iload_n hx hb dX7_addWord_33 rfl (lv_at hl 2 rfl) ?_
          refine lv_ishr hx hb dX7_addWord_34 ?_
          refine lv_sipush (v := 255) hx hb dX7_addWord_35 (by decide) ?_
          refine lv_iand hx hb dX7_addWord_38 ?_
          obtain ⟨S5, eS5, hM⟩ := xb hM
          refine x_iast X hP hS (dO_k ed4) eS5 dX7_addWord_39 (fun H locs hP hS => ?_)
          refine lv_aload_n hx hb dX7_addWord_40 rfl (lv_at hl 0 rfl) ?_
          refine lv_dup hx hb dX7_addWord_41 rfl ?_
          refine fgX7_1 X hP hk0 qw109 dX7_addWord_42 ?_
          refine lv_iconst (v := 1) hx hb dX7_addWord_45 (by decide) ?_
          refine lv_iadd hx hb dX7_addWord_46 ?_
          obtain ⟨S6, eS6, hM⟩ := xlet_ex hM
          refine fpX7_1 X hP hS hk0 qw109 dX7_addWord_47 eS6 (fun H locs hP hS => ?_)
          refine lv_iinc (v := v2 + (-8)) (lv' := [(2, .int (v2 + (-8))), (0, .ref (xad G h0)), (1, .int v1)]) hx hb dX7_addWord_50 hl (k := 2) rfl (by first | rfl | exact congrArg (fun z => v2 + z) (by decide)) (by decide) rfl (fun ls hl => ?_)
          refine lv_goto (tgt := 3) hx hb dX7_addWord_53 (by decide) ?_
          exact ih S6 h0 v1 (v2 + (-8)) _ _ _ hM hk0 hP hS (lv_sub hl [1, 2, 0] rfl)
def mX7_addWord (S : xS) (h0 : Nat) (p1 : Int32) : Option xS := lX7_addWord_3  5000 S h0 p1 24
set_option maxHeartbeats 4000000 in
set_option maxRecDepth 100000 in
theorem kX7_addWord (l : Launch) (G : xG) (S : xS) (h0 : Nat) (p1 : Int32) (S' : xS) (hk0 : xk Yc h0 = 7) (hM : mX7_addWord S h0 p1 = some S') : xM l yX7_addWord cX7_addWord 3 none 0 0 G Yc [.ref (xad G h0), .int p1] S (xQv G Yc S') := by
  refine x_start (own := RX7) (by decide +kernel) rfl (Nat.le_of_ble_eq_true rfl) ?_
  intro p e s m below meth c ls X hl hP hS
  obtain ⟨hx, hb, hml, hown, hts, hr, hlk, hK, hE, hJ⟩ := id X
  have hl : lv_has ls 3 [(0, .ref (xad G h0)), (1, .int p1)] := hl
  unfold mX7_addWord at hM
  refine lv_bipush (v := 24) hx hb dX7_addWord_0 (by decide) ?_
  refine lv_istore_n (lv' := [(2, .int 24), (0, .ref (xad G h0)), (1, .int p1)]) hx hb dX7_addWord_2 rfl hl (by decide) rfl (fun ls hl => ?_)
  exact wX7_addWord_3 X  5000 S h0 p1 24 _ _ _ hM hk0 hP hS (lv_sub hl [1, 2, 0] rfl)

def mX8_sister (S : xS) (h0 : Nat) (p1 : Int32) : Option (Int32 × xS) := if (p1 < 0 : Prop) then (some ((-1), S)) else (if (p1 ≤ 9 : Prop) then ((dO Yc (gR S h0 0) 1).bind fun d3 => (mX1_tellSister S d3 p1).bind fun q4 => some (q4.1, q4.2)) else (some ((-1), S)))
set_option maxHeartbeats 4000000 in
set_option maxRecDepth 100000 in
theorem kX8_sister (l : Launch) (G : xG) (S : xS) (h0 : Nat) (p1 : Int32) (r : Int32) (S' : xS) (hk0 : xk Yc h0 = 8) (hM : mX8_sister S h0 p1 = some (r, S')) : xM l yX8_sister cX8_sister 2 (some .int) 1 21 G Yc [.ref (xad G h0), .int p1] S (xQi G Yc r S') := by
  refine x_start (own := RX8) (by decide +kernel) rfl (Nat.le_of_ble_eq_true rfl) ?_
  intro p e s m below meth c ls X hl hP hS
  obtain ⟨hx, hb, hml, hown, hts, hr, hlk, hK, hE, hJ⟩ := id X
  have hl : lv_has ls 2 [(0, .ref (xad G h0)), (1, .int p1)] := hl
  unfold mX8_sister at hM
  refine lv_iload_n hx hb dX8_sister_0 rfl (lv_at hl 1 rfl) ?_
  refine lv_if_lt (tgt := 10) hx hb dX8_sister_1 (by decide) (fun c1 => ?_) (fun c1 => ?_)
  · replace hM := (if_pos c1).symm.trans hM
    refine lv_iconst (v := (-1)) hx hb dX8_sister_10 (by decide) ?_
    exact x_iret X hP hS hM dX8_sister_11
  · replace hM := (if_neg c1).symm.trans hM
    refine lv_iload_n hx hb dX8_sister_4 rfl (lv_at hl 1 rfl) ?_
    refine lv_bipush (v := 9) hx hb dX8_sister_5 (by decide) ?_
    refine lv_icmp_le (tgt := 12) hx hb dX8_sister_7 (by decide) (fun c2 => ?_) (fun c2 => ?_)
    · replace hM := (if_pos c2).symm.trans hM
      refine lv_aload_n hx hb dX8_sister_12 rfl (lv_at hl 0 rfl) ?_
      obtain ⟨d3, ed3, hM⟩ := xb hM
      refine fdX8_0 X hP hk0 qw169 dX8_sister_13 ed3 ?_
      refine lv_iload_n hx hb dX8_sister_16 rfl (lv_at hl 1 rfl) ?_
      obtain ⟨q4, eq4, hM⟩ := xb hM
      refine x_goi (x_runV (rest := []) X (kX1_tellSister l G S d3 p1 q4.1 q4.2 (dO_k ed3) eq4) qw170 okX1_tellSister ⟨Nat.le_of_ble_eq_true rfl, Nat.le_of_ble_eq_true rfl⟩ (dO_k ed3) (by decide) rfl hP hS rfl hl.1 rfl (Nat.le_of_ble_eq_true rfl) dX8_sister_17) hS (fun H locs hP hS => ?_)
      exact x_iret X hP hS hM dX8_sister_20
    · replace hM := (if_neg c2).symm.trans hM
      refine lv_iconst (v := (-1)) hx hb dX8_sister_10 (by decide) ?_
      exact x_iret X hP hS hM dX8_sister_11

def mX8_mice (S : xS) (h0 : Nat) (p1 : Int32) : Option (Int32 × xS) := if (p1 < 0 : Prop) then (some (0, S)) else (if (p1 ≤ 10 : Prop) then ((dO Yc (gR S h0 0) 1).bind fun d3 => xlet (pI S d3 6 p1) fun S4 => some (1, S4)) else (some (0, S)))
set_option maxHeartbeats 4000000 in
set_option maxRecDepth 100000 in
theorem kX8_mice (l : Launch) (G : xG) (S : xS) (h0 : Nat) (p1 : Int32) (r : Int32) (S' : xS) (hk0 : xk Yc h0 = 8) (hM : mX8_mice S h0 p1 = some (r, S')) : xM l yX8_mice cX8_mice 2 (some .boolean) 0 0 G Yc [.ref (xad G h0), .int p1] S (xQi G Yc r S') := by
  refine x_start (own := RX8) (by decide +kernel) rfl (Nat.le_of_ble_eq_true rfl) ?_
  intro p e s m below meth c ls X hl hP hS
  obtain ⟨hx, hb, hml, hown, hts, hr, hlk, hK, hE, hJ⟩ := id X
  have hl : lv_has ls 2 [(0, .ref (xad G h0)), (1, .int p1)] := hl
  unfold mX8_mice at hM
  refine lv_iload_n hx hb dX8_mice_0 rfl (lv_at hl 1 rfl) ?_
  refine lv_if_lt (tgt := 10) hx hb dX8_mice_1 (by decide) (fun c1 => ?_) (fun c1 => ?_)
  · replace hM := (if_pos c1).symm.trans hM
    refine lv_iconst (v := 0) hx hb dX8_mice_10 (by decide) ?_
    exact x_zret X hP hS (Or.inl rfl) hM dX8_mice_11
  · replace hM := (if_neg c1).symm.trans hM
    refine lv_iload_n hx hb dX8_mice_4 rfl (lv_at hl 1 rfl) ?_
    refine lv_bipush (v := 10) hx hb dX8_mice_5 (by decide) ?_
    refine lv_icmp_le (tgt := 12) hx hb dX8_mice_7 (by decide) (fun c2 => ?_) (fun c2 => ?_)
    · replace hM := (if_pos c2).symm.trans hM
      refine lv_aload_n hx hb dX8_mice_12 rfl (lv_at hl 0 rfl) ?_
      obtain ⟨d3, ed3, hM⟩ := xb hM
      refine fdX8_0 X hP hk0 qw169 dX8_mice_13 ed3 ?_
      refine lv_iload_n hx hb dX8_mice_16 rfl (lv_at hl 1 rfl) ?_
      obtain ⟨S4, eS4, hM⟩ := xlet_ex hM
      refine fpX1_6 X hP hS (dO_k ed3) qw171 dX8_mice_17 eS4 (fun H locs hP hS => ?_)
      refine lv_iconst (v := 1) hx hb dX8_mice_20 (by decide) ?_
      exact x_zret X hP hS (Or.inr rfl) hM dX8_mice_21
    · replace hM := (if_neg c2).symm.trans hM
      refine lv_iconst (v := 0) hx hb dX8_mice_10 (by decide) ?_
      exact x_zret X hP hS (Or.inl rfl) hM dX8_mice_11

def mX8_seed (S : xS) (h0 : Nat) (p1 : Int32) : Option (Int32 × xS) := if (p1 < 0 : Prop) then (some (0, S)) else (if (p1 ≤ 9999 : Prop) then ((dO Yc (gR S h0 0) 1).bind fun d3 => (mX1_put S d3 13 ((p1 * 3) + 11)).bind fun S4 => some (1, S4)) else (some (0, S)))
set_option maxHeartbeats 4000000 in
set_option maxRecDepth 100000 in
theorem kX8_seed (l : Launch) (G : xG) (S : xS) (h0 : Nat) (p1 : Int32) (r : Int32) (S' : xS) (hk0 : xk Yc h0 = 8) (hM : mX8_seed S h0 p1 = some (r, S')) : xM l yX8_seed cX8_seed 2 (some .boolean) 1 22 G Yc [.ref (xad G h0), .int p1] S (xQi G Yc r S') := by
  refine x_start (own := RX8) (by decide +kernel) rfl (Nat.le_of_ble_eq_true rfl) ?_
  intro p e s m below meth c ls X hl hP hS
  obtain ⟨hx, hb, hml, hown, hts, hr, hlk, hK, hE, hJ⟩ := id X
  have hl : lv_has ls 2 [(0, .ref (xad G h0)), (1, .int p1)] := hl
  unfold mX8_seed at hM
  refine lv_iload_n hx hb dX8_seed_0 rfl (lv_at hl 1 rfl) ?_
  refine lv_if_lt (tgt := 11) hx hb dX8_seed_1 (by decide) (fun c1 => ?_) (fun c1 => ?_)
  · replace hM := (if_pos c1).symm.trans hM
    refine lv_iconst (v := 0) hx hb dX8_seed_11 (by decide) ?_
    exact x_zret X hP hS (Or.inl rfl) hM dX8_seed_12
  · replace hM := (if_neg c1).symm.trans hM
    refine lv_iload_n hx hb dX8_seed_4 rfl (lv_at hl 1 rfl) ?_
    refine lv_sipush (v := 9999) hx hb dX8_seed_5 (by decide) ?_
    refine lv_icmp_le (tgt := 13) hx hb dX8_seed_8 (by decide) (fun c2 => ?_) (fun c2 => ?_)
    · replace hM := (if_pos c2).symm.trans hM
      refine lv_aload_n hx hb dX8_seed_13 rfl (lv_at hl 0 rfl) ?_
      obtain ⟨d3, ed3, hM⟩ := xb hM
      refine fdX8_0 X hP hk0 qw169 dX8_seed_14 ed3 ?_
      refine lv_bipush (v := 13) hx hb dX8_seed_17 (by decide) ?_
      refine lv_iload_n hx hb dX8_seed_19 rfl (lv_at hl 1 rfl) ?_
      refine lv_iconst (v := 3) hx hb dX8_seed_20 (by decide) ?_
      refine lv_imul hx hb dX8_seed_21 ?_
      refine lv_bipush (v := 11) hx hb dX8_seed_22 (by decide) ?_
      refine lv_iadd hx hb dX8_seed_24 ?_
      obtain ⟨S4, eS4, hM⟩ := xb hM
      refine x_gov (x_runV (rest := []) X (kX1_put l G S d3 13 ((p1 * 3) + 11) S4 (dO_k ed3) eS4) qw172 okX1_put ⟨Nat.le_of_ble_eq_true rfl, Nat.le_of_ble_eq_true rfl⟩ (dO_k ed3) (by decide) rfl hP hS rfl hl.1 rfl (Nat.le_of_ble_eq_true rfl) dX8_seed_25) hS (fun H locs hP hS => ?_)
      refine lv_iconst (v := 1) hx hb dX8_seed_28 (by decide) ?_
      exact x_zret X hP hS (Or.inr rfl) hM dX8_seed_29
    · replace hM := (if_neg c2).symm.trans hM
      refine lv_iconst (v := 0) hx hb dX8_seed_11 (by decide) ?_
      exact x_zret X hP hS (Or.inl rfl) hM dX8_seed_12

def mX8_feed (S : xS) (h0 : Nat) (p1 : Int32) (p2 : Int32) (p3 : Int32) (p4 : Int32) (p5 : Int32) : Option (Int32 × xS) := (dO Yc (gR S h0 5) 7).bind fun d1 => if (((gI S d1 1) + 20) ≤ 300 : Prop) then ((dO Yc (gR S h0 5) 7).bind fun d3 => (mX7_addWord S d3 p1).bind fun S4 => (dO Yc (gR S4 h0 5) 7).bind fun d5 => (mX7_addWord S4 d5 p2).bind fun S6 => (dO Yc (gR S6 h0 5) 7).bind fun d7 => (mX7_addWord S6 d7 p3).bind fun S8 => (dO Yc (gR S8 h0 5) 7).bind fun d9 => (mX7_addWord S8 d9 p4).bind fun S10 => (dO Yc (gR S10 h0 5) 7).bind fun d11 => (mX7_addWord S10 d11 p5).bind fun S12 => (dO Yc (gR S12 h0 5) 7).bind fun d13 => some (gI S12 d13 1, S12)) else (some ((-1), S))
set_option maxHeartbeats 4000000 in
set_option maxRecDepth 100000 in
theorem kX8_feed (l : Launch) (G : xG) (S : xS) (h0 : Nat) (p1 : Int32) (p2 : Int32) (p3 : Int32) (p4 : Int32) (p5 : Int32) (r : Int32) (S' : xS) (hk0 : xk Yc h0 = 8) (hM : mX8_feed S h0 p1 p2 p3 p4 p5 = some (r, S')) : xM l yX8_feed cX8_feed 6 (some .int) 1 22 G Yc [.ref (xad G h0), .int p1, .int p2, .int p3, .int p4, .int p5] S (xQi G Yc r S') := by
  refine x_start (own := RX8) (by decide +kernel) rfl (Nat.le_of_ble_eq_true rfl) ?_
  intro p e s m below meth c ls X hl hP hS
  obtain ⟨hx, hb, hml, hown, hts, hr, hlk, hK, hE, hJ⟩ := id X
  have hl : lv_has ls 6 [(0, .ref (xad G h0)), (1, .int p1), (2, .int p2), (3, .int p3), (4, .int p4), (5, .int p5)] := hl
  unfold mX8_feed at hM
  refine lv_aload_n hx hb dX8_feed_0 rfl (lv_at hl 0 rfl) ?_
  obtain ⟨d1, ed1, hM⟩ := xb hM
  refine fdX8_5 X hP hk0 qw173 dX8_feed_1 ed1 ?_
  refine fgX7_1 X hP (dO_k ed1) qw174 dX8_feed_4 ?_
  refine lv_bipush (v := 20) hx hb dX8_feed_7 (by decide) ?_
  refine lv_iadd hx hb dX8_feed_9 ?_
  refine lv_sipush (v := 300) hx hb dX8_feed_10 (by decide) ?_
  refine lv_icmp_le (tgt := 18) hx hb dX8_feed_13 (by decide) (fun c2 => ?_) (fun c2 => ?_)
  · replace hM := (if_pos c2).symm.trans hM
    refine lv_aload_n hx hb dX8_feed_18 rfl (lv_at hl 0 rfl) ?_
    obtain ⟨d3, ed3, hM⟩ := xb hM
    refine fdX8_5 X hP hk0 qw173 dX8_feed_19 ed3 ?_
    refine lv_iload_n hx hb dX8_feed_22 rfl (lv_at hl 1 rfl) ?_
    obtain ⟨S4, eS4, hM⟩ := xb hM
    refine x_gov (x_runV (rest := []) X (kX7_addWord l G S d3 p1 S4 (dO_k ed3) eS4) qw175 okX7_addWord ⟨Nat.le_of_ble_eq_true rfl, Nat.le_of_ble_eq_true rfl⟩ (dO_k ed3) (by decide) rfl hP hS rfl hl.1 rfl (Nat.le_of_ble_eq_true rfl) dX8_feed_23) hS (fun H locs hP hS => ?_)
    refine lv_aload_n hx hb dX8_feed_26 rfl (lv_at hl 0 rfl) ?_
    obtain ⟨d5, ed5, hM⟩ := xb hM
    refine fdX8_5 X hP hk0 qw173 dX8_feed_27 ed5 ?_
    refine lv_iload_n hx hb dX8_feed_30 rfl (lv_at hl 2 rfl) ?_
    obtain ⟨S6, eS6, hM⟩ := xb hM
    refine x_gov (x_runV (rest := []) X (kX7_addWord l G S4 d5 p2 S6 (dO_k ed5) eS6) qw175 okX7_addWord ⟨Nat.le_of_ble_eq_true rfl, Nat.le_of_ble_eq_true rfl⟩ (dO_k ed5) (by decide) rfl hP hS rfl hl.1 rfl (Nat.le_of_ble_eq_true rfl) dX8_feed_31) hS (fun H locs hP hS => ?_)
    refine lv_aload_n hx hb dX8_feed_34 rfl (lv_at hl 0 rfl) ?_
    obtain ⟨d7, ed7, hM⟩ := xb hM
    refine fdX8_5 X hP hk0 qw173 dX8_feed_35 ed7 ?_
    refine lv_iload_n hx hb dX8_feed_38 rfl (lv_at hl 3 rfl) ?_
    obtain ⟨S8, eS8, hM⟩ := xb hM
    refine x_gov (x_runV (rest := []) X (kX7_addWord l G S6 d7 p3 S8 (dO_k ed7) eS8) qw175 okX7_addWord ⟨Nat.le_of_ble_eq_true rfl, Nat.le_of_ble_eq_true rfl⟩ (dO_k ed7) (by decide) rfl hP hS rfl hl.1 rfl (Nat.le_of_ble_eq_true rfl) dX8_feed_39) hS (fun H locs hP hS => ?_)
    refine lv_aload_n hx hb dX8_feed_42 rfl (lv_at hl 0 rfl) ?_
    obtain ⟨d9, ed9, hM⟩ := xb hM
    refine fdX8_5 X hP hk0 qw173 dX8_feed_43 ed9 ?_
    refine lv_iload hx hb dX8_feed_46 (lv_at hl 4 rfl) ?_
    obtain ⟨S10, eS10, hM⟩ := xb hM
    refine x_gov (x_runV (rest := []) X (kX7_addWord l G S8 d9 p4 S10 (dO_k ed9) eS10) qw175 okX7_addWord ⟨Nat.le_of_ble_eq_true rfl, Nat.le_of_ble_eq_true rfl⟩ (dO_k ed9) (by decide) rfl hP hS rfl hl.1 rfl (Nat.le_of_ble_eq_true rfl) dX8_feed_48) hS (fun H locs hP hS => ?_)
    refine lv_aload_n hx hb dX8_feed_51 rfl (lv_at hl 0 rfl) ?_
    obtain ⟨d11, ed11, hM⟩ := xb hM
    refine fdX8_5 X hP hk0 qw173 dX8_feed_52 ed11 ?_
    refine lv_iload hx hb dX8_feed_55 (lv_at hl 5 rfl) ?_
    obtain ⟨S12, eS12, hM⟩ := xb hM
    refine x_gov (x_runV (rest := []) X (kX7_addWord l G S10 d11 p5 S12 (dO_k ed11) eS12) qw175 okX7_addWord ⟨Nat.le_of_ble_eq_true rfl, Nat.le_of_ble_eq_true rfl⟩ (dO_k ed11) (by decide) rfl hP hS rfl hl.1 rfl (Nat.le_of_ble_eq_true rfl) dX8_feed_57) hS (fun H locs hP hS => ?_)
    refine lv_aload_n hx hb dX8_feed_60 rfl (lv_at hl 0 rfl) ?_
    obtain ⟨d13, ed13, hM⟩ := xb hM
    refine fdX8_5 X hP hk0 qw173 dX8_feed_61 ed13 ?_
    refine fgX7_1 X hP (dO_k ed13) qw174 dX8_feed_64 ?_
    exact x_iret X hP hS hM dX8_feed_67
  · replace hM := (if_neg c2).symm.trans hM
    refine lv_iconst (v := (-1)) hx hb dX8_feed_16 (by decide) ?_
    exact x_iret X hP hS hM dX8_feed_17

def mX8_end (S : xS) (h0 : Nat) (p1 : Int32) : Option (Int32 × xS) := if (p1 < 0 : Prop) then (some ((-1), S)) else ((dO Yc (gR S h0 5) 7).bind fun d2 => if (p1 ≤ (gI S d2 1) : Prop) then ((dO Yc (gR S h0 5) 7).bind fun d4 => xlet (pI S d4 1 p1) fun S5 => some (p1, S5)) else (some ((-1), S)))
set_option maxHeartbeats 4000000 in
set_option maxRecDepth 100000 in
theorem kX8_end (l : Launch) (G : xG) (S : xS) (h0 : Nat) (p1 : Int32) (r : Int32) (S' : xS) (hk0 : xk Yc h0 = 8) (hM : mX8_end S h0 p1 = some (r, S')) : xM l yX8_end cX8_end 2 (some .int) 0 0 G Yc [.ref (xad G h0), .int p1] S (xQi G Yc r S') := by
  refine x_start (own := RX8) (by decide +kernel) rfl (Nat.le_of_ble_eq_true rfl) ?_
  intro p e s m below meth c ls X hl hP hS
  obtain ⟨hx, hb, hml, hown, hts, hr, hlk, hK, hE, hJ⟩ := id X
  have hl : lv_has ls 2 [(0, .ref (xad G h0)), (1, .int p1)] := hl
  unfold mX8_end at hM
  refine lv_iload_n hx hb dX8_end_0 rfl (lv_at hl 1 rfl) ?_
  refine lv_if_lt (tgt := 15) hx hb dX8_end_1 (by decide) (fun c1 => ?_) (fun c1 => ?_)
  · replace hM := (if_pos c1).symm.trans hM
    refine lv_iconst (v := (-1)) hx hb dX8_end_15 (by decide) ?_
    exact x_iret X hP hS hM dX8_end_16
  · replace hM := (if_neg c1).symm.trans hM
    refine lv_iload_n hx hb dX8_end_4 rfl (lv_at hl 1 rfl) ?_
    refine lv_aload_n hx hb dX8_end_5 rfl (lv_at hl 0 rfl) ?_
    obtain ⟨d2, ed2, hM⟩ := xb hM
    refine fdX8_5 X hP hk0 qw173 dX8_end_6 ed2 ?_
    refine fgX7_1 X hP (dO_k ed2) qw174 dX8_end_9 ?_
    refine lv_icmp_le (tgt := 17) hx hb dX8_end_12 (by decide) (fun c3 => ?_) (fun c3 => ?_)
    · replace hM := (if_pos c3).symm.trans hM
      refine lv_aload_n hx hb dX8_end_17 rfl (lv_at hl 0 rfl) ?_
      obtain ⟨d4, ed4, hM⟩ := xb hM
      refine fdX8_5 X hP hk0 qw173 dX8_end_18 ed4 ?_
      refine lv_iload_n hx hb dX8_end_21 rfl (lv_at hl 1 rfl) ?_
      obtain ⟨S5, eS5, hM⟩ := xlet_ex hM
      refine fpX7_1 X hP hS (dO_k ed4) qw174 dX8_end_22 eS5 (fun H locs hP hS => ?_)
      refine lv_iload_n hx hb dX8_end_25 rfl (lv_at hl 1 rfl) ?_
      exact x_iret X hP hS hM dX8_end_26
    · replace hM := (if_neg c3).symm.trans hM
      refine lv_iconst (v := (-1)) hx hb dX8_end_15 (by decide) ?_
      exact x_iret X hP hS hM dX8_end_16

def mX8_textAt (S : xS) (h0 : Nat) (p1 : Int32) : Option (Option Nat × xS) := if (p1 < 0 : Prop) then (some ((none : Option Nat), S)) else (if (4 ≤ p1 : Prop) then (some ((none : Option Nat), S)) else ((dO Yc (gR S h0 2) 13).bind fun d3 => (aR Yc S d3 p1).bind fun x4 => some (x4, S)))
set_option maxHeartbeats 4000000 in
set_option maxRecDepth 100000 in
theorem kX8_textAt (l : Launch) (G : xG) (S : xS) (h0 : Nat) (p1 : Int32) (r : Option Nat) (S' : xS) (hk0 : xk Yc h0 = 8) (hM : mX8_textAt S h0 p1 = some (r, S')) : xM l yX8_textAt cX8_textAt 2 (some (.object "CakeCalendar$Text")) 0 0 G Yc [.ref (xad G h0), .int p1] S (xQq G Yc r S') := by
  refine x_start (own := RX8) (by decide +kernel) rfl (Nat.le_of_ble_eq_true rfl) ?_
  intro p e s m below meth c ls X hl hP hS
  obtain ⟨hx, hb, hml, hown, hts, hr, hlk, hK, hE, hJ⟩ := id X
  have hl : lv_has ls 2 [(0, .ref (xad G h0)), (1, .int p1)] := hl
  unfold mX8_textAt at hM
  refine lv_iload_n hx hb dX8_textAt_0 rfl (lv_at hl 1 rfl) ?_
  refine lv_if_lt (tgt := 18) hx hb dX8_textAt_1 (by decide) (fun c1 => ?_) (fun c1 => ?_)
  · replace hM := (if_pos c1).symm.trans hM
    refine x_null (G := G) hx hb dX8_textAt_18 ?_
    exact x_aret (v := (none : Option Nat)) X (Or.inl ⟨_, rfl⟩) hP hS hM dX8_textAt_19
  · replace hM := (if_neg c1).symm.trans hM
    refine lv_iload_n hx hb dX8_textAt_4 rfl (lv_at hl 1 rfl) ?_
    refine lv_iconst (v := 4) hx hb dX8_textAt_5 (by decide) ?_
    refine lv_icmp_ge (tgt := 18) hx hb dX8_textAt_6 (by decide) (fun c2 => ?_) (fun c2 => ?_)
    · replace hM := (if_pos c2).symm.trans hM
      refine x_null (G := G) hx hb dX8_textAt_18 ?_
      exact x_aret (v := (none : Option Nat)) X (Or.inl ⟨_, rfl⟩) hP hS hM dX8_textAt_19
    · replace hM := (if_neg c2).symm.trans hM
      refine lv_aload_n hx hb dX8_textAt_9 rfl (lv_at hl 0 rfl) ?_
      obtain ⟨d3, ed3, hM⟩ := xb hM
      refine fdX8_2 X hP hk0 qw176 dX8_textAt_10 ed3 ?_
      refine lv_iload_n hx hb dX8_textAt_13 rfl (lv_at hl 1 rfl) ?_
      obtain ⟨x4, ex4, hM⟩ := xb hM
      refine x_aald X hP (dO_k ed3) ex4 dX8_textAt_14 ?_
      refine lv_goto (tgt := 19) hx hb dX8_textAt_15 (by decide) ?_
      exact x_aret (v := x4) X (Or.inl ⟨_, rfl⟩) hP hS hM dX8_textAt_19

def mX8_text (S : xS) (h0 : Nat) : Option (Int32 × xS) := (dO Yc (gR S h0 0) 1).bind fun d1 => (mX8_textAt S h0 (gI S d1 7)).bind fun q2 => if q2.1 = none then (some ((-1), q2.2)) else ((dO Yc (gR q2.2 h0 6) 4).bind fun d4 => (mX4_parse q2.2 d4 q2.1).bind fun q5 => (dO Yc (gR q5.2 h0 5) 7).bind fun d6 => xlet (pI q5.2 d6 1 0) fun S7 => if (q5.1 = 0 : Prop) then (some ((-1), S7)) else ((dO Yc (gR S7 h0 0) 1).bind fun d9 => xlet (pI S7 d9 7 ((gI S7 d9 7) + 1)) fun S10 => (dO Yc (gR S10 h0 0) 1).bind fun d11 => some ((gI S10 d11 7) - 1, S10)))
set_option maxHeartbeats 4000000 in
set_option maxRecDepth 100000 in
theorem kX8_text (l : Launch) (G : xG) (S : xS) (h0 : Nat) (r : Int32) (S' : xS) (hk0 : xk Yc h0 = 8) (hM : mX8_text S h0 = some (r, S')) : xM l yX8_text cX8_text 3 (some .int) 133 5567 G Yc [.ref (xad G h0)] S (xQi G Yc r S') := by
  refine x_start (own := RX8) (by decide +kernel) rfl (Nat.le_of_ble_eq_true rfl) ?_
  intro p e s m below meth c ls X hl hP hS
  obtain ⟨hx, hb, hml, hown, hts, hr, hlk, hK, hE, hJ⟩ := id X
  have hl : lv_has ls 3 [(0, .ref (xad G h0))] := hl
  unfold mX8_text at hM
  refine lv_aload_n hx hb dX8_text_0 rfl (lv_at hl 0 rfl) ?_
  refine lv_aload_n hx hb dX8_text_1 rfl (lv_at hl 0 rfl) ?_
  obtain ⟨d1, ed1, hM⟩ := xb hM
  refine fdX8_0 X hP hk0 qw169 dX8_text_2 ed1 ?_
  refine fgX1_7 X hP (dO_k ed1) qw177 dX8_text_5 ?_
  obtain ⟨q2, eq2, hM⟩ := xb hM
  refine x_goq (x_runV (rest := []) X (kX8_textAt l G S h0 (gI S d1 7) q2.1 q2.2 hk0 eq2) qw178 okX8_textAt ⟨Nat.le_of_ble_eq_true rfl, Nat.le_of_ble_eq_true rfl⟩ hk0 (by decide) rfl hP hS rfl hl.1 rfl (Nat.le_of_ble_eq_true rfl) dX8_text_8) hS (fun H locs hP hS => ?_)
  refine x_astoreR_n (lv' := [(1, va_rf (Option.map (xad G) q2.1)), (0, .ref (xad G h0))]) hx hb dX8_text_11 rfl hl (by decide) rfl (fun ls hl => ?_)
  refine x_aloadR_n hx hb dX8_text_12 rfl (lv_at hl 0 rfl) ?_
  refine x_ifnonnull (tgt := 18) hx hb dX8_text_13 (by decide) (fun c3 => ?_) (fun c3 => ?_)
  · replace hM := (if_neg c3).symm.trans hM
    refine lv_aload_n hx hb dX8_text_18 rfl (lv_at hl 1 rfl) ?_
    obtain ⟨d4, ed4, hM⟩ := xb hM
    refine fdX8_6 X hP hk0 qw179 dX8_text_19 ed4 ?_
    refine x_aloadR_n hx hb dX8_text_22 rfl (lv_at hl 0 rfl) ?_
    obtain ⟨q5, eq5, hM⟩ := xb hM
    refine x_goi (x_runV (rest := []) X (kX4_parse l G q2.2 d4 q2.1 q5.1 q5.2 (dO_k ed4) eq5) qw180 okX4_parse ⟨Nat.le_of_ble_eq_true rfl, Nat.le_of_ble_eq_true rfl⟩ (dO_k ed4) (by decide) rfl hP hS rfl hl.1 rfl (Nat.le_of_ble_eq_true rfl) dX8_text_23) hS (fun H locs hP hS => ?_)
    refine lv_istore_n (lv' := [(2, .int q5.1), (1, va_rf (Option.map (xad G) q2.1)), (0, .ref (xad G h0))]) hx hb dX8_text_26 rfl hl (by decide) (by cases q2.1 <;> rfl) (fun ls hl => ?_)
    refine lv_aload_n hx hb dX8_text_27 rfl (lv_at hl 2 rfl) ?_
    obtain ⟨d6, ed6, hM⟩ := xb hM
    refine fdX8_5 X hP hk0 qw173 dX8_text_28 ed6 ?_
    refine lv_iconst (v := 0) hx hb dX8_text_31 (by decide) ?_
    obtain ⟨S7, eS7, hM⟩ := xlet_ex hM
    refine fpX7_1 X hP hS (dO_k ed6) qw174 dX8_text_32 eS7 (fun H locs hP hS => ?_)
    refine lv_iload_n hx hb dX8_text_35 rfl (lv_at hl 0 rfl) ?_
    refine lv_if_ne (tgt := 41) hx hb dX8_text_36 (by decide) (fun c8 => ?_) (fun c8 => ?_)
    · replace hM := (if_neg c8).symm.trans hM
      refine lv_aload_n hx hb dX8_text_41 rfl (lv_at hl 2 rfl) ?_
      obtain ⟨d9, ed9, hM⟩ := xb hM
      refine fdX8_0 X hP hk0 qw169 dX8_text_42 ed9 ?_
      refine lv_dup hx hb dX8_text_45 rfl ?_
      refine fgX1_7 X hP (dO_k ed9) qw177 dX8_text_46 ?_
      refine lv_iconst (v := 1) hx hb dX8_text_49 (by decide) ?_
      refine lv_iadd hx hb dX8_text_50 ?_
      obtain ⟨S10, eS10, hM⟩ := xlet_ex hM
      refine fpX1_7 X hP hS (dO_k ed9) qw177 dX8_text_51 eS10 (fun H locs hP hS => ?_)
      refine lv_aload_n hx hb dX8_text_54 rfl (lv_at hl 2 rfl) ?_
      obtain ⟨d11, ed11, hM⟩ := xb hM
      refine fdX8_0 X hP hk0 qw169 dX8_text_55 ed11 ?_
      refine fgX1_7 X hP (dO_k ed11) qw177 dX8_text_58 ?_
      refine lv_iconst (v := 1) hx hb dX8_text_61 (by decide) ?_
      refine lv_isub hx hb dX8_text_62 ?_
      exact x_iret X hP hS hM dX8_text_63
    · replace hM := (if_pos c8).symm.trans hM
      refine lv_iconst (v := (-1)) hx hb dX8_text_39 (by decide) ?_
      exact x_iret X hP hS hM dX8_text_40
  · replace hM := (if_pos c3).symm.trans hM
    refine lv_iconst (v := (-1)) hx hb dX8_text_16 (by decide) ?_
    exact x_iret X hP hS hM dX8_text_17

def mX8_fault (S : xS) (h0 : Nat) (p1 : Int32) : Option (Int32 × xS) := (dO Yc (gR S h0 6) 4).bind fun d1 => if ((gI S d1 3) = 0 : Prop) then (some ((-1), S)) else (if (p1 = 0 : Prop) then ((dO Yc (gR S h0 6) 4).bind fun d6 => some (gI S d6 4, S)) else (if (p1 = 1 : Prop) then ((dO Yc (gR S h0 6) 4).bind fun d5 => some (gI S d5 5, S)) else (some ((-1), S))))
set_option maxHeartbeats 4000000 in
set_option maxRecDepth 100000 in
theorem kX8_fault (l : Launch) (G : xG) (S : xS) (h0 : Nat) (p1 : Int32) (r : Int32) (S' : xS) (hk0 : xk Yc h0 = 8) (hM : mX8_fault S h0 p1 = some (r, S')) : xM l yX8_fault cX8_fault 2 (some .int) 0 0 G Yc [.ref (xad G h0), .int p1] S (xQi G Yc r S') := by
  refine x_start (own := RX8) (by decide +kernel) rfl (Nat.le_of_ble_eq_true rfl) ?_
  intro p e s m below meth c ls X hl hP hS
  obtain ⟨hx, hb, hml, hown, hts, hr, hlk, hK, hE, hJ⟩ := id X
  have hl : lv_has ls 2 [(0, .ref (xad G h0)), (1, .int p1)] := hl
  unfold mX8_fault at hM
  refine lv_aload_n hx hb dX8_fault_0 rfl (lv_at hl 0 rfl) ?_
  obtain ⟨d1, ed1, hM⟩ := xb hM
  refine fdX8_6 X hP hk0 qw179 dX8_fault_1 ed1 ?_
  refine fgX4_3 X hP (dO_k ed1) qw181 dX8_fault_4 ?_
  refine lv_if_ne (tgt := 12) hx hb dX8_fault_7 (by decide) (fun c2 => ?_) (fun c2 => ?_)
  · replace hM := (if_neg c2).symm.trans hM
    refine lv_iload_n hx hb dX8_fault_12 rfl (lv_at hl 1 rfl) ?_
    refine lv_if_ne (tgt := 24) hx hb dX8_fault_13 (by decide) (fun c3 => ?_) (fun c3 => ?_)
    · replace hM := (if_neg c3).symm.trans hM
      refine lv_iload_n hx hb dX8_fault_24 rfl (lv_at hl 1 rfl) ?_
      refine lv_iconst (v := 1) hx hb dX8_fault_25 (by decide) ?_
      refine lv_icmp_ne (tgt := 39) hx hb dX8_fault_26 (by decide) (fun c4 => ?_) (fun c4 => ?_)
      · replace hM := (if_neg c4).symm.trans hM
        refine lv_iconst (v := (-1)) hx hb dX8_fault_39 (by decide) ?_
        exact x_iret X hP hS hM dX8_fault_40
      · replace hM := (if_pos c4).symm.trans hM
        refine lv_aload_n hx hb dX8_fault_29 rfl (lv_at hl 0 rfl) ?_
        obtain ⟨d5, ed5, hM⟩ := xb hM
        refine fdX8_6 X hP hk0 qw179 dX8_fault_30 ed5 ?_
        refine fgX4_5 X hP (dO_k ed5) qw182 dX8_fault_33 ?_
        refine lv_goto (tgt := 40) hx hb dX8_fault_36 (by decide) ?_
        exact x_iret X hP hS hM dX8_fault_40
    · replace hM := (if_pos c3).symm.trans hM
      refine lv_aload_n hx hb dX8_fault_16 rfl (lv_at hl 0 rfl) ?_
      obtain ⟨d6, ed6, hM⟩ := xb hM
      refine fdX8_6 X hP hk0 qw179 dX8_fault_17 ed6 ?_
      refine fgX4_4 X hP (dO_k ed6) qw183 dX8_fault_20 ?_
      exact x_iret X hP hS hM dX8_fault_23
  · replace hM := (if_pos c2).symm.trans hM
    refine lv_iconst (v := (-1)) hx hb dX8_fault_10 (by decide) ?_
    exact x_iret X hP hS hM dX8_fault_11

def mX8_by (S : xS) (h0 : Nat) (p1 : Int32) : Option (Int32 × xS) := if (p1 < (-1) : Prop) then (some (0, S)) else ((dO Yc (gR S h0 0) 1).bind fun d2 => if (p1 < (gI S d2 7) : Prop) then ((dO Yc (gR S h0 0) 1).bind fun d4 => xlet (pI S d4 8 p1) fun S5 => (dO Yc (gR S5 h0 3) 3).bind fun d6 => (mX8_textAt S5 h0 p1).bind fun q7 => xlet (pR q7.2 d6 3 q7.1) fun S8 => some (1, S8)) else (some (0, S)))
set_option maxHeartbeats 4000000 in
set_option maxRecDepth 100000 in
theorem kX8_by (l : Launch) (G : xG) (S : xS) (h0 : Nat) (p1 : Int32) (r : Int32) (S' : xS) (hk0 : xk Yc h0 = 8) (hM : mX8_by S h0 p1 = some (r, S')) : xM l yX8_by cX8_by 2 (some .boolean) 1 21 G Yc [.ref (xad G h0), .int p1] S (xQi G Yc r S') := by
  refine x_start (own := RX8) (by decide +kernel) rfl (Nat.le_of_ble_eq_true rfl) ?_
  intro p e s m below meth c ls X hl hP hS
  obtain ⟨hx, hb, hml, hown, hts, hr, hlk, hK, hE, hJ⟩ := id X
  have hl : lv_has ls 2 [(0, .ref (xad G h0)), (1, .int p1)] := hl
  unfold mX8_by at hM
  refine lv_iload_n hx hb dX8_by_0 rfl (lv_at hl 1 rfl) ?_
  refine lv_iconst (v := (-1)) hx hb dX8_by_1 (by decide) ?_
  refine lv_icmp_lt (tgt := 16) hx hb dX8_by_2 (by decide) (fun c1 => ?_) (fun c1 => ?_)
  · replace hM := (if_pos c1).symm.trans hM
    refine lv_iconst (v := 0) hx hb dX8_by_16 (by decide) ?_
    exact x_zret X hP hS (Or.inl rfl) hM dX8_by_17
  · replace hM := (if_neg c1).symm.trans hM
    refine lv_iload_n hx hb dX8_by_5 rfl (lv_at hl 1 rfl) ?_
    refine lv_aload_n hx hb dX8_by_6 rfl (lv_at hl 0 rfl) ?_
    obtain ⟨d2, ed2, hM⟩ := xb hM
    refine fdX8_0 X hP hk0 qw169 dX8_by_7 ed2 ?_
    refine fgX1_7 X hP (dO_k ed2) qw177 dX8_by_10 ?_
    refine lv_icmp_lt (tgt := 18) hx hb dX8_by_13 (by decide) (fun c3 => ?_) (fun c3 => ?_)
    · replace hM := (if_pos c3).symm.trans hM
      refine lv_aload_n hx hb dX8_by_18 rfl (lv_at hl 0 rfl) ?_
      obtain ⟨d4, ed4, hM⟩ := xb hM
      refine fdX8_0 X hP hk0 qw169 dX8_by_19 ed4 ?_
      refine lv_iload_n hx hb dX8_by_22 rfl (lv_at hl 1 rfl) ?_
      obtain ⟨S5, eS5, hM⟩ := xlet_ex hM
      refine fpX1_8 X hP hS (dO_k ed4) qw184 dX8_by_23 eS5 (fun H locs hP hS => ?_)
      refine lv_aload_n hx hb dX8_by_26 rfl (lv_at hl 0 rfl) ?_
      obtain ⟨d6, ed6, hM⟩ := xb hM
      refine fdX8_3 X hP hk0 qw185 dX8_by_27 ed6 ?_
      refine lv_aload_n hx hb dX8_by_30 rfl (lv_at hl 0 rfl) ?_
      refine lv_iload_n hx hb dX8_by_31 rfl (lv_at hl 1 rfl) ?_
      obtain ⟨q7, eq7, hM⟩ := xb hM
      refine x_goq (x_runV (rest := [.ref (xad G d6)]) X (kX8_textAt l G S5 h0 p1 q7.1 q7.2 hk0 eq7) qw178 okX8_textAt ⟨Nat.le_of_ble_eq_true rfl, Nat.le_of_ble_eq_true rfl⟩ hk0 (by decide) rfl hP hS rfl hl.1 rfl (Nat.le_of_ble_eq_true rfl) dX8_by_32) hS (fun H locs hP hS => ?_)
      obtain ⟨S8, eS8, hM⟩ := xlet_ex hM
      refine fpX3_3 X hP hS (v := q7.1) (dO_k ed6) qw186 dX8_by_35 eS8 (fun H locs hP hS => ?_)
      refine lv_iconst (v := 1) hx hb dX8_by_38 (by decide) ?_
      exact x_zret X hP hS (Or.inr rfl) hM dX8_by_39
    · replace hM := (if_neg c3).symm.trans hM
      refine lv_iconst (v := 0) hx hb dX8_by_16 (by decide) ?_
      exact x_zret X hP hS (Or.inl rfl) hM dX8_by_17

def mX8_isTable (S : xS) (p0 : Int32) : Option (Int32 × xS) := if (p0 < 0 : Prop) then (some (0, S)) else (if (2 ≤ p0 : Prop) then (some (0, S)) else (some (1, S)))
set_option maxHeartbeats 4000000 in
set_option maxRecDepth 100000 in
theorem kX8_isTable (l : Launch) (G : xG) (S : xS) (p0 : Int32) (r : Int32) (S' : xS) (hM : mX8_isTable S p0 = some (r, S')) : xM l yX8_isTable cX8_isTable 1 (some .boolean) 0 0 G Yc [.int p0] S (xQi G Yc r S') := by
  refine x_start (own := RX8) (by decide +kernel) rfl (Nat.le_of_ble_eq_true rfl) ?_
  intro p e s m below meth c ls X hl hP hS
  obtain ⟨hx, hb, hml, hown, hts, hr, hlk, hK, hE, hJ⟩ := id X
  have hl : lv_has ls 1 [(0, .int p0)] := hl
  unfold mX8_isTable at hM
  refine lv_iload_n hx hb dX8_isTable_0 rfl (lv_at hl 0 rfl) ?_
  refine lv_if_lt (tgt := 13) hx hb dX8_isTable_1 (by decide) (fun c1 => ?_) (fun c1 => ?_)
  · replace hM := (if_pos c1).symm.trans hM
    refine lv_iconst (v := 0) hx hb dX8_isTable_13 (by decide) ?_
    exact x_zret X hP hS (Or.inl rfl) hM dX8_isTable_14
  · replace hM := (if_neg c1).symm.trans hM
    refine lv_iload_n hx hb dX8_isTable_4 rfl (lv_at hl 0 rfl) ?_
    refine lv_iconst (v := 2) hx hb dX8_isTable_5 (by decide) ?_
    refine lv_icmp_ge (tgt := 13) hx hb dX8_isTable_6 (by decide) (fun c2 => ?_) (fun c2 => ?_)
    · replace hM := (if_pos c2).symm.trans hM
      refine lv_iconst (v := 0) hx hb dX8_isTable_13 (by decide) ?_
      exact x_zret X hP hS (Or.inl rfl) hM dX8_isTable_14
    · replace hM := (if_neg c2).symm.trans hM
      refine lv_iconst (v := 1) hx hb dX8_isTable_9 (by decide) ?_
      refine lv_goto (tgt := 14) hx hb dX8_isTable_10 (by decide) ?_
      exact x_zret X hP hS (Or.inr rfl) hM dX8_isTable_14

def mX8_isDay (S : xS) (p0 : Int32) : Option (Int32 × xS) := if (p0 < 0 : Prop) then (some (0, S)) else (if (999 < p0 : Prop) then (some (0, S)) else (some (1, S)))
set_option maxHeartbeats 4000000 in
set_option maxRecDepth 100000 in
theorem kX8_isDay (l : Launch) (G : xG) (S : xS) (p0 : Int32) (r : Int32) (S' : xS) (hM : mX8_isDay S p0 = some (r, S')) : xM l yX8_isDay cX8_isDay 1 (some .boolean) 0 0 G Yc [.int p0] S (xQi G Yc r S') := by
  refine x_start (own := RX8) (by decide +kernel) rfl (Nat.le_of_ble_eq_true rfl) ?_
  intro p e s m below meth c ls X hl hP hS
  obtain ⟨hx, hb, hml, hown, hts, hr, hlk, hK, hE, hJ⟩ := id X
  have hl : lv_has ls 1 [(0, .int p0)] := hl
  unfold mX8_isDay at hM
  refine lv_iload_n hx hb dX8_isDay_0 rfl (lv_at hl 0 rfl) ?_
  refine lv_if_lt (tgt := 15) hx hb dX8_isDay_1 (by decide) (fun c1 => ?_) (fun c1 => ?_)
  · replace hM := (if_pos c1).symm.trans hM
    refine lv_iconst (v := 0) hx hb dX8_isDay_15 (by decide) ?_
    exact x_zret X hP hS (Or.inl rfl) hM dX8_isDay_16
  · replace hM := (if_neg c1).symm.trans hM
    refine lv_iload_n hx hb dX8_isDay_4 rfl (lv_at hl 0 rfl) ?_
    refine lv_sipush (v := 999) hx hb dX8_isDay_5 (by decide) ?_
    refine lv_icmp_gt (tgt := 15) hx hb dX8_isDay_8 (by decide) (fun c2 => ?_) (fun c2 => ?_)
    · replace hM := (if_pos c2).symm.trans hM
      refine lv_iconst (v := 0) hx hb dX8_isDay_15 (by decide) ?_
      exact x_zret X hP hS (Or.inl rfl) hM dX8_isDay_16
    · replace hM := (if_neg c2).symm.trans hM
      refine lv_iconst (v := 1) hx hb dX8_isDay_11 (by decide) ?_
      refine lv_goto (tgt := 16) hx hb dX8_isDay_12 (by decide) ?_
      exact x_zret X hP hS (Or.inr rfl) hM dX8_isDay_16

def mX8_slices (S : xS) (h0 : Nat) (p1 : Int32) (p2 : Int32) : Option (Int32 × xS) := (mX8_isTable S p1).bind fun q1 => if (q1.1 = 0 : Prop) then (some ((-1), q1.2)) else ((mX8_isDay q1.2 p2).bind fun q3 => if (q3.1 = 0 : Prop) then (some ((-1), q3.2)) else ((dO Yc (gR q3.2 h0 3) 3).bind fun d5 => (dO Yc (gR q3.2 h0 0) 1).bind fun d6 => (mX1_get q3.2 d6 12).bind fun q7 => (mX3_slicesAt q7.2 d5 p1 p2 q7.1).bind fun q8 => some (q8.1, q8.2)))
set_option maxHeartbeats 4000000 in
set_option maxRecDepth 100000 in
theorem kX8_slices (l : Launch) (G : xG) (S : xS) (h0 : Nat) (p1 : Int32) (p2 : Int32) (r : Int32) (S' : xS) (hk0 : xk Yc h0 = 8) (hM : mX8_slices S h0 p1 p2 = some (r, S')) : xM l yX8_slices cX8_slices 3 (some .int) 3 74 G Yc [.ref (xad G h0), .int p1, .int p2] S (xQi G Yc r S') := by
  refine x_start (own := RX8) (by decide +kernel) rfl (Nat.le_of_ble_eq_true rfl) ?_
  intro p e s m below meth c ls X hl hP hS
  obtain ⟨hx, hb, hml, hown, hts, hr, hlk, hK, hE, hJ⟩ := id X
  have hl : lv_has ls 3 [(0, .ref (xad G h0)), (1, .int p1), (2, .int p2)] := hl
  unfold mX8_slices at hM
  refine lv_iload_n hx hb dX8_slices_0 rfl (lv_at hl 1 rfl) ?_
  obtain ⟨q1, eq1, hM⟩ := xb hM
  refine x_goi (x_runS (rest := []) X (kX8_isTable l G S p1 q1.1 q1.2  eq1) qw187 okX8_isTable ⟨Nat.le_of_ble_eq_true rfl, Nat.le_of_ble_eq_true rfl⟩ hP hS rfl hl.1 rfl (Nat.le_of_ble_eq_true rfl) dX8_slices_1) hS (fun H locs hP hS => ?_)
  refine lv_if_eq (tgt := 14) hx hb dX8_slices_4 (by decide) (fun c2 => ?_) (fun c2 => ?_)
  · replace hM := (if_pos c2).symm.trans hM
    refine lv_iconst (v := (-1)) hx hb dX8_slices_14 (by decide) ?_
    exact x_iret X hP hS hM dX8_slices_15
  · replace hM := (if_neg c2).symm.trans hM
    refine lv_iload_n hx hb dX8_slices_7 rfl (lv_at hl 2 rfl) ?_
    obtain ⟨q3, eq3, hM⟩ := xb hM
    refine x_goi (x_runS (rest := []) X (kX8_isDay l G q1.2 p2 q3.1 q3.2  eq3) qw188 okX8_isDay ⟨Nat.le_of_ble_eq_true rfl, Nat.le_of_ble_eq_true rfl⟩ hP hS rfl hl.1 rfl (Nat.le_of_ble_eq_true rfl) dX8_slices_8) hS (fun H locs hP hS => ?_)
    refine lv_if_ne (tgt := 16) hx hb dX8_slices_11 (by decide) (fun c4 => ?_) (fun c4 => ?_)
    · replace hM := (if_neg c4).symm.trans hM
      refine lv_aload_n hx hb dX8_slices_16 rfl (lv_at hl 0 rfl) ?_
      obtain ⟨d5, ed5, hM⟩ := xb hM
      refine fdX8_3 X hP hk0 qw185 dX8_slices_17 ed5 ?_
      refine lv_iload_n hx hb dX8_slices_20 rfl (lv_at hl 1 rfl) ?_
      refine lv_iload_n hx hb dX8_slices_21 rfl (lv_at hl 2 rfl) ?_
      refine lv_aload_n hx hb dX8_slices_22 rfl (lv_at hl 0 rfl) ?_
      obtain ⟨d6, ed6, hM⟩ := xb hM
      refine fdX8_0 X hP hk0 qw169 dX8_slices_23 ed6 ?_
      refine lv_bipush (v := 12) hx hb dX8_slices_26 (by decide) ?_
      obtain ⟨q7, eq7, hM⟩ := xb hM
      refine x_goi (x_runV (rest := [.int p2, .int p1, .ref (xad G d5)]) X (kX1_get l G q3.2 d6 12 q7.1 q7.2 (dO_k ed6) eq7) qw189 okX1_get ⟨Nat.le_of_ble_eq_true rfl, Nat.le_of_ble_eq_true rfl⟩ (dO_k ed6) (by decide) rfl hP hS rfl hl.1 rfl (Nat.le_of_ble_eq_true rfl) dX8_slices_28) hS (fun H locs hP hS => ?_)
      obtain ⟨q8, eq8, hM⟩ := xb hM
      refine x_goi (x_runV (rest := []) X (kX3_slicesAt l G q7.2 d5 p1 p2 q7.1 q8.1 q8.2 (dO_k ed5) eq8) qw190 okX3_slicesAt ⟨Nat.le_of_ble_eq_true rfl, Nat.le_of_ble_eq_true rfl⟩ (dO_k ed5) (by decide) rfl hP hS rfl hl.1 rfl (Nat.le_of_ble_eq_true rfl) dX8_slices_31) hS (fun H locs hP hS => ?_)
      exact x_iret X hP hS hM dX8_slices_34
    · replace hM := (if_pos c4).symm.trans hM
      refine lv_iconst (v := (-1)) hx hb dX8_slices_14 (by decide) ?_
      exact x_iret X hP hS hM dX8_slices_15

def mX8_isSister (S : xS) (h0 : Nat) (p1 : Int32) : Option (Int32 × xS) := if (p1 < 0 : Prop) then (some (0, S)) else ((dO Yc (gR S h0 0) 1).bind fun d2 => if ((gI S d2 5) ≤ p1 : Prop) then (some (0, S)) else (some (1, S)))
set_option maxHeartbeats 4000000 in
set_option maxRecDepth 100000 in
theorem kX8_isSister (l : Launch) (G : xG) (S : xS) (h0 : Nat) (p1 : Int32) (r : Int32) (S' : xS) (hk0 : xk Yc h0 = 8) (hM : mX8_isSister S h0 p1 = some (r, S')) : xM l yX8_isSister cX8_isSister 2 (some .boolean) 0 0 G Yc [.ref (xad G h0), .int p1] S (xQi G Yc r S') := by
  refine x_start (own := RX8) (by decide +kernel) rfl (Nat.le_of_ble_eq_true rfl) ?_
  intro p e s m below meth c ls X hl hP hS
  obtain ⟨hx, hb, hml, hown, hts, hr, hlk, hK, hE, hJ⟩ := id X
  have hl : lv_has ls 2 [(0, .ref (xad G h0)), (1, .int p1)] := hl
  unfold mX8_isSister at hM
  refine lv_iload_n hx hb dX8_isSister_0 rfl (lv_at hl 1 rfl) ?_
  refine lv_if_lt (tgt := 19) hx hb dX8_isSister_1 (by decide) (fun c1 => ?_) (fun c1 => ?_)
  · replace hM := (if_pos c1).symm.trans hM
    refine lv_iconst (v := 0) hx hb dX8_isSister_19 (by decide) ?_
    exact x_zret X hP hS (Or.inl rfl) hM dX8_isSister_20
  · replace hM := (if_neg c1).symm.trans hM
    refine lv_iload_n hx hb dX8_isSister_4 rfl (lv_at hl 1 rfl) ?_
    refine lv_aload_n hx hb dX8_isSister_5 rfl (lv_at hl 0 rfl) ?_
    obtain ⟨d2, ed2, hM⟩ := xb hM
    refine fdX8_0 X hP hk0 qw169 dX8_isSister_6 ed2 ?_
    refine fgX1_5 X hP (dO_k ed2) qw191 dX8_isSister_9 ?_
    refine lv_icmp_ge (tgt := 19) hx hb dX8_isSister_12 (by decide) (fun c3 => ?_) (fun c3 => ?_)
    · replace hM := (if_pos c3).symm.trans hM
      refine lv_iconst (v := 0) hx hb dX8_isSister_19 (by decide) ?_
      exact x_zret X hP hS (Or.inl rfl) hM dX8_isSister_20
    · replace hM := (if_neg c3).symm.trans hM
      refine lv_iconst (v := 1) hx hb dX8_isSister_15 (by decide) ?_
      refine lv_goto (tgt := 20) hx hb dX8_isSister_16 (by decide) ?_
      exact x_zret X hP hS (Or.inr rfl) hM dX8_isSister_20

def mX8_seat (S : xS) (h0 : Nat) (p1 : Int32) (p2 : Int32) : Option (Int32 × xS) := (mX8_isSister S h0 p1).bind fun q1 => if (q1.1 = 0 : Prop) then (some (0, q1.2)) else (if (p2 < 0 : Prop) then (some (0, q1.2)) else (if (2 < p2 : Prop) then (some (0, q1.2)) else ((dO Yc (gR q1.2 h0 0) 1).bind fun d5 => (mX1_seatOf q1.2 d5 p1).bind fun q6 => if (q6.1 = p2 : Prop) then (some (0, q6.2)) else ((dO Yc (gR q6.2 h0 0) 1).bind fun d8 => (mX1_remember q6.2 d8).bind fun S9 => (dO Yc (gR S9 h0 0) 1).bind fun d10 => (mX1_put S9 d10 (6 + p1) p2).bind fun S11 => some (1, S11)))))
set_option maxHeartbeats 4000000 in
set_option maxRecDepth 100000 in
theorem kX8_seat (l : Launch) (G : xG) (S : xS) (h0 : Nat) (p1 : Int32) (p2 : Int32) (r : Int32) (S' : xS) (hk0 : xk Yc h0 = 8) (hM : mX8_seat S h0 p1 p2 = some (r, S')) : xM l yX8_seat cX8_seat 3 (some .boolean) 2 80 G Yc [.ref (xad G h0), .int p1, .int p2] S (xQi G Yc r S') := by
  refine x_start (own := RX8) (by decide +kernel) rfl (Nat.le_of_ble_eq_true rfl) ?_
  intro p e s m below meth c ls X hl hP hS
  obtain ⟨hx, hb, hml, hown, hts, hr, hlk, hK, hE, hJ⟩ := id X
  have hl : lv_has ls 3 [(0, .ref (xad G h0)), (1, .int p1), (2, .int p2)] := hl
  unfold mX8_seat at hM
  refine lv_aload_n hx hb dX8_seat_0 rfl (lv_at hl 0 rfl) ?_
  refine lv_iload_n hx hb dX8_seat_1 rfl (lv_at hl 1 rfl) ?_
  obtain ⟨q1, eq1, hM⟩ := xb hM
  refine x_goi (x_runV (rest := []) X (kX8_isSister l G S h0 p1 q1.1 q1.2 hk0 eq1) qw192 okX8_isSister ⟨Nat.le_of_ble_eq_true rfl, Nat.le_of_ble_eq_true rfl⟩ hk0 (by decide) rfl hP hS rfl hl.1 rfl (Nat.le_of_ble_eq_true rfl) dX8_seat_2) hS (fun H locs hP hS => ?_)
  refine lv_if_eq (tgt := 29) hx hb dX8_seat_5 (by decide) (fun c2 => ?_) (fun c2 => ?_)
  · replace hM := (if_pos c2).symm.trans hM
    refine lv_iconst (v := 0) hx hb dX8_seat_29 (by decide) ?_
    exact x_zret X hP hS (Or.inl rfl) hM dX8_seat_30
  · replace hM := (if_neg c2).symm.trans hM
    refine lv_iload_n hx hb dX8_seat_8 rfl (lv_at hl 2 rfl) ?_
    refine lv_if_lt (tgt := 29) hx hb dX8_seat_9 (by decide) (fun c3 => ?_) (fun c3 => ?_)
    · replace hM := (if_pos c3).symm.trans hM
      refine lv_iconst (v := 0) hx hb dX8_seat_29 (by decide) ?_
      exact x_zret X hP hS (Or.inl rfl) hM dX8_seat_30
    · replace hM := (if_neg c3).symm.trans hM
      refine lv_iload_n hx hb dX8_seat_12 rfl (lv_at hl 2 rfl) ?_
      refine lv_iconst (v := 2) hx hb dX8_seat_13 (by decide) ?_
      refine lv_icmp_gt (tgt := 29) hx hb dX8_seat_14 (by decide) (fun c4 => ?_) (fun c4 => ?_)
      · replace hM := (if_pos c4).symm.trans hM
        refine lv_iconst (v := 0) hx hb dX8_seat_29 (by decide) ?_
        exact x_zret X hP hS (Or.inl rfl) hM dX8_seat_30
      · replace hM := (if_neg c4).symm.trans hM
        refine lv_aload_n hx hb dX8_seat_17 rfl (lv_at hl 0 rfl) ?_
        obtain ⟨d5, ed5, hM⟩ := xb hM
        refine fdX8_0 X hP hk0 qw169 dX8_seat_18 ed5 ?_
        refine lv_iload_n hx hb dX8_seat_21 rfl (lv_at hl 1 rfl) ?_
        obtain ⟨q6, eq6, hM⟩ := xb hM
        refine x_goi (x_runV (rest := []) X (kX1_seatOf l G q1.2 d5 p1 q6.1 q6.2 (dO_k ed5) eq6) qw193 okX1_seatOf ⟨Nat.le_of_ble_eq_true rfl, Nat.le_of_ble_eq_true rfl⟩ (dO_k ed5) (by decide) rfl hP hS rfl hl.1 rfl (Nat.le_of_ble_eq_true rfl) dX8_seat_22) hS (fun H locs hP hS => ?_)
        refine lv_iload_n hx hb dX8_seat_25 rfl (lv_at hl 2 rfl) ?_
        refine lv_icmp_ne (tgt := 31) hx hb dX8_seat_26 (by decide) (fun c7 => ?_) (fun c7 => ?_)
        · replace hM := (if_neg c7).symm.trans hM
          refine lv_aload_n hx hb dX8_seat_31 rfl (lv_at hl 0 rfl) ?_
          obtain ⟨d8, ed8, hM⟩ := xb hM
          refine fdX8_0 X hP hk0 qw169 dX8_seat_32 ed8 ?_
          obtain ⟨S9, eS9, hM⟩ := xb hM
          refine x_gov (x_runV (rest := []) X (kX1_remember l G q6.2 d8 S9 (dO_k ed8) eS9) qw194 okX1_remember ⟨Nat.le_of_ble_eq_true rfl, Nat.le_of_ble_eq_true rfl⟩ (dO_k ed8) (by decide) rfl hP hS rfl hl.1 rfl (Nat.le_of_ble_eq_true rfl) dX8_seat_35) hS (fun H locs hP hS => ?_)
          refine lv_aload_n hx hb dX8_seat_38 rfl (lv_at hl 0 rfl) ?_
          obtain ⟨d10, ed10, hM⟩ := xb hM
          refine fdX8_0 X hP hk0 qw169 dX8_seat_39 ed10 ?_
          refine lv_bipush (v := 6) hx hb dX8_seat_42 (by decide) ?_
          refine lv_iload_n hx hb dX8_seat_44 rfl (lv_at hl 1 rfl) ?_
          refine lv_iadd hx hb dX8_seat_45 ?_
          refine lv_iload_n hx hb dX8_seat_46 rfl (lv_at hl 2 rfl) ?_
          obtain ⟨S11, eS11, hM⟩ := xb hM
          refine x_gov (x_runV (rest := []) X (kX1_put l G S9 d10 (6 + p1) p2 S11 (dO_k ed10) eS11) qw172 okX1_put ⟨Nat.le_of_ble_eq_true rfl, Nat.le_of_ble_eq_true rfl⟩ (dO_k ed10) (by decide) rfl hP hS rfl hl.1 rfl (Nat.le_of_ble_eq_true rfl) dX8_seat_47) hS (fun H locs hP hS => ?_)
          refine lv_iconst (v := 1) hx hb dX8_seat_50 (by decide) ?_
          exact x_zret X hP hS (Or.inr rfl) hM dX8_seat_51
        · replace hM := (if_pos c7).symm.trans hM
          refine lv_iconst (v := 0) hx hb dX8_seat_29 (by decide) ?_
          exact x_zret X hP hS (Or.inl rfl) hM dX8_seat_30

def mX8_moved (S : xS) (h0 : Nat) (p1 : Int32) (p2 : Int32) (p3 : Int32) : Option (Int32 × xS) := if (p3 < 1 : Prop) then (some (0, S)) else (if (9 < p3 : Prop) then (some (0, S)) else ((dO Yc (gR S h0 0) 1).bind fun d3 => (mX1_get S d3 p1).bind fun q4 => if (p3 ≤ q4.1 : Prop) then ((dO Yc (gR q4.2 h0 0) 1).bind fun d6 => (mX1_remember q4.2 d6).bind fun S7 => (dO Yc (gR S7 h0 0) 1).bind fun d8 => (dO Yc (gR S7 h0 0) 1).bind fun d9 => (mX1_get S7 d9 p1).bind fun q10 => (mX1_put q10.2 d8 p1 (q10.1 - p3)).bind fun S11 => (dO Yc (gR S11 h0 0) 1).bind fun d12 => (dO Yc (gR S11 h0 0) 1).bind fun d13 => (mX1_get S11 d13 p2).bind fun q14 => (mX1_put q14.2 d12 p2 (q14.1 + p3)).bind fun S15 => some (1, S15)) else (some (0, q4.2))))
set_option maxHeartbeats 4000000 in
set_option maxRecDepth 100000 in
theorem kX8_moved (l : Launch) (G : xG) (S : xS) (h0 : Nat) (p1 : Int32) (p2 : Int32) (p3 : Int32) (r : Int32) (S' : xS) (hk0 : xk Yc h0 = 8) (hM : mX8_moved S h0 p1 p2 p3 = some (r, S')) : xM l yX8_moved cX8_moved 4 (some .boolean) 2 80 G Yc [.ref (xad G h0), .int p1, .int p2, .int p3] S (xQi G Yc r S') := by
  refine x_start (own := RX8) (by decide +kernel) rfl (Nat.le_of_ble_eq_true rfl) ?_
  intro p e s m below meth c ls X hl hP hS
  obtain ⟨hx, hb, hml, hown, hts, hr, hlk, hK, hE, hJ⟩ := id X
  have hl : lv_has ls 4 [(0, .ref (xad G h0)), (1, .int p1), (2, .int p2), (3, .int p3)] := hl
  unfold mX8_moved at hM
  refine lv_iload_n hx hb dX8_moved_0 rfl (lv_at hl 3 rfl) ?_
  refine lv_iconst (v := 1) hx hb dX8_moved_1 (by decide) ?_
  refine lv_icmp_lt (tgt := 23) hx hb dX8_moved_2 (by decide) (fun c1 => ?_) (fun c1 => ?_)
  · replace hM := (if_pos c1).symm.trans hM
    refine lv_iconst (v := 0) hx hb dX8_moved_23 (by decide) ?_
    exact x_zret X hP hS (Or.inl rfl) hM dX8_moved_24
  · replace hM := (if_neg c1).symm.trans hM
    refine lv_iload_n hx hb dX8_moved_5 rfl (lv_at hl 3 rfl) ?_
    refine lv_bipush (v := 9) hx hb dX8_moved_6 (by decide) ?_
    refine lv_icmp_gt (tgt := 23) hx hb dX8_moved_8 (by decide) (fun c2 => ?_) (fun c2 => ?_)
    · replace hM := (if_pos c2).symm.trans hM
      refine lv_iconst (v := 0) hx hb dX8_moved_23 (by decide) ?_
      exact x_zret X hP hS (Or.inl rfl) hM dX8_moved_24
    · replace hM := (if_neg c2).symm.trans hM
      refine lv_aload_n hx hb dX8_moved_11 rfl (lv_at hl 0 rfl) ?_
      obtain ⟨d3, ed3, hM⟩ := xb hM
      refine fdX8_0 X hP hk0 qw169 dX8_moved_12 ed3 ?_
      refine lv_iload_n hx hb dX8_moved_15 rfl (lv_at hl 1 rfl) ?_
      obtain ⟨q4, eq4, hM⟩ := xb hM
      refine x_goi (x_runV (rest := []) X (kX1_get l G S d3 p1 q4.1 q4.2 (dO_k ed3) eq4) qw189 okX1_get ⟨Nat.le_of_ble_eq_true rfl, Nat.le_of_ble_eq_true rfl⟩ (dO_k ed3) (by decide) rfl hP hS rfl hl.1 rfl (Nat.le_of_ble_eq_true rfl) dX8_moved_16) hS (fun H locs hP hS => ?_)
      refine lv_iload_n hx hb dX8_moved_19 rfl (lv_at hl 3 rfl) ?_
      refine lv_icmp_ge (tgt := 25) hx hb dX8_moved_20 (by decide) (fun c5 => ?_) (fun c5 => ?_)
      · replace hM := (if_pos c5).symm.trans hM
        refine lv_aload_n hx hb dX8_moved_25 rfl (lv_at hl 0 rfl) ?_
        obtain ⟨d6, ed6, hM⟩ := xb hM
        refine fdX8_0 X hP hk0 qw169 dX8_moved_26 ed6 ?_
        obtain ⟨S7, eS7, hM⟩ := xb hM
        refine x_gov (x_runV (rest := []) X (kX1_remember l G q4.2 d6 S7 (dO_k ed6) eS7) qw194 okX1_remember ⟨Nat.le_of_ble_eq_true rfl, Nat.le_of_ble_eq_true rfl⟩ (dO_k ed6) (by decide) rfl hP hS rfl hl.1 rfl (Nat.le_of_ble_eq_true rfl) dX8_moved_29) hS (fun H locs hP hS => ?_)
        refine lv_aload_n hx hb dX8_moved_32 rfl (lv_at hl 0 rfl) ?_
        obtain ⟨d8, ed8, hM⟩ := xb hM
        refine fdX8_0 X hP hk0 qw169 dX8_moved_33 ed8 ?_
        refine lv_iload_n hx hb dX8_moved_36 rfl (lv_at hl 1 rfl) ?_
        refine lv_aload_n hx hb dX8_moved_37 rfl (lv_at hl 0 rfl) ?_
        obtain ⟨d9, ed9, hM⟩ := xb hM
        refine fdX8_0 X hP hk0 qw169 dX8_moved_38 ed9 ?_
        refine lv_iload_n hx hb dX8_moved_41 rfl (lv_at hl 1 rfl) ?_
        obtain ⟨q10, eq10, hM⟩ := xb hM
        refine x_goi (x_runV (rest := [.int p1, .ref (xad G d8)]) X (kX1_get l G S7 d9 p1 q10.1 q10.2 (dO_k ed9) eq10) qw189 okX1_get ⟨Nat.le_of_ble_eq_true rfl, Nat.le_of_ble_eq_true rfl⟩ (dO_k ed9) (by decide) rfl hP hS rfl hl.1 rfl (Nat.le_of_ble_eq_true rfl) dX8_moved_42) hS (fun H locs hP hS => ?_)
        refine lv_iload_n hx hb dX8_moved_45 rfl (lv_at hl 3 rfl) ?_
        refine lv_isub hx hb dX8_moved_46 ?_
        obtain ⟨S11, eS11, hM⟩ := xb hM
        refine x_gov (x_runV (rest := []) X (kX1_put l G q10.2 d8 p1 (q10.1 - p3) S11 (dO_k ed8) eS11) qw172 okX1_put ⟨Nat.le_of_ble_eq_true rfl, Nat.le_of_ble_eq_true rfl⟩ (dO_k ed8) (by decide) rfl hP hS rfl hl.1 rfl (Nat.le_of_ble_eq_true rfl) dX8_moved_47) hS (fun H locs hP hS => ?_)
        refine lv_aload_n hx hb dX8_moved_50 rfl (lv_at hl 0 rfl) ?_
        obtain ⟨d12, ed12, hM⟩ := xb hM
        refine fdX8_0 X hP hk0 qw169 dX8_moved_51 ed12 ?_
        refine lv_iload_n hx hb dX8_moved_54 rfl (lv_at hl 2 rfl) ?_
        refine lv_aload_n hx hb dX8_moved_55 rfl (lv_at hl 0 rfl) ?_
        obtain ⟨d13, ed13, hM⟩ := xb hM
        refine fdX8_0 X hP hk0 qw169 dX8_moved_56 ed13 ?_
        refine lv_iload_n hx hb dX8_moved_59 rfl (lv_at hl 2 rfl) ?_
        obtain ⟨q14, eq14, hM⟩ := xb hM
        refine x_goi (x_runV (rest := [.int p2, .ref (xad G d12)]) X (kX1_get l G S11 d13 p2 q14.1 q14.2 (dO_k ed13) eq14) qw189 okX1_get ⟨Nat.le_of_ble_eq_true rfl, Nat.le_of_ble_eq_true rfl⟩ (dO_k ed13) (by decide) rfl hP hS rfl hl.1 rfl (Nat.le_of_ble_eq_true rfl) dX8_moved_60) hS (fun H locs hP hS => ?_)
        refine lv_iload_n hx hb dX8_moved_63 rfl (lv_at hl 3 rfl) ?_
        refine lv_iadd hx hb dX8_moved_64 ?_
        obtain ⟨S15, eS15, hM⟩ := xb hM
        refine x_gov (x_runV (rest := []) X (kX1_put l G q14.2 d12 p2 (q14.1 + p3) S15 (dO_k ed12) eS15) qw172 okX1_put ⟨Nat.le_of_ble_eq_true rfl, Nat.le_of_ble_eq_true rfl⟩ (dO_k ed12) (by decide) rfl hP hS rfl hl.1 rfl (Nat.le_of_ble_eq_true rfl) dX8_moved_65) hS (fun H locs hP hS => ?_)
        refine lv_iconst (v := 1) hx hb dX8_moved_68 (by decide) ?_
        exact x_zret X hP hS (Or.inr rfl) hM dX8_moved_69
      · replace hM := (if_neg c5).symm.trans hM
        refine lv_iconst (v := 0) hx hb dX8_moved_23 (by decide) ?_
        exact x_zret X hP hS (Or.inl rfl) hM dX8_moved_24

def mX8_hide (S : xS) (h0 : Nat) (p1 : Int32) (p2 : Int32) : Option (Int32 × xS) := (mX8_isTable S p1).bind fun q1 => if (q1.1 = 0 : Prop) then (some ((-1), q1.2)) else ((mX1_leftAt q1.2 p1).bind fun q3 => (mX1_hiddenAt q3.2 p1).bind fun q4 => (mX8_moved q4.2 h0 q3.1 q4.1 p2).bind fun q5 => if (q5.1 = 0 : Prop) then (some ((-1), q5.2)) else ((dO Yc (gR q5.2 h0 0) 1).bind fun d7 => (mX1_leftAt q5.2 p1).bind fun q8 => (mX1_get q8.2 d7 q8.1).bind fun q9 => some (q9.1, q9.2)))
set_option maxHeartbeats 4000000 in
set_option maxRecDepth 100000 in
theorem kX8_hide (l : Launch) (G : xG) (S : xS) (h0 : Nat) (p1 : Int32) (p2 : Int32) (r : Int32) (S' : xS) (hk0 : xk Yc h0 = 8) (hM : mX8_hide S h0 p1 p2 = some (r, S')) : xM l yX8_hide cX8_hide 3 (some .int) 3 103 G Yc [.ref (xad G h0), .int p1, .int p2] S (xQi G Yc r S') := by
  refine x_start (own := RX8) (by decide +kernel) rfl (Nat.le_of_ble_eq_true rfl) ?_
  intro p e s m below meth c ls X hl hP hS
  obtain ⟨hx, hb, hml, hown, hts, hr, hlk, hK, hE, hJ⟩ := id X
  have hl : lv_has ls 3 [(0, .ref (xad G h0)), (1, .int p1), (2, .int p2)] := hl
  unfold mX8_hide at hM
  refine lv_iload_n hx hb dX8_hide_0 rfl (lv_at hl 1 rfl) ?_
  obtain ⟨q1, eq1, hM⟩ := xb hM
  refine x_goi (x_runS (rest := []) X (kX8_isTable l G S p1 q1.1 q1.2  eq1) qw187 okX8_isTable ⟨Nat.le_of_ble_eq_true rfl, Nat.le_of_ble_eq_true rfl⟩ hP hS rfl hl.1 rfl (Nat.le_of_ble_eq_true rfl) dX8_hide_1) hS (fun H locs hP hS => ?_)
  refine lv_if_eq (tgt := 23) hx hb dX8_hide_4 (by decide) (fun c2 => ?_) (fun c2 => ?_)
  · replace hM := (if_pos c2).symm.trans hM
    refine lv_iconst (v := (-1)) hx hb dX8_hide_23 (by decide) ?_
    exact x_iret X hP hS hM dX8_hide_24
  · replace hM := (if_neg c2).symm.trans hM
    refine lv_aload_n hx hb dX8_hide_7 rfl (lv_at hl 0 rfl) ?_
    refine lv_iload_n hx hb dX8_hide_8 rfl (lv_at hl 1 rfl) ?_
    obtain ⟨q3, eq3, hM⟩ := xb hM
    refine x_goi (x_runS (rest := [.ref (xad G h0)]) X (kX1_leftAt l G q1.2 p1 q3.1 q3.2  eq3) qw195 okX1_leftAt ⟨Nat.le_of_ble_eq_true rfl, Nat.le_of_ble_eq_true rfl⟩ hP hS rfl hl.1 rfl (Nat.le_of_ble_eq_true rfl) dX8_hide_9) hS (fun H locs hP hS => ?_)
    refine lv_iload_n hx hb dX8_hide_12 rfl (lv_at hl 1 rfl) ?_
    obtain ⟨q4, eq4, hM⟩ := xb hM
    refine x_goi (x_runS (rest := [.int q3.1, .ref (xad G h0)]) X (kX1_hiddenAt l G q3.2 p1 q4.1 q4.2  eq4) qw196 okX1_hiddenAt ⟨Nat.le_of_ble_eq_true rfl, Nat.le_of_ble_eq_true rfl⟩ hP hS rfl hl.1 rfl (Nat.le_of_ble_eq_true rfl) dX8_hide_13) hS (fun H locs hP hS => ?_)
    refine lv_iload_n hx hb dX8_hide_16 rfl (lv_at hl 2 rfl) ?_
    obtain ⟨q5, eq5, hM⟩ := xb hM
    refine x_goi (x_runV (rest := []) X (kX8_moved l G q4.2 h0 q3.1 q4.1 p2 q5.1 q5.2 hk0 eq5) qw197 okX8_moved ⟨Nat.le_of_ble_eq_true rfl, Nat.le_of_ble_eq_true rfl⟩ hk0 (by decide) rfl hP hS rfl hl.1 rfl (Nat.le_of_ble_eq_true rfl) dX8_hide_17) hS (fun H locs hP hS => ?_)
    refine lv_if_ne (tgt := 25) hx hb dX8_hide_20 (by decide) (fun c6 => ?_) (fun c6 => ?_)
    · replace hM := (if_neg c6).symm.trans hM
      refine lv_aload_n hx hb dX8_hide_25 rfl (lv_at hl 0 rfl) ?_
      obtain ⟨d7, ed7, hM⟩ := xb hM
      refine fdX8_0 X hP hk0 qw169 dX8_hide_26 ed7 ?_
      refine lv_iload_n hx hb dX8_hide_29 rfl (lv_at hl 1 rfl) ?_
      obtain ⟨q8, eq8, hM⟩ := xb hM
      refine x_goi (x_runS (rest := [.ref (xad G d7)]) X (kX1_leftAt l G q5.2 p1 q8.1 q8.2  eq8) qw195 okX1_leftAt ⟨Nat.le_of_ble_eq_true rfl, Nat.le_of_ble_eq_true rfl⟩ hP hS rfl hl.1 rfl (Nat.le_of_ble_eq_true rfl) dX8_hide_30) hS (fun H locs hP hS => ?_)
      obtain ⟨q9, eq9, hM⟩ := xb hM
      refine x_goi (x_runV (rest := []) X (kX1_get l G q8.2 d7 q8.1 q9.1 q9.2 (dO_k ed7) eq9) qw189 okX1_get ⟨Nat.le_of_ble_eq_true rfl, Nat.le_of_ble_eq_true rfl⟩ (dO_k ed7) (by decide) rfl hP hS rfl hl.1 rfl (Nat.le_of_ble_eq_true rfl) dX8_hide_33) hS (fun H locs hP hS => ?_)
      exact x_iret X hP hS hM dX8_hide_36
    · replace hM := (if_pos c6).symm.trans hM
      refine lv_iconst (v := (-1)) hx hb dX8_hide_23 (by decide) ?_
      exact x_iret X hP hS hM dX8_hide_24

def mX8_give (S : xS) (h0 : Nat) (p1 : Int32) (p2 : Int32) : Option (Int32 × xS) := (mX8_isTable S p1).bind fun q1 => if (q1.1 = 0 : Prop) then (some ((-1), q1.2)) else ((mX1_hiddenAt q1.2 p1).bind fun q3 => (mX1_leftAt q3.2 p1).bind fun q4 => (mX8_moved q4.2 h0 q3.1 q4.1 p2).bind fun q5 => if (q5.1 = 0 : Prop) then (some ((-1), q5.2)) else ((dO Yc (gR q5.2 h0 0) 1).bind fun d7 => (mX1_leftAt q5.2 p1).bind fun q8 => (mX1_get q8.2 d7 q8.1).bind fun q9 => some (q9.1, q9.2)))
set_option maxHeartbeats 4000000 in
set_option maxRecDepth 100000 in
theorem kX8_give (l : Launch) (G : xG) (S : xS) (h0 : Nat) (p1 : Int32) (p2 : Int32) (r : Int32) (S' : xS) (hk0 : xk Yc h0 = 8) (hM : mX8_give S h0 p1 p2 = some (r, S')) : xM l yX8_give cX8_give 3 (some .int) 3 103 G Yc [.ref (xad G h0), .int p1, .int p2] S (xQi G Yc r S') := by
  refine x_start (own := RX8) (by decide +kernel) rfl (Nat.le_of_ble_eq_true rfl) ?_
  intro p e s m below meth c ls X hl hP hS
  obtain ⟨hx, hb, hml, hown, hts, hr, hlk, hK, hE, hJ⟩ := id X
  have hl : lv_has ls 3 [(0, .ref (xad G h0)), (1, .int p1), (2, .int p2)] := hl
  unfold mX8_give at hM
  refine lv_iload_n hx hb dX8_give_0 rfl (lv_at hl 1 rfl) ?_
  obtain ⟨q1, eq1, hM⟩ := xb hM
  refine x_goi (x_runS (rest := []) X (kX8_isTable l G S p1 q1.1 q1.2  eq1) qw187 okX8_isTable ⟨Nat.le_of_ble_eq_true rfl, Nat.le_of_ble_eq_true rfl⟩ hP hS rfl hl.1 rfl (Nat.le_of_ble_eq_true rfl) dX8_give_1) hS (fun H locs hP hS => ?_)
  refine lv_if_eq (tgt := 23) hx hb dX8_give_4 (by decide) (fun c2 => ?_) (fun c2 => ?_)
  · replace hM := (if_pos c2).symm.trans hM
    refine lv_iconst (v := (-1)) hx hb dX8_give_23 (by decide) ?_
    exact x_iret X hP hS hM dX8_give_24
  · replace hM := (if_neg c2).symm.trans hM
    refine lv_aload_n hx hb dX8_give_7 rfl (lv_at hl 0 rfl) ?_
    refine lv_iload_n hx hb dX8_give_8 rfl (lv_at hl 1 rfl) ?_
    obtain ⟨q3, eq3, hM⟩ := xb hM
    refine x_goi (x_runS (rest := [.ref (xad G h0)]) X (kX1_hiddenAt l G q1.2 p1 q3.1 q3.2  eq3) qw196 okX1_hiddenAt ⟨Nat.le_of_ble_eq_true rfl, Nat.le_of_ble_eq_true rfl⟩ hP hS rfl hl.1 rfl (Nat.le_of_ble_eq_true rfl) dX8_give_9) hS (fun H locs hP hS => ?_)
    refine lv_iload_n hx hb dX8_give_12 rfl (lv_at hl 1 rfl) ?_
    obtain ⟨q4, eq4, hM⟩ := xb hM
    refine x_goi (x_runS (rest := [.int q3.1, .ref (xad G h0)]) X (kX1_leftAt l G q3.2 p1 q4.1 q4.2  eq4) qw195 okX1_leftAt ⟨Nat.le_of_ble_eq_true rfl, Nat.le_of_ble_eq_true rfl⟩ hP hS rfl hl.1 rfl (Nat.le_of_ble_eq_true rfl) dX8_give_13) hS (fun H locs hP hS => ?_)
    refine lv_iload_n hx hb dX8_give_16 rfl (lv_at hl 2 rfl) ?_
    obtain ⟨q5, eq5, hM⟩ := xb hM
    refine x_goi (x_runV (rest := []) X (kX8_moved l G q4.2 h0 q3.1 q4.1 p2 q5.1 q5.2 hk0 eq5) qw197 okX8_moved ⟨Nat.le_of_ble_eq_true rfl, Nat.le_of_ble_eq_true rfl⟩ hk0 (by decide) rfl hP hS rfl hl.1 rfl (Nat.le_of_ble_eq_true rfl) dX8_give_17) hS (fun H locs hP hS => ?_)
    refine lv_if_ne (tgt := 25) hx hb dX8_give_20 (by decide) (fun c6 => ?_) (fun c6 => ?_)
    · replace hM := (if_neg c6).symm.trans hM
      refine lv_aload_n hx hb dX8_give_25 rfl (lv_at hl 0 rfl) ?_
      obtain ⟨d7, ed7, hM⟩ := xb hM
      refine fdX8_0 X hP hk0 qw169 dX8_give_26 ed7 ?_
      refine lv_iload_n hx hb dX8_give_29 rfl (lv_at hl 1 rfl) ?_
      obtain ⟨q8, eq8, hM⟩ := xb hM
      refine x_goi (x_runS (rest := [.ref (xad G d7)]) X (kX1_leftAt l G q5.2 p1 q8.1 q8.2  eq8) qw195 okX1_leftAt ⟨Nat.le_of_ble_eq_true rfl, Nat.le_of_ble_eq_true rfl⟩ hP hS rfl hl.1 rfl (Nat.le_of_ble_eq_true rfl) dX8_give_30) hS (fun H locs hP hS => ?_)
      obtain ⟨q9, eq9, hM⟩ := xb hM
      refine x_goi (x_runV (rest := []) X (kX1_get l G q8.2 d7 q8.1 q9.1 q9.2 (dO_k ed7) eq9) qw189 okX1_get ⟨Nat.le_of_ble_eq_true rfl, Nat.le_of_ble_eq_true rfl⟩ (dO_k ed7) (by decide) rfl hP hS rfl hl.1 rfl (Nat.le_of_ble_eq_true rfl) dX8_give_33) hS (fun H locs hP hS => ?_)
      exact x_iret X hP hS hM dX8_give_36
    · replace hM := (if_pos c6).symm.trans hM
      refine lv_iconst (v := (-1)) hx hb dX8_give_23 (by decide) ?_
      exact x_iret X hP hS hM dX8_give_24

def lX8_pass_34 : Nat → xS → Nat → Int32 → Int32 → Int32 → Option (Int32 × xS)
  | 0, _, _, _, _, _ => none
  | n + 1, S, h0, v1, v2, v3 => if (v1 ≤ v3 : Prop) then (some (v2, S)) else ((dO Yc (gR S h0 3) 3).bind fun d2 => (mX3_dawnForAll S d2).bind fun q3 => lX8_pass_34 n q3.2 h0 v1 (v2 + q3.1) (v3 + 1))
set_option maxHeartbeats 4000000 in
set_option maxRecDepth 100000 in
theorem wX8_pass_34 {p : Program} {l : Launch} {e : Env} {s : State} {m : MethodId} {args : Array Value} {below : List Frame} {meth : Method} {c : Code} {G : xG} {r : Int32} {S' : xS} (X : xX p s m args meth c cX8_pass 4 (some .int) RX8 G Yc) : ∀ (n : Nat), ∀ (S : xS) (h0 : Nat) (v1 : Int32) (v2 : Int32) (v3 : Int32) (H : Heap) (locs : List Loc) (ls : Array Slot), lX8_pass_34  n S h0 v1 v2 v3 = some (r, S') → xk Yc h0 = 8 → xP G Yc S H → va_S (xA G Yc) s.heap H locs → lv_has ls 4 [(0, .ref (xad G h0)), (1, .int v1), (2, .int v2), (3, .int v3)] → W p l e (xr 5 122) s m args below meth c H locs 0 0 (MQ below (xQi G Yc r S') args s 0 0 (xA G Yc)) (F0 m 34 ls []) := by
  obtain ⟨hx, hb, hml, hown, hts, hr, hlk, hK, hE, hJ⟩ := id X
  intro n
  induction n with
  | zero =>
    intro S h0 v1 v2 v3 H locs ls hM
    rw [lX8_pass_34.eq_1] at hM
    cases hM
  | succ n ih =>
    intro S h0 v1 v2 v3 H locs ls hM hk0 hP hS hl
    rw [lX8_pass_34.eq_2] at hM
    refine lv_iload_n hx hb dX8_pass_34 rfl (lv_at hl 3 rfl) ?_
    refine lv_iload_n hx hb dX8_pass_35 rfl (lv_at hl 1 rfl) ?_
    refine lv_icmp_ge (tgt := 55) hx hb dX8_pass_36 (by decide) (fun c1 => ?_) (fun c1 => ?_)
    · replace hM := (if_pos c1).symm.trans hM
      refine lv_iload_n hx hb dX8_pass_55 rfl (lv_at hl 2 rfl) ?_
      exact x_iret X hP hS hM dX8_pass_56
    · replace hM := (if_neg c1).symm.trans hM
      refine lv_iload_n hx hb dX8_pass_39 rfl (lv_at hl 2 rfl) ?_
      refine lv_aload_n hx hb dX8_pass_40 rfl (lv_at hl 0 rfl) ?_
      obtain ⟨d2, ed2, hM⟩ := xb hM
      refine fdX8_3 X hP hk0 qw185 dX8_pass_41 ed2 ?_
      obtain ⟨q3, eq3, hM⟩ := xb hM
      refine x_goi (x_runV (rest := [.int v2]) X (kX3_dawnForAll l G S d2 q3.1 q3.2 (dO_k ed2) eq3) qw198 okX3_dawnForAll ⟨Nat.le_of_ble_eq_true rfl, Nat.le_of_ble_eq_true rfl⟩ (dO_k ed2) (by decide) rfl hP hS rfl hl.1 rfl (Nat.le_of_ble_eq_true rfl) dX8_pass_44) hS (fun H locs hP hS => ?_)
      refine lv_iadd hx hb dX8_pass_47 ?_
      refine lv_istore_n (lv' := [(2, .int (v2 + q3.1)), (0, .ref (xad G h0)), (1, .int v1), (3, .int v3)]) hx hb dX8_pass_48 rfl hl (by decide) rfl (fun ls hl => ?_)
      refine lv_iinc (v := v3 + 1) (lv' := [(3, .int (v3 + 1)), (2, .int (v2 + q3.1)), (0, .ref (xad G h0)), (1, .int v1)]) hx hb dX8_pass_49 hl (k := 3) rfl (by first | rfl | exact congrArg (fun z => v3 + z) (by decide)) (by decide) rfl (fun ls hl => ?_)
      refine lv_goto (tgt := 34) hx hb dX8_pass_52 (by decide) ?_
      exact ih q3.2 h0 v1 (v2 + q3.1) (v3 + 1) _ _ _ hM hk0 hP hS (lv_sub hl [2, 3, 1, 0] rfl)
def mX8_pass (S : xS) (h0 : Nat) (p1 : Int32) : Option (Int32 × xS) := if (p1 < 1 : Prop) then (some ((-1), S)) else (if (99 < p1 : Prop) then (some ((-1), S)) else ((dO Yc (gR S h0 0) 1).bind fun d3 => (mX1_get S d3 12).bind fun q4 => if ((q4.1 + p1) ≤ 999 : Prop) then (lX8_pass_34  5000 q4.2 h0 p1 0 0) else (some ((-1), q4.2))))
set_option maxHeartbeats 4000000 in
set_option maxRecDepth 100000 in
theorem kX8_pass (l : Launch) (G : xG) (S : xS) (h0 : Nat) (p1 : Int32) (r : Int32) (S' : xS) (hk0 : xk Yc h0 = 8) (hM : mX8_pass S h0 p1 = some (r, S')) : xM l yX8_pass cX8_pass 4 (some .int) 5 122 G Yc [.ref (xad G h0), .int p1] S (xQi G Yc r S') := by
  refine x_start (own := RX8) (by decide +kernel) rfl (Nat.le_of_ble_eq_true rfl) ?_
  intro p e s m below meth c ls X hl hP hS
  obtain ⟨hx, hb, hml, hown, hts, hr, hlk, hK, hE, hJ⟩ := id X
  have hl : lv_has ls 4 [(0, .ref (xad G h0)), (1, .int p1)] := hl
  unfold mX8_pass at hM
  refine lv_iload_n hx hb dX8_pass_0 rfl (lv_at hl 1 rfl) ?_
  refine lv_iconst (v := 1) hx hb dX8_pass_1 (by decide) ?_
  refine lv_icmp_lt (tgt := 28) hx hb dX8_pass_2 (by decide) (fun c1 => ?_) (fun c1 => ?_)
  · replace hM := (if_pos c1).symm.trans hM
    refine lv_iconst (v := (-1)) hx hb dX8_pass_28 (by decide) ?_
    exact x_iret X hP hS hM dX8_pass_29
  · replace hM := (if_neg c1).symm.trans hM
    refine lv_iload_n hx hb dX8_pass_5 rfl (lv_at hl 1 rfl) ?_
    refine lv_bipush (v := 99) hx hb dX8_pass_6 (by decide) ?_
    refine lv_icmp_gt (tgt := 28) hx hb dX8_pass_8 (by decide) (fun c2 => ?_) (fun c2 => ?_)
    · replace hM := (if_pos c2).symm.trans hM
      refine lv_iconst (v := (-1)) hx hb dX8_pass_28 (by decide) ?_
      exact x_iret X hP hS hM dX8_pass_29
    · replace hM := (if_neg c2).symm.trans hM
      refine lv_aload_n hx hb dX8_pass_11 rfl (lv_at hl 0 rfl) ?_
      obtain ⟨d3, ed3, hM⟩ := xb hM
      refine fdX8_0 X hP hk0 qw169 dX8_pass_12 ed3 ?_
      refine lv_bipush (v := 12) hx hb dX8_pass_15 (by decide) ?_
      obtain ⟨q4, eq4, hM⟩ := xb hM
      refine x_goi (x_runV (rest := []) X (kX1_get l G S d3 12 q4.1 q4.2 (dO_k ed3) eq4) qw189 okX1_get ⟨Nat.le_of_ble_eq_true rfl, Nat.le_of_ble_eq_true rfl⟩ (dO_k ed3) (by decide) rfl hP hS rfl hl.1 rfl (Nat.le_of_ble_eq_true rfl) dX8_pass_17) hS (fun H locs hP hS => ?_)
      refine lv_iload_n hx hb dX8_pass_20 rfl (lv_at hl 1 rfl) ?_
      refine lv_iadd hx hb dX8_pass_21 ?_
      refine lv_sipush (v := 999) hx hb dX8_pass_22 (by decide) ?_
      refine lv_icmp_le (tgt := 30) hx hb dX8_pass_25 (by decide) (fun c5 => ?_) (fun c5 => ?_)
      · replace hM := (if_pos c5).symm.trans hM
        refine lv_iconst (v := 0) hx hb dX8_pass_30 (by decide) ?_
        refine lv_istore_n (lv' := [(2, .int 0), (0, .ref (xad G h0)), (1, .int p1)]) hx hb dX8_pass_31 rfl hl (by decide) rfl (fun ls hl => ?_)
        refine lv_iconst (v := 0) hx hb dX8_pass_32 (by decide) ?_
        refine lv_istore_n (lv' := [(3, .int 0), (2, .int 0), (0, .ref (xad G h0)), (1, .int p1)]) hx hb dX8_pass_33 rfl hl (by decide) rfl (fun ls hl => ?_)
        exact wX8_pass_34 X  5000 q4.2 h0 p1 0 0 _ _ _ hM hk0 hP hS (lv_sub hl [2, 3, 1, 0] rfl)
      · replace hM := (if_neg c5).symm.trans hM
        refine lv_iconst (v := (-1)) hx hb dX8_pass_28 (by decide) ?_
        exact x_iret X hP hS hM dX8_pass_29

def jX8_played_177 (k30 : xS → Nat → Option Nat → Int32 → Option (Int32 × xS)) (S : xS) (h0 : Nat) (r2 : Option Nat) (v3 : Int32) (v6 : Int32) : Option (Int32 × xS) := if (v6 = 0 : Prop) then (some (v3, S)) else (k30 S h0 r2 (v3 + 1))
set_option maxHeartbeats 4000000 in
set_option maxRecDepth 100000 in
theorem wX8_played_177 {p : Program} {l : Launch} {e : Env} {s : State} {m : MethodId} {args : Array Value} {below : List Frame} {meth : Method} {c : Code} {G : xG} {r : Int32} {S' : xS} (X : xX p s m args meth c cX8_played 7 (some .int) RX8 G Yc) (k30 : xS → Nat → Option Nat → Int32 → Option (Int32 × xS)) (hh30 : ∀ (S : xS) (h0 : Nat) (r2 : Option Nat) (v3 : Int32) (H : Heap) (locs : List Loc) (ls : Array Slot), k30 S h0 r2 v3 = some (r, S') → xk Yc h0 = 8 → xP G Yc S H → va_S (xA G Yc) s.heap H locs → lv_has ls 7 [(0, .ref (xad G h0)), (2, va_rf (Option.map (xad G) r2)), (3, .int v3)] → W p l e (xr 6 145) s m args below meth c H locs 0 0 (MQ below (xQi G Yc r S') args s 0 0 (xA G Yc)) (F0 m 30 ls [])) : ∀ (S : xS) (h0 : Nat) (r2 : Option Nat) (v3 : Int32) (v6 : Int32) (H : Heap) (locs : List Loc) (ls : Array Slot), jX8_played_177 k30 S h0 r2 v3 v6 = some (r, S') → xk Yc h0 = 8 → xP G Yc S H → va_S (xA G Yc) s.heap H locs → lv_has ls 7 [(0, .ref (xad G h0)), (2, va_rf (Option.map (xad G) r2)), (3, .int v3), (6, .int v6)] → W p l e (xr 6 145) s m args below meth c H locs 0 0 (MQ below (xQi G Yc r S') args s 0 0 (xA G Yc)) (F0 m 177 ls []) := by
  obtain ⟨hx, hb, hml, hown, hts, hr, hlk, hK, hE, hJ⟩ := id X
  intro S h0 r2 v3 v6 H locs ls hM hk0 hP hS hl
  unfold jX8_played_177 at hM
  refine lv_iload hx hb dX8_played_177 (lv_at hl 3 rfl) ?_
  refine lv_if_ne (tgt := 184) hx hb dX8_played_179 (by decide) (fun c1 => ?_) (fun c1 => ?_)
  · replace hM := (if_neg c1).symm.trans hM
    refine lv_iinc (v := v3 + 1) (lv' := [(3, .int (v3 + 1)), (0, .ref (xad G h0)), (2, va_rf (Option.map (xad G) r2)), (6, .int v6)]) hx hb dX8_played_184 hl (k := 2) rfl (by first | rfl | exact congrArg (fun z => v3 + z) (by decide)) (by decide) (by cases r2 <;> rfl) (fun ls hl => ?_)
    refine lv_goto (tgt := 30) hx hb dX8_played_187 (by decide) ?_
    exact hh30 S h0 r2 (v3 + 1) _ _ _ hM hk0 hP hS (lv_sub hl [1, 2, 0] rfl)
  · replace hM := (if_pos c1).symm.trans hM
    refine lv_iload_n hx hb dX8_played_182 rfl (lv_at hl 2 rfl) ?_
    exact x_iret X hP hS hM dX8_played_183
def jX8_played_172 (k30 : xS → Nat → Option Nat → Int32 → Option (Int32 × xS)) (S : xS) (h0 : Nat) (r2 : Option Nat) (v3 : Int32) (t0 : Int32) : Option (Int32 × xS) := jX8_played_177 k30 S h0 r2 v3 t0
set_option maxHeartbeats 4000000 in
set_option maxRecDepth 100000 in
theorem wX8_played_172 {p : Program} {l : Launch} {e : Env} {s : State} {m : MethodId} {args : Array Value} {below : List Frame} {meth : Method} {c : Code} {G : xG} {r : Int32} {S' : xS} (X : xX p s m args meth c cX8_played 7 (some .int) RX8 G Yc) (k30 : xS → Nat → Option Nat → Int32 → Option (Int32 × xS)) (hh30 : ∀ (S : xS) (h0 : Nat) (r2 : Option Nat) (v3 : Int32) (H : Heap) (locs : List Loc) (ls : Array Slot), k30 S h0 r2 v3 = some (r, S') → xk Yc h0 = 8 → xP G Yc S H → va_S (xA G Yc) s.heap H locs → lv_has ls 7 [(0, .ref (xad G h0)), (2, va_rf (Option.map (xad G) r2)), (3, .int v3)] → W p l e (xr 6 145) s m args below meth c H locs 0 0 (MQ below (xQi G Yc r S') args s 0 0 (xA G Yc)) (F0 m 30 ls [])) : ∀ (S : xS) (h0 : Nat) (r2 : Option Nat) (v3 : Int32) (t0 : Int32) (H : Heap) (locs : List Loc) (ls : Array Slot), jX8_played_172 k30 S h0 r2 v3 t0 = some (r, S') → xk Yc h0 = 8 → xP G Yc S H → va_S (xA G Yc) s.heap H locs → lv_has ls 7 [(0, .ref (xad G h0)), (2, va_rf (Option.map (xad G) r2)), (3, .int v3)] → W p l e (xr 6 145) s m args below meth c H locs 0 0 (MQ below (xQi G Yc r S') args s 0 0 (xA G Yc)) (F0 m 172 ls [.int t0]) := by
  obtain ⟨hx, hb, hml, hown, hts, hr, hlk, hK, hE, hJ⟩ := id X
  intro S h0 r2 v3 t0 H locs ls hM hk0 hP hS hl
  unfold jX8_played_172 at hM
  refine lv_istore (lv' := [(6, .int t0), (0, .ref (xad G h0)), (2, va_rf (Option.map (xad G) r2)), (3, .int v3)]) hx hb dX8_played_172 hl (by decide) rfl (fun ls hl => ?_)
  refine lv_goto (tgt := 177) hx hb dX8_played_174 (by decide) ?_
  exact wX8_played_177 X k30 hh30 S h0 r2 v3 t0 _ _ _ hM hk0 hP hS (lv_sub hl [1, 2, 3, 0] rfl)
def jX8_played_152 (k30 : xS → Nat → Option Nat → Int32 → Option (Int32 × xS)) (S : xS) (h0 : Nat) (r2 : Option Nat) (v3 : Int32) (t0 : Int32) : Option (Int32 × xS) := jX8_played_177 k30 S h0 r2 v3 t0
set_option maxHeartbeats 4000000 in
set_option maxRecDepth 100000 in
theorem wX8_played_152 {p : Program} {l : Launch} {e : Env} {s : State} {m : MethodId} {args : Array Value} {below : List Frame} {meth : Method} {c : Code} {G : xG} {r : Int32} {S' : xS} (X : xX p s m args meth c cX8_played 7 (some .int) RX8 G Yc) (k30 : xS → Nat → Option Nat → Int32 → Option (Int32 × xS)) (hh30 : ∀ (S : xS) (h0 : Nat) (r2 : Option Nat) (v3 : Int32) (H : Heap) (locs : List Loc) (ls : Array Slot), k30 S h0 r2 v3 = some (r, S') → xk Yc h0 = 8 → xP G Yc S H → va_S (xA G Yc) s.heap H locs → lv_has ls 7 [(0, .ref (xad G h0)), (2, va_rf (Option.map (xad G) r2)), (3, .int v3)] → W p l e (xr 6 145) s m args below meth c H locs 0 0 (MQ below (xQi G Yc r S') args s 0 0 (xA G Yc)) (F0 m 30 ls [])) : ∀ (S : xS) (h0 : Nat) (r2 : Option Nat) (v3 : Int32) (t0 : Int32) (H : Heap) (locs : List Loc) (ls : Array Slot), jX8_played_152 k30 S h0 r2 v3 t0 = some (r, S') → xk Yc h0 = 8 → xP G Yc S H → va_S (xA G Yc) s.heap H locs → lv_has ls 7 [(0, .ref (xad G h0)), (2, va_rf (Option.map (xad G) r2)), (3, .int v3)] → W p l e (xr 6 145) s m args below meth c H locs 0 0 (MQ below (xQi G Yc r S') args s 0 0 (xA G Yc)) (F0 m 152 ls [.int t0]) := by
  obtain ⟨hx, hb, hml, hown, hts, hr, hlk, hK, hE, hJ⟩ := id X
  intro S h0 r2 v3 t0 H locs ls hM hk0 hP hS hl
  unfold jX8_played_152 at hM
  refine lv_istore (lv' := [(6, .int t0), (0, .ref (xad G h0)), (2, va_rf (Option.map (xad G) r2)), (3, .int v3)]) hx hb dX8_played_152 hl (by decide) rfl (fun ls hl => ?_)
  refine lv_goto (tgt := 177) hx hb dX8_played_154 (by decide) ?_
  exact wX8_played_177 X k30 hh30 S h0 r2 v3 t0 _ _ _ hM hk0 hP hS (lv_sub hl [1, 2, 3, 0] rfl)
def jX8_played_130 (k30 : xS → Nat → Option Nat → Int32 → Option (Int32 × xS)) (S : xS) (h0 : Nat) (r2 : Option Nat) (v3 : Int32) (t0 : Int32) : Option (Int32 × xS) := jX8_played_177 k30 S h0 r2 v3 t0
set_option maxHeartbeats 4000000 in
set_option maxRecDepth 100000 in
theorem wX8_played_130 {p : Program} {l : Launch} {e : Env} {s : State} {m : MethodId} {args : Array Value} {below : List Frame} {meth : Method} {c : Code} {G : xG} {r : Int32} {S' : xS} (X : xX p s m args meth c cX8_played 7 (some .int) RX8 G Yc) (k30 : xS → Nat → Option Nat → Int32 → Option (Int32 × xS)) (hh30 : ∀ (S : xS) (h0 : Nat) (r2 : Option Nat) (v3 : Int32) (H : Heap) (locs : List Loc) (ls : Array Slot), k30 S h0 r2 v3 = some (r, S') → xk Yc h0 = 8 → xP G Yc S H → va_S (xA G Yc) s.heap H locs → lv_has ls 7 [(0, .ref (xad G h0)), (2, va_rf (Option.map (xad G) r2)), (3, .int v3)] → W p l e (xr 6 145) s m args below meth c H locs 0 0 (MQ below (xQi G Yc r S') args s 0 0 (xA G Yc)) (F0 m 30 ls [])) : ∀ (S : xS) (h0 : Nat) (r2 : Option Nat) (v3 : Int32) (t0 : Int32) (H : Heap) (locs : List Loc) (ls : Array Slot), jX8_played_130 k30 S h0 r2 v3 t0 = some (r, S') → xk Yc h0 = 8 → xP G Yc S H → va_S (xA G Yc) s.heap H locs → lv_has ls 7 [(0, .ref (xad G h0)), (2, va_rf (Option.map (xad G) r2)), (3, .int v3)] → W p l e (xr 6 145) s m args below meth c H locs 0 0 (MQ below (xQi G Yc r S') args s 0 0 (xA G Yc)) (F0 m 130 ls [.int t0]) := by
  obtain ⟨hx, hb, hml, hown, hts, hr, hlk, hK, hE, hJ⟩ := id X
  intro S h0 r2 v3 t0 H locs ls hM hk0 hP hS hl
  unfold jX8_played_130 at hM
  refine lv_istore (lv' := [(6, .int t0), (0, .ref (xad G h0)), (2, va_rf (Option.map (xad G) r2)), (3, .int v3)]) hx hb dX8_played_130 hl (by decide) rfl (fun ls hl => ?_)
  refine lv_goto (tgt := 177) hx hb dX8_played_132 (by decide) ?_
  exact wX8_played_177 X k30 hh30 S h0 r2 v3 t0 _ _ _ hM hk0 hP hS (lv_sub hl [1, 2, 3, 0] rfl)
def lX8_played_30 : Nat → xS → Nat → Option Nat → Int32 → Option (Int32 × xS)
  | 0, _, _, _, _ => none
  | n + 1, S, h0, r2, v3 => (dO Yc r2 6).bind fun d1 => if ((gI S d1 10) ≤ v3 : Prop) then (some ((-1), S)) else (if (24 ≤ v3 : Prop) then (some ((-1), S)) else ((dO Yc r2 6).bind fun d4 => (dO Yc (gR S d4 8) 10).bind fun d5 => (aI Yc S d5 v3).bind fun x6 => (dO Yc r2 6).bind fun d7 => (dO Yc (gR S d7 9) 10).bind fun d8 => (aI Yc S d8 v3).bind fun x9 => (dO Yc r2 6).bind fun d10 => (dO Yc (gR S d10 7) 10).bind fun d11 => (aI Yc S d11 v3).bind fun x12 => if (x12 : Int32) = 202 then ((mX8_seat S h0 x6 x9).bind fun q14 => jX8_played_177 (lX8_played_30  n) q14.2 h0 r2 v3 q14.1) else (if (x12 : Int32) = 203 then ((mX8_hide S h0 x9 x6).bind fun q16 => if (q16.1 = (-1) : Prop) then (jX8_played_130 (lX8_played_30  n) q16.2 h0 r2 v3 0) else (jX8_played_130 (lX8_played_30  n) q16.2 h0 r2 v3 1)) else (if (x12 : Int32) = 204 then ((mX8_give S h0 x9 x6).bind fun q19 => if (q19.1 = (-1) : Prop) then (jX8_played_152 (lX8_played_30  n) q19.2 h0 r2 v3 0) else (jX8_played_152 (lX8_played_30  n) q19.2 h0 r2 v3 1)) else (if (x12 : Int32) = 205 then ((mX8_pass S h0 x6).bind fun q22 => if (q22.1 = (-1) : Prop) then (jX8_played_172 (lX8_played_30  n) q22.2 h0 r2 v3 0) else (jX8_played_172 (lX8_played_30  n) q22.2 h0 r2 v3 1)) else (jX8_played_177 (lX8_played_30  n) S h0 r2 v3 1))))))
set_option maxHeartbeats 4000000 in
set_option maxRecDepth 100000 in
theorem wX8_played_30 {p : Program} {l : Launch} {e : Env} {s : State} {m : MethodId} {args : Array Value} {below : List Frame} {meth : Method} {c : Code} {G : xG} {r : Int32} {S' : xS} (X : xX p s m args meth c cX8_played 7 (some .int) RX8 G Yc) : ∀ (n : Nat), ∀ (S : xS) (h0 : Nat) (r2 : Option Nat) (v3 : Int32) (H : Heap) (locs : List Loc) (ls : Array Slot), lX8_played_30  n S h0 r2 v3 = some (r, S') → xk Yc h0 = 8 → xP G Yc S H → va_S (xA G Yc) s.heap H locs → lv_has ls 7 [(0, .ref (xad G h0)), (2, va_rf (Option.map (xad G) r2)), (3, .int v3)] → W p l e (xr 6 145) s m args below meth c H locs 0 0 (MQ below (xQi G Yc r S') args s 0 0 (xA G Yc)) (F0 m 30 ls []) := by
  obtain ⟨hx, hb, hml, hown, hts, hr, hlk, hK, hE, hJ⟩ := id X
  intro n
  induction n with
  | zero =>
    intro S h0 r2 v3 H locs ls hM
    rw [lX8_played_30.eq_1] at hM
    cases hM
  | succ n ih =>
    intro S h0 r2 v3 H locs ls hM hk0 hP hS hl
    rw [lX8_played_30.eq_2] at hM
    refine lv_iload_n hx hb dX8_played_30 rfl (lv_at hl 2 rfl) ?_
    refine x_aloadR_n hx hb dX8_played_31 rfl (lv_at hl 1 rfl) ?_
    obtain ⟨d1, ed1, hM⟩ := xb hM
    refine x_deref (dO_r ed1) ?_
    refine fgX6_10 X hP (dO_k ed1) qw199 dX8_played_32 ?_
    refine lv_icmp_ge (tgt := 190) hx hb dX8_played_35 (by decide) (fun c2 => ?_) (fun c2 => ?_)
    · replace hM := (if_pos c2).symm.trans hM
      refine lv_iconst (v := (-1)) hx hb dX8_played_190 (by decide) ?_
      exact x_iret X hP hS hM dX8_played_191
    · replace hM := (if_neg c2).symm.trans hM
      refine lv_iload_n hx hb dX8_played_38 rfl (lv_at hl 2 rfl) ?_
      refine lv_bipush (v := 24) hx hb dX8_played_39 (by decide) ?_
      refine lv_icmp_ge (tgt := 190) hx hb dX8_played_41 (by decide) (fun c3 => ?_) (fun c3 => ?_)
      · replace hM := (if_pos c3).symm.trans hM
        refine lv_iconst (v := (-1)) hx hb dX8_played_190 (by decide) ?_
        exact x_iret X hP hS hM dX8_played_191
      · replace hM := (if_neg c3).symm.trans hM
        refine x_aloadR_n hx hb dX8_played_44 rfl (lv_at hl 1 rfl) ?_
        obtain ⟨d4, ed4, hM⟩ := xb hM
        refine x_deref (dO_r ed4) ?_
        obtain ⟨d5, ed5, hM⟩ := xb hM
        refine fdX6_8 X hP (dO_k ed4) qw200 dX8_played_45 ed5 ?_
        refine lv_iload_n hx hb dX8_played_48 rfl (lv_at hl 2 rfl) ?_
        obtain ⟨x6, ex6, hM⟩ := xb hM
        refine x_iald X hP (dO_k ed5) ex6 dX8_played_49 ?_
        refine lv_istore (lv' := [(4, .int x6), (0, .ref (xad G h0)), (2, va_rf (Option.map (xad G) r2)), (3, .int v3)]) hx hb dX8_played_50 hl (by decide) rfl (fun ls hl => ?_)
        refine x_aloadR_n hx hb dX8_played_52 rfl (lv_at hl 2 rfl) ?_
        obtain ⟨d7, ed7, hM⟩ := xb hM
        refine x_deref (dO_r ed7) ?_
        obtain ⟨d8, ed8, hM⟩ := xb hM
        refine fdX6_9 X hP (dO_k ed7) qw201 dX8_played_53 ed8 ?_
        refine lv_iload_n hx hb dX8_played_56 rfl (lv_at hl 3 rfl) ?_
        obtain ⟨x9, ex9, hM⟩ := xb hM
        refine x_iald X hP (dO_k ed8) ex9 dX8_played_57 ?_
        refine lv_istore (lv' := [(5, .int x9), (4, .int x6), (0, .ref (xad G h0)), (2, va_rf (Option.map (xad G) r2)), (3, .int v3)]) hx hb dX8_played_58 hl (by decide) rfl (fun ls hl => ?_)
        refine lv_iconst (v := 1) hx hb dX8_played_60 (by decide) ?_
        refine lv_istore (lv' := [(6, .int 1), (5, .int x9), (4, .int x6), (0, .ref (xad G h0)), (2, va_rf (Option.map (xad G) r2)), (3, .int v3)]) hx hb dX8_played_61 hl (by decide) rfl (fun ls hl => ?_)
        refine x_aloadR_n hx hb dX8_played_63 rfl (lv_at hl 4 rfl) ?_
        obtain ⟨d10, ed10, hM⟩ := xb hM
        refine x_deref (dO_r ed10) ?_
        obtain ⟨d11, ed11, hM⟩ := xb hM
        refine fdX6_7 X hP (dO_k ed10) qw202 dX8_played_64 ed11 ?_
        refine lv_iload_n hx hb dX8_played_67 rfl (lv_at hl 5 rfl) ?_
        obtain ⟨x12, ex12, hM⟩ := xb hM
        refine x_iald X hP (dO_k ed11) ex12 dX8_played_68 ?_
        by_cases c13 : x12 = 202
        · replace hM := (if_pos c13).symm.trans hM
          refine x_tabIn (tgt := 100) (off := 31) hx hb dX8_played_69 c13 (by decide) (by decide) (by decide) (by decide) ?_
          refine lv_aload_n hx hb dX8_played_100 rfl (lv_at hl 3 rfl) ?_
          refine lv_iload hx hb dX8_played_101 (lv_at hl 2 rfl) ?_
          refine lv_iload hx hb dX8_played_103 (lv_at hl 1 rfl) ?_
          obtain ⟨q14, eq14, hM⟩ := xb hM
          refine x_goi (x_runV (rest := []) X (kX8_seat l G S h0 x6 x9 q14.1 q14.2 hk0 eq14) qw203 okX8_seat ⟨Nat.le_of_ble_eq_true rfl, Nat.le_of_ble_eq_true rfl⟩ hk0 (by decide) rfl hP hS rfl hl.1 rfl (Nat.le_of_ble_eq_true rfl) dX8_played_105) hS (fun H locs hP hS => ?_)
          refine lv_istore (lv' := [(6, .int q14.1), (5, .int x9), (4, .int x6), (0, .ref (xad G h0)), (2, va_rf (Option.map (xad G) r2)), (3, .int v3)]) hx hb dX8_played_108 hl (by decide) rfl (fun ls hl => ?_)
          refine lv_goto (tgt := 177) hx hb dX8_played_110 (by decide) ?_
          exact wX8_played_177 X (lX8_played_30  n) ih q14.2 h0 r2 v3 q14.1 _ _ _ hM hk0 hP hS (lv_sub hl [3, 4, 5, 0] rfl)
        replace hM := (if_neg c13).symm.trans hM
        by_cases c15 : x12 = 203
        · replace hM := (if_pos c15).symm.trans hM
          refine x_tabIn (tgt := 113) (off := 44) hx hb dX8_played_69 c15 (by decide) (by decide) (by decide) (by decide) ?_
          refine lv_aload_n hx hb dX8_played_113 rfl (lv_at hl 3 rfl) ?_
          refine lv_iload hx hb dX8_played_114 (lv_at hl 1 rfl) ?_
          refine lv_iload hx hb dX8_played_116 (lv_at hl 2 rfl) ?_
          obtain ⟨q16, eq16, hM⟩ := xb hM
          refine x_goi (x_runV (rest := []) X (kX8_hide l G S h0 x9 x6 q16.1 q16.2 hk0 eq16) qw204 okX8_hide ⟨Nat.le_of_ble_eq_true rfl, Nat.le_of_ble_eq_true rfl⟩ hk0 (by decide) rfl hP hS rfl hl.1 rfl (Nat.le_of_ble_eq_true rfl) dX8_played_118) hS (fun H locs hP hS => ?_)
          refine lv_iconst (v := (-1)) hx hb dX8_played_121 (by decide) ?_
          refine lv_icmp_eq (tgt := 129) hx hb dX8_played_122 (by decide) (fun c17 => ?_) (fun c17 => ?_)
          · replace hM := (if_pos c17).symm.trans hM
            refine lv_iconst (v := 0) hx hb dX8_played_129 (by decide) ?_
            exact wX8_played_130 X (lX8_played_30  n) ih q16.2 h0 r2 v3 0 _ _ _ hM hk0 hP hS (lv_sub hl [3, 4, 5] rfl)
          · replace hM := (if_neg c17).symm.trans hM
            refine lv_iconst (v := 1) hx hb dX8_played_125 (by decide) ?_
            refine lv_goto (tgt := 130) hx hb dX8_played_126 (by decide) ?_
            exact wX8_played_130 X (lX8_played_30  n) ih q16.2 h0 r2 v3 1 _ _ _ hM hk0 hP hS (lv_sub hl [3, 4, 5] rfl)
        replace hM := (if_neg c15).symm.trans hM
        by_cases c18 : x12 = 204
        · replace hM := (if_pos c18).symm.trans hM
          refine x_tabIn (tgt := 135) (off := 66) hx hb dX8_played_69 c18 (by decide) (by decide) (by decide) (by decide) ?_
          refine lv_aload_n hx hb dX8_played_135 rfl (lv_at hl 3 rfl) ?_
          refine lv_iload hx hb dX8_played_136 (lv_at hl 1 rfl) ?_
          refine lv_iload hx hb dX8_played_138 (lv_at hl 2 rfl) ?_
          obtain ⟨q19, eq19, hM⟩ := xb hM
          refine x_goi (x_runV (rest := []) X (kX8_give l G S h0 x9 x6 q19.1 q19.2 hk0 eq19) qw205 okX8_give ⟨Nat.le_of_ble_eq_true rfl, Nat.le_of_ble_eq_true rfl⟩ hk0 (by decide) rfl hP hS rfl hl.1 rfl (Nat.le_of_ble_eq_true rfl) dX8_played_140) hS (fun H locs hP hS => ?_)
          refine lv_iconst (v := (-1)) hx hb dX8_played_143 (by decide) ?_
          refine lv_icmp_eq (tgt := 151) hx hb dX8_played_144 (by decide) (fun c20 => ?_) (fun c20 => ?_)
          · replace hM := (if_pos c20).symm.trans hM
            refine lv_iconst (v := 0) hx hb dX8_played_151 (by decide) ?_
            exact wX8_played_152 X (lX8_played_30  n) ih q19.2 h0 r2 v3 0 _ _ _ hM hk0 hP hS (lv_sub hl [3, 4, 5] rfl)
          · replace hM := (if_neg c20).symm.trans hM
            refine lv_iconst (v := 1) hx hb dX8_played_147 (by decide) ?_
            refine lv_goto (tgt := 152) hx hb dX8_played_148 (by decide) ?_
            exact wX8_played_152 X (lX8_played_30  n) ih q19.2 h0 r2 v3 1 _ _ _ hM hk0 hP hS (lv_sub hl [3, 4, 5] rfl)
        replace hM := (if_neg c18).symm.trans hM
        by_cases c21 : x12 = 205
        · replace hM := (if_pos c21).symm.trans hM
          refine x_tabIn (tgt := 157) (off := 88) hx hb dX8_played_69 c21 (by decide) (by decide) (by decide) (by decide) ?_
          refine lv_aload_n hx hb dX8_played_157 rfl (lv_at hl 3 rfl) ?_
          refine lv_iload hx hb dX8_played_158 (lv_at hl 2 rfl) ?_
          obtain ⟨q22, eq22, hM⟩ := xb hM
          refine x_goi (x_runV (rest := []) X (kX8_pass l G S h0 x6 q22.1 q22.2 hk0 eq22) qw206 okX8_pass ⟨Nat.le_of_ble_eq_true rfl, Nat.le_of_ble_eq_true rfl⟩ hk0 (by decide) rfl hP hS rfl hl.1 rfl (Nat.le_of_ble_eq_true rfl) dX8_played_160) hS (fun H locs hP hS => ?_)
          refine lv_iconst (v := (-1)) hx hb dX8_played_163 (by decide) ?_
          refine lv_icmp_eq (tgt := 171) hx hb dX8_played_164 (by decide) (fun c23 => ?_) (fun c23 => ?_)
          · replace hM := (if_pos c23).symm.trans hM
            refine lv_iconst (v := 0) hx hb dX8_played_171 (by decide) ?_
            exact wX8_played_172 X (lX8_played_30  n) ih q22.2 h0 r2 v3 0 _ _ _ hM hk0 hP hS (lv_sub hl [3, 4, 5] rfl)
          · replace hM := (if_neg c23).symm.trans hM
            refine lv_iconst (v := 1) hx hb dX8_played_167 (by decide) ?_
            refine lv_goto (tgt := 172) hx hb dX8_played_168 (by decide) ?_
            exact wX8_played_172 X (lX8_played_30  n) ih q22.2 h0 r2 v3 1 _ _ _ hM hk0 hP hS (lv_sub hl [3, 4, 5] rfl)
        replace hM := (if_neg c21).symm.trans hM
        have gc13 : ¬ (x12 : Int32).toInt = 202 := xne c13
        have gc15 : ¬ (x12 : Int32).toInt = 203 := xne c15
        have gc18 : ¬ (x12 : Int32).toInt = 204 := xne c18
        have gc21 : ¬ (x12 : Int32).toInt = 205 := xne c21
        refine lv_tableOut (tgt := 177) hx hb dX8_played_69 (by omega) (by decide) ?_
        exact wX8_played_177 X (lX8_played_30  n) ih S h0 r2 v3 1 _ _ _ hM hk0 hP hS (lv_sub hl [3, 4, 5, 0] rfl)
def jX8_played_20 (S : xS) (h0 : Nat) (t0 : Option Nat) : Option (Int32 × xS) := if t0 = none then (some ((-2), S)) else (lX8_played_30  5000 S h0 t0 0)
set_option maxHeartbeats 4000000 in
set_option maxRecDepth 100000 in
theorem wX8_played_20 {p : Program} {l : Launch} {e : Env} {s : State} {m : MethodId} {args : Array Value} {below : List Frame} {meth : Method} {c : Code} {G : xG} {r : Int32} {S' : xS} (X : xX p s m args meth c cX8_played 7 (some .int) RX8 G Yc) : ∀ (S : xS) (h0 : Nat) (t0 : Option Nat) (H : Heap) (locs : List Loc) (ls : Array Slot), jX8_played_20  S h0 t0 = some (r, S') → xk Yc h0 = 8 → xP G Yc S H → va_S (xA G Yc) s.heap H locs → lv_has ls 7 [(0, .ref (xad G h0))] → W p l e (xr 6 145) s m args below meth c H locs 0 0 (MQ below (xQi G Yc r S') args s 0 0 (xA G Yc)) (F0 m 20 ls [va_rf (Option.map (xad G) t0)]) := by
  obtain ⟨hx, hb, hml, hown, hts, hr, hlk, hK, hE, hJ⟩ := id X
  intro S h0 t0 H locs ls hM hk0 hP hS hl
  unfold jX8_played_20 at hM
  refine x_astoreR_n (lv' := [(2, va_rf (Option.map (xad G) t0)), (0, .ref (xad G h0))]) hx hb dX8_played_20 rfl hl (by decide) rfl (fun ls hl => ?_)
  refine x_aloadR_n hx hb dX8_played_21 rfl (lv_at hl 0 rfl) ?_
  refine x_ifnonnull (tgt := 28) hx hb dX8_played_22 (by decide) (fun c1 => ?_) (fun c1 => ?_)
  · replace hM := (if_neg c1).symm.trans hM
    refine lv_iconst (v := 0) hx hb dX8_played_28 (by decide) ?_
    refine lv_istore_n (lv' := [(3, .int 0), (2, va_rf (Option.map (xad G) t0)), (0, .ref (xad G h0))]) hx hb dX8_played_29 rfl hl (by decide) (by cases t0 <;> rfl) (fun ls hl => ?_)
    exact wX8_played_30 X  5000 S h0 t0 0 _ _ _ hM hk0 hP hS (lv_sub hl [2, 1, 0] rfl)
  · replace hM := (if_pos c1).symm.trans hM
    refine lv_bipush (v := (-2)) hx hb dX8_played_25 (by decide) ?_
    exact x_iret X hP hS hM dX8_played_27
def mX8_played (S : xS) (h0 : Nat) (p1 : Int32) : Option (Int32 × xS) := (dO Yc (gR S h0 0) 1).bind fun d1 => if ((gI S d1 7) ≤ p1 : Prop) then (jX8_played_20  S h0 (none : Option Nat)) else ((mX8_textAt S h0 p1).bind fun q3 => jX8_played_20  q3.2 h0 q3.1)
set_option maxHeartbeats 4000000 in
set_option maxRecDepth 100000 in
theorem kX8_played (l : Launch) (G : xG) (S : xS) (h0 : Nat) (p1 : Int32) (r : Int32) (S' : xS) (hk0 : xk Yc h0 = 8) (hM : mX8_played S h0 p1 = some (r, S')) : xM l yX8_played cX8_played 7 (some .int) 6 145 G Yc [.ref (xad G h0), .int p1] S (xQi G Yc r S') := by
  refine x_start (own := RX8) (by decide +kernel) rfl (Nat.le_of_ble_eq_true rfl) ?_
  intro p e s m below meth c ls X hl hP hS
  obtain ⟨hx, hb, hml, hown, hts, hr, hlk, hK, hE, hJ⟩ := id X
  have hl : lv_has ls 7 [(0, .ref (xad G h0)), (1, .int p1)] := hl
  unfold mX8_played at hM
  refine lv_iload_n hx hb dX8_played_0 rfl (lv_at hl 1 rfl) ?_
  refine lv_aload_n hx hb dX8_played_1 rfl (lv_at hl 0 rfl) ?_
  obtain ⟨d1, ed1, hM⟩ := xb hM
  refine fdX8_0 X hP hk0 qw169 dX8_played_2 ed1 ?_
  refine fgX1_7 X hP (dO_k ed1) qw177 dX8_played_5 ?_
  refine lv_icmp_ge (tgt := 19) hx hb dX8_played_8 (by decide) (fun c2 => ?_) (fun c2 => ?_)
  · replace hM := (if_pos c2).symm.trans hM
    refine x_null (G := G) hx hb dX8_played_19 ?_
    exact wX8_played_20 X  S h0 (none : Option Nat) _ _ _ hM hk0 hP hS (lv_sub hl [0] rfl)
  · replace hM := (if_neg c2).symm.trans hM
    refine lv_aload_n hx hb dX8_played_11 rfl (lv_at hl 0 rfl) ?_
    refine lv_iload_n hx hb dX8_played_12 rfl (lv_at hl 1 rfl) ?_
    obtain ⟨q3, eq3, hM⟩ := xb hM
    refine x_goq (x_runV (rest := []) X (kX8_textAt l G S h0 p1 q3.1 q3.2 hk0 eq3) qw178 okX8_textAt ⟨Nat.le_of_ble_eq_true rfl, Nat.le_of_ble_eq_true rfl⟩ hk0 (by decide) rfl hP hS rfl hl.1 rfl (Nat.le_of_ble_eq_true rfl) dX8_played_13) hS (fun H locs hP hS => ?_)
    refine lv_goto (tgt := 20) hx hb dX8_played_16 (by decide) ?_
    exact wX8_played_20 X  q3.2 h0 q3.1 _ _ _ hM hk0 hP hS (lv_sub hl [0] rfl)

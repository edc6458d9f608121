def lX9_pass_30 : Nat → xS → Nat → Int32 → Int32 → Int32 → Option (Int32 × xS)
  | 0, _, _, _, _, _ => none
  | n + 1, S, h0, v1, v2, v3 => if (v1 ≤ v3 : Prop) then (some (v2, S)) else ((mX9_passOne S h0).bind fun q2 => lX9_pass_30 n q2.2 h0 v1 (v2 + q2.1) (v3 + 1))
set_option maxHeartbeats 4000000 in
set_option maxRecDepth 100000 in
theorem wX9_pass_30 {p : Program} {l : Launch} {e : Env} {s : State} {m : MethodId} {args : Array Value} {below : List Frame} {meth : Method} {c : Code} {G : xG} {r : Int32} {S' : xS} (X : xX p s m args meth c cX9_pass 4 (some .int) RX9 G Ym) : ∀ (n : Nat), ∀ (S : xS) (h0 : Nat) (v1 : Int32) (v2 : Int32) (v3 : Int32) (H : Heap) (locs : List Loc) (ls : Array Slot), lX9_pass_30  n S h0 v1 v2 v3 = some (r, S') → xk Ym h0 = 9 → xP G Ym S H → va_S (xA G Ym) s.heap H locs → lv_has ls 4 [(0, .ref (xad G h0)), (1, .int v1), (2, .int v2), (3, .int v3)] → W p l e (xr 7 170) s m args below meth c H locs 0 0 (MQ below (xQi G Ym r S') args s 0 0 (xA G Ym)) (F0 m 30 ls []) := by
  obtain ⟨hx, hb, hml, hown, hts, hr, hlk, hK, hE, hJ⟩ := id X
  intro n
  induction n with
  | zero =>
    intro S h0 v1 v2 v3 H locs ls hM
    rw [lX9_pass_30.eq_1] at hM
    cases hM
  | succ n ih =>
    intro S h0 v1 v2 v3 H locs ls hM hk0 hP hS hl
    rw [lX9_pass_30.eq_2] at hM
    refine lv_iload_n hx hb dX9_pass_30 rfl (lv_at hl 3 rfl) ?_
    refine lv_iload_n hx hb dX9_pass_31 rfl (lv_at hl 1 rfl) ?_
    refine lv_icmp_ge (tgt := 48) hx hb dX9_pass_32 (by decide) (fun c1 => ?_) (fun c1 => ?_)
    · replace hM := (if_pos c1).symm.trans hM
      refine lv_iload_n hx hb dX9_pass_48 rfl (lv_at hl 2 rfl) ?_
      exact x_iret X hP hS hM dX9_pass_49
    · replace hM := (if_neg c1).symm.trans hM
      refine lv_iload_n hx hb dX9_pass_35 rfl (lv_at hl 2 rfl) ?_
      refine lv_aload_n hx hb dX9_pass_36 rfl (lv_at hl 0 rfl) ?_
      obtain ⟨q2, eq2, hM⟩ := xb hM
      refine x_goi (x_runV (rest := [.int v2]) X (kX9_passOne l G S h0 q2.1 q2.2 hk0 eq2) qw313 okX9_passOne ⟨Nat.le_of_ble_eq_true rfl, Nat.le_of_ble_eq_true rfl⟩ hk0 (by decide) rfl hP hS rfl hl.1 rfl (Nat.le_of_ble_eq_true rfl) dX9_pass_37) hS (fun H locs hP hS => ?_)
      refine lv_iadd hx hb dX9_pass_40 ?_
      refine lv_istore_n (lv' := [(2, .int (v2 + q2.1)), (0, .ref (xad G h0)), (1, .int v1), (3, .int v3)]) hx hb dX9_pass_41 rfl hl (by decide) rfl (fun ls hl => ?_)
      refine lv_iinc (v := v3 + 1) (lv' := [(3, .int (v3 + 1)), (2, .int (v2 + q2.1)), (0, .ref (xad G h0)), (1, .int v1)]) hx hb dX9_pass_42 hl (k := 3) rfl (by first | rfl | exact congrArg (fun z => v3 + z) (by decide)) (by decide) rfl (fun ls hl => ?_)
      refine lv_goto (tgt := 30) hx hb dX9_pass_45 (by decide) ?_
      exact ih q2.2 h0 v1 (v2 + q2.1) (v3 + 1) _ _ _ hM hk0 hP hS (lv_sub hl [2, 3, 1, 0] rfl)
def mX9_pass (S : xS) (h0 : Nat) (p1 : Int32) : Option (Int32 × xS) := (mX9_isIn S p1 1 99).bind fun q1 => if (q1.1 = 0 : Prop) then (some ((-1), q1.2)) else ((dO Ym (gR q1.2 h0 0) 10).bind fun d3 => (aI Ym q1.2 d3 1).bind fun x4 => if ((x4 + p1) ≤ 999 : Prop) then (lX9_pass_30  5000 q1.2 h0 p1 0 0) else (some ((-1), q1.2)))
set_option maxHeartbeats 4000000 in
set_option maxRecDepth 100000 in
theorem kX9_pass (l : Launch) (G : xG) (S : xS) (h0 : Nat) (p1 : Int32) (r : Int32) (S' : xS) (hk0 : xk Ym h0 = 9) (hM : mX9_pass S h0 p1 = some (r, S')) : xM l yX9_pass cX9_pass 4 (some .int) 7 170 G Ym [.ref (xad G h0), .int p1] S (xQi G Ym r S') := by
  refine x_start (own := RX9) (by decide +kernel) rfl (Nat.le_of_ble_eq_true rfl) ?_
  intro p e s m below meth c ls X hl hP hS
  obtain ⟨hx, hb, hml, hown, hts, hr, hlk, hK, hE, hJ⟩ := id X
  have hl : lv_has ls 4 [(0, .ref (xad G h0)), (1, .int p1)] := hl
  unfold mX9_pass at hM
  refine lv_iload_n hx hb dX9_pass_0 rfl (lv_at hl 1 rfl) ?_
  refine lv_iconst (v := 1) hx hb dX9_pass_1 (by decide) ?_
  refine lv_bipush (v := 99) hx hb dX9_pass_2 (by decide) ?_
  obtain ⟨q1, eq1, hM⟩ := xb hM
  refine x_goi (x_runS (rest := []) X (kX9_isIn l G S p1 1 99 q1.1 q1.2  eq1) qw228 okX9_isIn ⟨Nat.le_of_ble_eq_true rfl, Nat.le_of_ble_eq_true rfl⟩ hP hS rfl hl.1 rfl (Nat.le_of_ble_eq_true rfl) dX9_pass_4) hS (fun H locs hP hS => ?_)
  refine lv_if_eq (tgt := 24) hx hb dX9_pass_7 (by decide) (fun c2 => ?_) (fun c2 => ?_)
  · replace hM := (if_pos c2).symm.trans hM
    refine lv_iconst (v := (-1)) hx hb dX9_pass_24 (by decide) ?_
    exact x_iret X hP hS hM dX9_pass_25
  · replace hM := (if_neg c2).symm.trans hM
    refine lv_aload_n hx hb dX9_pass_10 rfl (lv_at hl 0 rfl) ?_
    obtain ⟨d3, ed3, hM⟩ := xb hM
    refine fdX9_0 X hP hk0 qw227 dX9_pass_11 ed3 ?_
    refine lv_iconst (v := 1) hx hb dX9_pass_14 (by decide) ?_
    obtain ⟨x4, ex4, hM⟩ := xb hM
    refine x_iald X hP (dO_k ed3) ex4 dX9_pass_15 ?_
    refine lv_iload_n hx hb dX9_pass_16 rfl (lv_at hl 1 rfl) ?_
    refine lv_iadd hx hb dX9_pass_17 ?_
    refine lv_sipush (v := 999) hx hb dX9_pass_18 (by decide) ?_
    refine lv_icmp_le (tgt := 26) hx hb dX9_pass_21 (by decide) (fun c5 => ?_) (fun c5 => ?_)
    · replace hM := (if_pos c5).symm.trans hM
      refine lv_iconst (v := 0) hx hb dX9_pass_26 (by decide) ?_
      refine lv_istore_n (lv' := [(2, .int 0), (0, .ref (xad G h0)), (1, .int p1)]) hx hb dX9_pass_27 rfl hl (by decide) rfl (fun ls hl => ?_)
      refine lv_iconst (v := 0) hx hb dX9_pass_28 (by decide) ?_
      refine lv_istore_n (lv' := [(3, .int 0), (2, .int 0), (0, .ref (xad G h0)), (1, .int p1)]) hx hb dX9_pass_29 rfl hl (by decide) rfl (fun ls hl => ?_)
      exact wX9_pass_30 X  5000 q1.2 h0 p1 0 0 _ _ _ hM hk0 hP hS (lv_sub hl [2, 3, 1, 0] rfl)
    · replace hM := (if_neg c5).symm.trans hM
      refine lv_iconst (v := (-1)) hx hb dX9_pass_24 (by decide) ?_
      exact x_iret X hP hS hM dX9_pass_25

def mX9_isPlayed (S : xS) (h0 : Nat) (p1 : Int32) : Option (Int32 × xS) := (dO Ym (gR S h0 2) 10).bind fun d1 => (aI Ym S d1 p1).bind fun x2 => if (x2 : Int32) = 2 then ((dO Ym (gR S h0 2) 10).bind fun d4 => (aI Ym S d4 (p1 + 1)).bind fun x5 => (dO Ym (gR S h0 2) 10).bind fun d6 => (aI Ym S d6 (p1 + 2)).bind fun x7 => (mX9_seat S h0 x5 x7).bind fun q8 => (zk q8.1).bind fun z9 => some (q8.1, q8.2)) else (if (x2 : Int32) = 3 then ((dO Ym (gR S h0 2) 10).bind fun d11 => (aI Ym S d11 (p1 + 2)).bind fun x12 => (dO Ym (gR S h0 2) 10).bind fun d13 => (aI Ym S d13 (p1 + 1)).bind fun x14 => (mX9_hide S h0 x12 x14).bind fun q15 => if (q15.1 < 0 : Prop) then (some (0, q15.2)) else (some (1, q15.2))) else (if (x2 : Int32) = 4 then ((dO Ym (gR S h0 2) 10).bind fun d18 => (aI Ym S d18 (p1 + 2)).bind fun x19 => (dO Ym (gR S h0 2) 10).bind fun d20 => (aI Ym S d20 (p1 + 1)).bind fun x21 => (mX9_give S h0 x19 x21).bind fun q22 => if (q22.1 < 0 : Prop) then (some (0, q22.2)) else (some (1, q22.2))) else (if (x2 : Int32) = 5 then ((dO Ym (gR S h0 2) 10).bind fun d25 => (aI Ym S d25 (p1 + 1)).bind fun x26 => (mX9_pass S h0 x26).bind fun q27 => if (q27.1 < 0 : Prop) then (some (0, q27.2)) else (some (1, q27.2))) else (some (1, S)))))
set_option maxHeartbeats 4000000 in
set_option maxRecDepth 100000 in
theorem kX9_isPlayed (l : Launch) (G : xG) (S : xS) (h0 : Nat) (p1 : Int32) (r : Int32) (S' : xS) (hk0 : xk Ym h0 = 9) (hM : mX9_isPlayed S h0 p1 = some (r, S')) : xM l yX9_isPlayed cX9_isPlayed 2 (some .boolean) 8 193 G Ym [.ref (xad G h0), .int p1] S (xQi G Ym r S') := by
  refine x_start (own := RX9) (by decide +kernel) rfl (Nat.le_of_ble_eq_true rfl) ?_
  intro p e s m below meth c ls X hl hP hS
  obtain ⟨hx, hb, hml, hown, hts, hr, hlk, hK, hE, hJ⟩ := id X
  have hl : lv_has ls 2 [(0, .ref (xad G h0)), (1, .int p1)] := hl
  unfold mX9_isPlayed at hM
  refine lv_aload_n hx hb dX9_isPlayed_0 rfl (lv_at hl 0 rfl) ?_
  obtain ⟨d1, ed1, hM⟩ := xb hM
  refine fdX9_2 X hP hk0 qw243 dX9_isPlayed_1 ed1 ?_
  refine lv_iload_n hx hb dX9_isPlayed_4 rfl (lv_at hl 1 rfl) ?_
  obtain ⟨x2, ex2, hM⟩ := xb hM
  refine x_iald X hP (dO_k ed1) ex2 dX9_isPlayed_5 ?_
  by_cases c3 : x2 = 2
  · replace hM := (if_pos c3).symm.trans hM
    refine x_tabIn (tgt := 36) (off := 30) hx hb dX9_isPlayed_6 c3 (by decide) (by decide) (by decide) (by decide) ?_
    refine lv_aload_n hx hb dX9_isPlayed_36 rfl (lv_at hl 0 rfl) ?_
    refine lv_aload_n hx hb dX9_isPlayed_37 rfl (lv_at hl 0 rfl) ?_
    obtain ⟨d4, ed4, hM⟩ := xb hM
    refine fdX9_2 X hP hk0 qw243 dX9_isPlayed_38 ed4 ?_
    refine lv_iload_n hx hb dX9_isPlayed_41 rfl (lv_at hl 1 rfl) ?_
    refine lv_iconst (v := 1) hx hb dX9_isPlayed_42 (by decide) ?_
    refine lv_iadd hx hb dX9_isPlayed_43 ?_
    obtain ⟨x5, ex5, hM⟩ := xb hM
    refine x_iald X hP (dO_k ed4) ex5 dX9_isPlayed_44 ?_
    refine lv_aload_n hx hb dX9_isPlayed_45 rfl (lv_at hl 0 rfl) ?_
    obtain ⟨d6, ed6, hM⟩ := xb hM
    refine fdX9_2 X hP hk0 qw243 dX9_isPlayed_46 ed6 ?_
    refine lv_iload_n hx hb dX9_isPlayed_49 rfl (lv_at hl 1 rfl) ?_
    refine lv_iconst (v := 2) hx hb dX9_isPlayed_50 (by decide) ?_
    refine lv_iadd hx hb dX9_isPlayed_51 ?_
    obtain ⟨x7, ex7, hM⟩ := xb hM
    refine x_iald X hP (dO_k ed6) ex7 dX9_isPlayed_52 ?_
    obtain ⟨q8, eq8, hM⟩ := xb hM
    refine x_goi (x_runV (rest := []) X (kX9_seat l G S h0 x5 x7 q8.1 q8.2 hk0 eq8) qw314 okX9_seat ⟨Nat.le_of_ble_eq_true rfl, Nat.le_of_ble_eq_true rfl⟩ hk0 (by decide) rfl hP hS rfl hl.1 rfl (Nat.le_of_ble_eq_true rfl) dX9_isPlayed_53) hS (fun H locs hP hS => ?_)
    obtain ⟨z9, ez9, hM⟩ := xb hM
    exact x_zret X hP hS (zk_v ez9).2 hM dX9_isPlayed_56
  replace hM := (if_neg c3).symm.trans hM
  by_cases c10 : x2 = 3
  · replace hM := (if_pos c10).symm.trans hM
    refine x_tabIn (tgt := 57) (off := 51) hx hb dX9_isPlayed_6 c10 (by decide) (by decide) (by decide) (by decide) ?_
    refine lv_aload_n hx hb dX9_isPlayed_57 rfl (lv_at hl 0 rfl) ?_
    refine lv_aload_n hx hb dX9_isPlayed_58 rfl (lv_at hl 0 rfl) ?_
    obtain ⟨d11, ed11, hM⟩ := xb hM
    refine fdX9_2 X hP hk0 qw243 dX9_isPlayed_59 ed11 ?_
    refine lv_iload_n hx hb dX9_isPlayed_62 rfl (lv_at hl 1 rfl) ?_
    refine lv_iconst (v := 2) hx hb dX9_isPlayed_63 (by decide) ?_
    refine lv_iadd hx hb dX9_isPlayed_64 ?_
    obtain ⟨x12, ex12, hM⟩ := xb hM
    refine x_iald X hP (dO_k ed11) ex12 dX9_isPlayed_65 ?_
    refine lv_aload_n hx hb dX9_isPlayed_66 rfl (lv_at hl 0 rfl) ?_
    obtain ⟨d13, ed13, hM⟩ := xb hM
    refine fdX9_2 X hP hk0 qw243 dX9_isPlayed_67 ed13 ?_
    refine lv_iload_n hx hb dX9_isPlayed_70 rfl (lv_at hl 1 rfl) ?_
    refine lv_iconst (v := 1) hx hb dX9_isPlayed_71 (by decide) ?_
    refine lv_iadd hx hb dX9_isPlayed_72 ?_
    obtain ⟨x14, ex14, hM⟩ := xb hM
    refine x_iald X hP (dO_k ed13) ex14 dX9_isPlayed_73 ?_
    obtain ⟨q15, eq15, hM⟩ := xb hM
    refine x_goi (x_runV (rest := []) X (kX9_hide l G S h0 x12 x14 q15.1 q15.2 hk0 eq15) qw315 okX9_hide ⟨Nat.le_of_ble_eq_true rfl, Nat.le_of_ble_eq_true rfl⟩ hk0 (by decide) rfl hP hS rfl hl.1 rfl (Nat.le_of_ble_eq_true rfl) dX9_isPlayed_74) hS (fun H locs hP hS => ?_)
    refine lv_if_lt (tgt := 84) hx hb dX9_isPlayed_77 (by decide) (fun c16 => ?_) (fun c16 => ?_)
    · replace hM := (if_pos c16).symm.trans hM
      refine lv_iconst (v := 0) hx hb dX9_isPlayed_84 (by decide) ?_
      exact x_zret X hP hS (Or.inl rfl) hM dX9_isPlayed_85
    · replace hM := (if_neg c16).symm.trans hM
      refine lv_iconst (v := 1) hx hb dX9_isPlayed_80 (by decide) ?_
      refine lv_goto (tgt := 85) hx hb dX9_isPlayed_81 (by decide) ?_
      exact x_zret X hP hS (Or.inr rfl) hM dX9_isPlayed_85
  replace hM := (if_neg c10).symm.trans hM
  by_cases c17 : x2 = 4
  · replace hM := (if_pos c17).symm.trans hM
    refine x_tabIn (tgt := 86) (off := 80) hx hb dX9_isPlayed_6 c17 (by decide) (by decide) (by decide) (by decide) ?_
    refine lv_aload_n hx hb dX9_isPlayed_86 rfl (lv_at hl 0 rfl) ?_
    refine lv_aload_n hx hb dX9_isPlayed_87 rfl (lv_at hl 0 rfl) ?_
    obtain ⟨d18, ed18, hM⟩ := xb hM
    refine fdX9_2 X hP hk0 qw243 dX9_isPlayed_88 ed18 ?_
    refine lv_iload_n hx hb dX9_isPlayed_91 rfl (lv_at hl 1 rfl) ?_
    refine lv_iconst (v := 2) hx hb dX9_isPlayed_92 (by decide) ?_
    refine lv_iadd hx hb dX9_isPlayed_93 ?_
    obtain ⟨x19, ex19, hM⟩ := xb hM
    refine x_iald X hP (dO_k ed18) ex19 dX9_isPlayed_94 ?_
    refine lv_aload_n hx hb dX9_isPlayed_95 rfl (lv_at hl 0 rfl) ?_
    obtain ⟨d20, ed20, hM⟩ := xb hM
    refine fdX9_2 X hP hk0 qw243 dX9_isPlayed_96 ed20 ?_
    refine lv_iload_n hx hb dX9_isPlayed_99 rfl (lv_at hl 1 rfl) ?_
    refine lv_iconst (v := 1) hx hb dX9_isPlayed_100 (by decide) ?_
    refine lv_iadd hx hb dX9_isPlayed_101 ?_
    obtain ⟨x21, ex21, hM⟩ := xb hM
    refine x_iald X hP (dO_k ed20) ex21 dX9_isPlayed_102 ?_
    obtain ⟨q22, eq22, hM⟩ := xb hM
    refine x_goi (x_runV (rest := []) X (kX9_give l G S h0 x19 x21 q22.1 q22.2 hk0 eq22) qw316 okX9_give ⟨Nat.le_of_ble_eq_true rfl, Nat.le_of_ble_eq_true rfl⟩ hk0 (by decide) rfl hP hS rfl hl.1 rfl (Nat.le_of_ble_eq_true rfl) dX9_isPlayed_103) hS (fun H locs hP hS => ?_)
    refine lv_if_lt (tgt := 113) hx hb dX9_isPlayed_106 (by decide) (fun c23 => ?_) (fun c23 => ?_)
    · replace hM := (if_pos c23).symm.trans hM
      refine lv_iconst (v := 0) hx hb dX9_isPlayed_113 (by decide) ?_
      exact x_zret X hP hS (Or.inl rfl) hM dX9_isPlayed_114
    · replace hM := (if_neg c23).symm.trans hM
      refine lv_iconst (v := 1) hx hb dX9_isPlayed_109 (by decide) ?_
      refine lv_goto (tgt := 114) hx hb dX9_isPlayed_110 (by decide) ?_
      exact x_zret X hP hS (Or.inr rfl) hM dX9_isPlayed_114
  replace hM := (if_neg c17).symm.trans hM
  by_cases c24 : x2 = 5
  · replace hM := (if_pos c24).symm.trans hM
    refine x_tabIn (tgt := 115) (off := 109) hx hb dX9_isPlayed_6 c24 (by decide) (by decide) (by decide) (by decide) ?_
    refine lv_aload_n hx hb dX9_isPlayed_115 rfl (lv_at hl 0 rfl) ?_
    refine lv_aload_n hx hb dX9_isPlayed_116 rfl (lv_at hl 0 rfl) ?_
    obtain ⟨d25, ed25, hM⟩ := xb hM
    refine fdX9_2 X hP hk0 qw243 dX9_isPlayed_117 ed25 ?_
    refine lv_iload_n hx hb dX9_isPlayed_120 rfl (lv_at hl 1 rfl) ?_
    refine lv_iconst (v := 1) hx hb dX9_isPlayed_121 (by decide) ?_
    refine lv_iadd hx hb dX9_isPlayed_122 ?_
    obtain ⟨x26, ex26, hM⟩ := xb hM
    refine x_iald X hP (dO_k ed25) ex26 dX9_isPlayed_123 ?_
    obtain ⟨q27, eq27, hM⟩ := xb hM
    refine x_goi (x_runV (rest := []) X (kX9_pass l G S h0 x26 q27.1 q27.2 hk0 eq27) qw317 okX9_pass ⟨Nat.le_of_ble_eq_true rfl, Nat.le_of_ble_eq_true rfl⟩ hk0 (by decide) rfl hP hS rfl hl.1 rfl (Nat.le_of_ble_eq_true rfl) dX9_isPlayed_124) hS (fun H locs hP hS => ?_)
    refine lv_if_lt (tgt := 134) hx hb dX9_isPlayed_127 (by decide) (fun c28 => ?_) (fun c28 => ?_)
    · replace hM := (if_pos c28).symm.trans hM
      refine lv_iconst (v := 0) hx hb dX9_isPlayed_134 (by decide) ?_
      exact x_zret X hP hS (Or.inl rfl) hM dX9_isPlayed_135
    · replace hM := (if_neg c28).symm.trans hM
      refine lv_iconst (v := 1) hx hb dX9_isPlayed_130 (by decide) ?_
      refine lv_goto (tgt := 135) hx hb dX9_isPlayed_131 (by decide) ?_
      exact x_zret X hP hS (Or.inr rfl) hM dX9_isPlayed_135
  replace hM := (if_neg c24).symm.trans hM
  have gc3 : ¬ (x2 : Int32).toInt = 2 := xne c3
  have gc10 : ¬ (x2 : Int32).toInt = 3 := xne c10
  have gc17 : ¬ (x2 : Int32).toInt = 4 := xne c17
  have gc24 : ¬ (x2 : Int32).toInt = 5 := xne c24
  refine lv_tableOut (tgt := 136) hx hb dX9_isPlayed_6 (by omega) (by decide) ?_
  refine lv_iconst (v := 1) hx hb dX9_isPlayed_136 (by decide) ?_
  exact x_zret X hP hS (Or.inr rfl) hM dX9_isPlayed_137

def lX9_played_21 : Nat → xS → Nat → Int32 → Int32 → Option (Int32 × xS)
  | 0, _, _, _, _ => none
  | n + 1, S, h0, v1, v2 => (dO Ym (gR S h0 2) 10).bind fun d1 => (aI Ym S d1 (680 * v1)).bind fun x2 => if (x2 ≤ v2 : Prop) then (some ((-1), S)) else ((mX9_isPlayed S h0 (((680 * v1) + 1) + (3 * v2))).bind fun q4 => if (q4.1 = 0 : Prop) then (some (v2, q4.2)) else (lX9_played_21 n q4.2 h0 v1 (v2 + 1)))
set_option maxHeartbeats 4000000 in
set_option maxRecDepth 100000 in
theorem wX9_played_21 {p : Program} {l : Launch} {e : Env} {s : State} {m : MethodId} {args : Array Value} {below : List Frame} {meth : Method} {c : Code} {G : xG} {r : Int32} {S' : xS} (X : xX p s m args meth c cX9_played 3 (some .int) RX9 G Ym) : ∀ (n : Nat), ∀ (S : xS) (h0 : Nat) (v1 : Int32) (v2 : Int32) (H : Heap) (locs : List Loc) (ls : Array Slot), lX9_played_21  n S h0 v1 v2 = some (r, S') → xk Ym h0 = 9 → xP G Ym S H → va_S (xA G Ym) s.heap H locs → lv_has ls 3 [(0, .ref (xad G h0)), (1, .int v1), (2, .int v2)] → W p l e (xr 9 214) s m args below meth c H locs 0 0 (MQ below (xQi G Ym r S') args s 0 0 (xA G Ym)) (F0 m 21 ls []) := by
  obtain ⟨hx, hb, hml, hown, hts, hr, hlk, hK, hE, hJ⟩ := id X
  intro n
  induction n with
  | zero =>
    intro S h0 v1 v2 H locs ls hM
    rw [lX9_played_21.eq_1] at hM
    cases hM
  | succ n ih =>
    intro S h0 v1 v2 H locs ls hM hk0 hP hS hl
    rw [lX9_played_21.eq_2] at hM
    refine lv_iload_n hx hb dX9_played_21 rfl (lv_at hl 2 rfl) ?_
    refine lv_aload_n hx hb dX9_played_22 rfl (lv_at hl 0 rfl) ?_
    obtain ⟨d1, ed1, hM⟩ := xb hM
    refine fdX9_2 X hP hk0 qw243 dX9_played_23 ed1 ?_
    refine lv_sipush (v := 680) hx hb dX9_played_26 (by decide) ?_
    refine lv_iload_n hx hb dX9_played_29 rfl (lv_at hl 1 rfl) ?_
    refine lv_imul hx hb dX9_played_30 ?_
    obtain ⟨x2, ex2, hM⟩ := xb hM
    refine x_iald X hP (dO_k ed1) ex2 dX9_played_31 ?_
    refine lv_icmp_ge (tgt := 61) hx hb dX9_played_32 (by decide) (fun c3 => ?_) (fun c3 => ?_)
    · replace hM := (if_pos c3).symm.trans hM
      refine lv_iconst (v := (-1)) hx hb dX9_played_61 (by decide) ?_
      exact x_iret X hP hS hM dX9_played_62
    · replace hM := (if_neg c3).symm.trans hM
      refine lv_aload_n hx hb dX9_played_35 rfl (lv_at hl 0 rfl) ?_
      refine lv_sipush (v := 680) hx hb dX9_played_36 (by decide) ?_
      refine lv_iload_n hx hb dX9_played_39 rfl (lv_at hl 1 rfl) ?_
      refine lv_imul hx hb dX9_played_40 ?_
      refine lv_iconst (v := 1) hx hb dX9_played_41 (by decide) ?_
      refine lv_iadd hx hb dX9_played_42 ?_
      refine lv_iconst (v := 3) hx hb dX9_played_43 (by decide) ?_
      refine lv_iload_n hx hb dX9_played_44 rfl (lv_at hl 2 rfl) ?_
      refine lv_imul hx hb dX9_played_45 ?_
      refine lv_iadd hx hb dX9_played_46 ?_
      obtain ⟨q4, eq4, hM⟩ := xb hM
      refine x_goi (x_runV (rest := []) X (kX9_isPlayed l G S h0 (((680 * v1) + 1) + (3 * v2)) q4.1 q4.2 hk0 eq4) qw318 okX9_isPlayed ⟨Nat.le_of_ble_eq_true rfl, Nat.le_of_ble_eq_true rfl⟩ hk0 (by decide) rfl hP hS rfl hl.1 rfl (Nat.le_of_ble_eq_true rfl) dX9_played_47) hS (fun H locs hP hS => ?_)
      refine lv_if_ne (tgt := 55) hx hb dX9_played_50 (by decide) (fun c5 => ?_) (fun c5 => ?_)
      · replace hM := (if_neg c5).symm.trans hM
        refine lv_iinc (v := v2 + 1) (lv' := [(2, .int (v2 + 1)), (0, .ref (xad G h0)), (1, .int v1)]) hx hb dX9_played_55 hl (k := 2) rfl (by first | rfl | exact congrArg (fun z => v2 + z) (by decide)) (by decide) rfl (fun ls hl => ?_)
        refine lv_goto (tgt := 21) hx hb dX9_played_58 (by decide) ?_
        exact ih q4.2 h0 v1 (v2 + 1) _ _ _ hM hk0 hP hS (lv_sub hl [1, 2, 0] rfl)
      · replace hM := (if_pos c5).symm.trans hM
        refine lv_iload_n hx hb dX9_played_53 rfl (lv_at hl 2 rfl) ?_
        exact x_iret X hP hS hM dX9_played_54
def mX9_played (S : xS) (h0 : Nat) (p1 : Int32) : Option (Int32 × xS) := (dO Ym (gR S h0 0) 10).bind fun d1 => (aI Ym S d1 4).bind fun x2 => (mX9_isIn S p1 0 (x2 - 1)).bind fun q3 => if (q3.1 = 0 : Prop) then (some ((-2), q3.2)) else (lX9_played_21  5000 q3.2 h0 p1 0)
set_option maxHeartbeats 4000000 in
set_option maxRecDepth 100000 in
theorem kX9_played (l : Launch) (G : xG) (S : xS) (h0 : Nat) (p1 : Int32) (r : Int32) (S' : xS) (hk0 : xk Ym h0 = 9) (hM : mX9_played S h0 p1 = some (r, S')) : xM l yX9_played cX9_played 3 (some .int) 9 214 G Ym [.ref (xad G h0), .int p1] S (xQi G Ym r S') := by
  refine x_start (own := RX9) (by decide +kernel) rfl (Nat.le_of_ble_eq_true rfl) ?_
  intro p e s m below meth c ls X hl hP hS
  obtain ⟨hx, hb, hml, hown, hts, hr, hlk, hK, hE, hJ⟩ := id X
  have hl : lv_has ls 3 [(0, .ref (xad G h0)), (1, .int p1)] := hl
  unfold mX9_played at hM
  refine lv_iload_n hx hb dX9_played_0 rfl (lv_at hl 1 rfl) ?_
  refine lv_iconst (v := 0) hx hb dX9_played_1 (by decide) ?_
  refine lv_aload_n hx hb dX9_played_2 rfl (lv_at hl 0 rfl) ?_
  obtain ⟨d1, ed1, hM⟩ := xb hM
  refine fdX9_0 X hP hk0 qw227 dX9_played_3 ed1 ?_
  refine lv_iconst (v := 4) hx hb dX9_played_6 (by decide) ?_
  obtain ⟨x2, ex2, hM⟩ := xb hM
  refine x_iald X hP (dO_k ed1) ex2 dX9_played_7 ?_
  refine lv_iconst (v := 1) hx hb dX9_played_8 (by decide) ?_
  refine lv_isub hx hb dX9_played_9 ?_
  obtain ⟨q3, eq3, hM⟩ := xb hM
  refine x_goi (x_runS (rest := []) X (kX9_isIn l G S p1 0 (x2 - 1) q3.1 q3.2  eq3) qw228 okX9_isIn ⟨Nat.le_of_ble_eq_true rfl, Nat.le_of_ble_eq_true rfl⟩ hP hS rfl hl.1 rfl (Nat.le_of_ble_eq_true rfl) dX9_played_10) hS (fun H locs hP hS => ?_)
  refine lv_if_ne (tgt := 19) hx hb dX9_played_13 (by decide) (fun c4 => ?_) (fun c4 => ?_)
  · replace hM := (if_neg c4).symm.trans hM
    refine lv_iconst (v := 0) hx hb dX9_played_19 (by decide) ?_
    refine lv_istore_n (lv' := [(2, .int 0), (0, .ref (xad G h0)), (1, .int p1)]) hx hb dX9_played_20 rfl hl (by decide) rfl (fun ls hl => ?_)
    exact wX9_played_21 X  5000 q3.2 h0 p1 0 _ _ _ hM hk0 hP hS (lv_sub hl [1, 2, 0] rfl)
  · replace hM := (if_pos c4).symm.trans hM
    refine lv_bipush (v := (-2)) hx hb dX9_played_16 (by decide) ?_
    exact x_iret X hP hS hM dX9_played_18

def mX9_of (S : xS) (h0 : Nat) (p1 : Int32) (p2 : Int32) : Option (Int32 × xS) := (mX9_isTable S p1).bind fun q1 => if (q1.1 = 0 : Prop) then (some ((-1), q1.2)) else ((mX9_isIn q1.2 p2 0 3).bind fun q3 => if (q3.1 = 0 : Prop) then (some ((-1), q3.2)) else (if (3 ≤ p2 : Prop) then ((mX9_sittingAt q3.2 h0 p1).bind fun q6 => some (q6.1, q6.2)) else ((dO Ym (gR q3.2 h0 0) 10).bind fun d7 => (aI Ym q3.2 d7 ((10 + (3 * p1)) + p2)).bind fun x8 => some (x8, q3.2))))
set_option maxHeartbeats 4000000 in
set_option maxRecDepth 100000 in
theorem kX9_of (l : Launch) (G : xG) (S : xS) (h0 : Nat) (p1 : Int32) (p2 : Int32) (r : Int32) (S' : xS) (hk0 : xk Ym h0 = 9) (hM : mX9_of S h0 p1 p2 = some (r, S')) : xM l yX9_of cX9_of 3 (some .int) 2 44 G Ym [.ref (xad G h0), .int p1, .int p2] S (xQi G Ym r S') := by
  refine x_start (own := RX9) (by decide +kernel) rfl (Nat.le_of_ble_eq_true rfl) ?_
  intro p e s m below meth c ls X hl hP hS
  obtain ⟨hx, hb, hml, hown, hts, hr, hlk, hK, hE, hJ⟩ := id X
  have hl : lv_has ls 3 [(0, .ref (xad G h0)), (1, .int p1), (2, .int p2)] := hl
  unfold mX9_of at hM
  refine lv_iload_n hx hb dX9_of_0 rfl (lv_at hl 1 rfl) ?_
  obtain ⟨q1, eq1, hM⟩ := xb hM
  refine x_goi (x_runS (rest := []) X (kX9_isTable l G S p1 q1.1 q1.2  eq1) qw295 okX9_isTable ⟨Nat.le_of_ble_eq_true rfl, Nat.le_of_ble_eq_true rfl⟩ hP hS rfl hl.1 rfl (Nat.le_of_ble_eq_true rfl) dX9_of_1) hS (fun H locs hP hS => ?_)
  refine lv_if_eq (tgt := 16) hx hb dX9_of_4 (by decide) (fun c2 => ?_) (fun c2 => ?_)
  · replace hM := (if_pos c2).symm.trans hM
    refine lv_iconst (v := (-1)) hx hb dX9_of_16 (by decide) ?_
    exact x_iret X hP hS hM dX9_of_17
  · replace hM := (if_neg c2).symm.trans hM
    refine lv_iload_n hx hb dX9_of_7 rfl (lv_at hl 2 rfl) ?_
    refine lv_iconst (v := 0) hx hb dX9_of_8 (by decide) ?_
    refine lv_iconst (v := 3) hx hb dX9_of_9 (by decide) ?_
    obtain ⟨q3, eq3, hM⟩ := xb hM
    refine x_goi (x_runS (rest := []) X (kX9_isIn l G q1.2 p2 0 3 q3.1 q3.2  eq3) qw228 okX9_isIn ⟨Nat.le_of_ble_eq_true rfl, Nat.le_of_ble_eq_true rfl⟩ hP hS rfl hl.1 rfl (Nat.le_of_ble_eq_true rfl) dX9_of_10) hS (fun H locs hP hS => ?_)
    refine lv_if_ne (tgt := 18) hx hb dX9_of_13 (by decide) (fun c4 => ?_) (fun c4 => ?_)
    · replace hM := (if_neg c4).symm.trans hM
      refine lv_iload_n hx hb dX9_of_18 rfl (lv_at hl 2 rfl) ?_
      refine lv_iconst (v := 3) hx hb dX9_of_19 (by decide) ?_
      refine lv_icmp_ge (tgt := 39) hx hb dX9_of_20 (by decide) (fun c5 => ?_) (fun c5 => ?_)
      · replace hM := (if_pos c5).symm.trans hM
        refine lv_aload_n hx hb dX9_of_39 rfl (lv_at hl 0 rfl) ?_
        refine lv_iload_n hx hb dX9_of_40 rfl (lv_at hl 1 rfl) ?_
        obtain ⟨q6, eq6, hM⟩ := xb hM
        refine x_goi (x_runV (rest := []) X (kX9_sittingAt l G q3.2 h0 p1 q6.1 q6.2 hk0 eq6) qw303 okX9_sittingAt ⟨Nat.le_of_ble_eq_true rfl, Nat.le_of_ble_eq_true rfl⟩ hk0 (by decide) rfl hP hS rfl hl.1 rfl (Nat.le_of_ble_eq_true rfl) dX9_of_41) hS (fun H locs hP hS => ?_)
        exact x_iret X hP hS hM dX9_of_44
      · replace hM := (if_neg c5).symm.trans hM
        refine lv_aload_n hx hb dX9_of_23 rfl (lv_at hl 0 rfl) ?_
        obtain ⟨d7, ed7, hM⟩ := xb hM
        refine fdX9_0 X hP hk0 qw227 dX9_of_24 ed7 ?_
        refine lv_bipush (v := 10) hx hb dX9_of_27 (by decide) ?_
        refine lv_iconst (v := 3) hx hb dX9_of_29 (by decide) ?_
        refine lv_iload_n hx hb dX9_of_30 rfl (lv_at hl 1 rfl) ?_
        refine lv_imul hx hb dX9_of_31 ?_
        refine lv_iadd hx hb dX9_of_32 ?_
        refine lv_iload_n hx hb dX9_of_33 rfl (lv_at hl 2 rfl) ?_
        refine lv_iadd hx hb dX9_of_34 ?_
        obtain ⟨x8, ex8, hM⟩ := xb hM
        refine x_iald X hP (dO_k ed7) ex8 dX9_of_35 ?_
        refine lv_goto (tgt := 44) hx hb dX9_of_36 (by decide) ?_
        exact x_iret X hP hS hM dX9_of_44
    · replace hM := (if_pos c4).symm.trans hM
      refine lv_iconst (v := (-1)) hx hb dX9_of_16 (by decide) ?_
      exact x_iret X hP hS hM dX9_of_17

def mX9_sisterOf (S : xS) (h0 : Nat) (p1 : Int32) (p2 : Int32) : Option (Int32 × xS) := (mX9_isSister S h0 p1).bind fun q1 => if (q1.1 = 0 : Prop) then (some ((-1), q1.2)) else ((mX9_isIn q1.2 p2 0 2).bind fun q3 => if (q3.1 = 0 : Prop) then (some ((-1), q3.2)) else (if (2 ≤ p2 : Prop) then ((mX9_seatOf q3.2 h0 p1).bind fun q6 => if (q6.1 = 2 : Prop) then (some (0, q6.2)) else ((dO Ym (gR q6.2 h0 0) 10).bind fun d8 => (aI Ym q6.2 d8 (10 + (3 * q6.1))).bind fun x9 => (dO Ym (gR q6.2 h0 0) 10).bind fun d10 => (aI Ym q6.2 d10 1).bind fun x11 => (dO Ym (gR q6.2 h0 0) 10).bind fun d12 => (aI Ym q6.2 d12 ((10 + (3 * q6.1)) + 1)).bind fun x13 => (mX9_eatsOf q6.2 h0 p1 q6.1 x9 x11 x13).bind fun q14 => some (q14.1, q14.2))) else ((dO Ym (gR q3.2 h0 0) 10).bind fun d15 => (aI Ym q3.2 d15 ((16 + (2 * p1)) + p2)).bind fun x16 => some (x16, q3.2))))
set_option maxHeartbeats 4000000 in
set_option maxRecDepth 100000 in
theorem kX9_sisterOf (l : Launch) (G : xG) (S : xS) (h0 : Nat) (p1 : Int32) (p2 : Int32) (r : Int32) (S' : xS) (hk0 : xk Ym h0 = 9) (hM : mX9_sisterOf S h0 p1 p2 = some (r, S')) : xM l yX9_sisterOf cX9_sisterOf 4 (some .int) 5 124 G Ym [.ref (xad G h0), .int p1, .int p2] S (xQi G Ym r S') := by
  refine x_start (own := RX9) (by decide +kernel) rfl (Nat.le_of_ble_eq_true rfl) ?_
  intro p e s m below meth c ls X hl hP hS
  obtain ⟨hx, hb, hml, hown, hts, hr, hlk, hK, hE, hJ⟩ := id X
  have hl : lv_has ls 4 [(0, .ref (xad G h0)), (1, .int p1), (2, .int p2)] := hl
  unfold mX9_sisterOf at hM
  refine lv_aload_n hx hb dX9_sisterOf_0 rfl (lv_at hl 0 rfl) ?_
  refine lv_iload_n hx hb dX9_sisterOf_1 rfl (lv_at hl 1 rfl) ?_
  obtain ⟨q1, eq1, hM⟩ := xb hM
  refine x_goi (x_runV (rest := []) X (kX9_isSister l G S h0 p1 q1.1 q1.2 hk0 eq1) qw309 okX9_isSister ⟨Nat.le_of_ble_eq_true rfl, Nat.le_of_ble_eq_true rfl⟩ hk0 (by decide) rfl hP hS rfl hl.1 rfl (Nat.le_of_ble_eq_true rfl) dX9_sisterOf_2) hS (fun H locs hP hS => ?_)
  refine lv_if_eq (tgt := 17) hx hb dX9_sisterOf_5 (by decide) (fun c2 => ?_) (fun c2 => ?_)
  · replace hM := (if_pos c2).symm.trans hM
    refine lv_iconst (v := (-1)) hx hb dX9_sisterOf_17 (by decide) ?_
    exact x_iret X hP hS hM dX9_sisterOf_18
  · replace hM := (if_neg c2).symm.trans hM
    refine lv_iload_n hx hb dX9_sisterOf_8 rfl (lv_at hl 2 rfl) ?_
    refine lv_iconst (v := 0) hx hb dX9_sisterOf_9 (by decide) ?_
    refine lv_iconst (v := 2) hx hb dX9_sisterOf_10 (by decide) ?_
    obtain ⟨q3, eq3, hM⟩ := xb hM
    refine x_goi (x_runS (rest := []) X (kX9_isIn l G q1.2 p2 0 2 q3.1 q3.2  eq3) qw228 okX9_isIn ⟨Nat.le_of_ble_eq_true rfl, Nat.le_of_ble_eq_true rfl⟩ hP hS rfl hl.1 rfl (Nat.le_of_ble_eq_true rfl) dX9_sisterOf_11) hS (fun H locs hP hS => ?_)
    refine lv_if_ne (tgt := 19) hx hb dX9_sisterOf_14 (by decide) (fun c4 => ?_) (fun c4 => ?_)
    · replace hM := (if_neg c4).symm.trans hM
      refine lv_iload_n hx hb dX9_sisterOf_19 rfl (lv_at hl 2 rfl) ?_
      refine lv_iconst (v := 2) hx hb dX9_sisterOf_20 (by decide) ?_
      refine lv_icmp_ge (tgt := 38) hx hb dX9_sisterOf_21 (by decide) (fun c5 => ?_) (fun c5 => ?_)
      · replace hM := (if_pos c5).symm.trans hM
        refine lv_aload_n hx hb dX9_sisterOf_38 rfl (lv_at hl 0 rfl) ?_
        refine lv_iload_n hx hb dX9_sisterOf_39 rfl (lv_at hl 1 rfl) ?_
        obtain ⟨q6, eq6, hM⟩ := xb hM
        refine x_goi (x_runV (rest := []) X (kX9_seatOf l G q3.2 h0 p1 q6.1 q6.2 hk0 eq6) qw298 okX9_seatOf ⟨Nat.le_of_ble_eq_true rfl, Nat.le_of_ble_eq_true rfl⟩ hk0 (by decide) rfl hP hS rfl hl.1 rfl (Nat.le_of_ble_eq_true rfl) dX9_sisterOf_40) hS (fun H locs hP hS => ?_)
        refine lv_istore_n (lv' := [(3, .int q6.1), (0, .ref (xad G h0)), (1, .int p1), (2, .int p2)]) hx hb dX9_sisterOf_43 rfl hl (by decide) rfl (fun ls hl => ?_)
        refine lv_iload_n hx hb dX9_sisterOf_44 rfl (lv_at hl 0 rfl) ?_
        refine lv_iconst (v := 2) hx hb dX9_sisterOf_45 (by decide) ?_
        refine lv_icmp_ne (tgt := 53) hx hb dX9_sisterOf_46 (by decide) (fun c7 => ?_) (fun c7 => ?_)
        · replace hM := (if_neg c7).symm.trans hM
          refine lv_aload_n hx hb dX9_sisterOf_53 rfl (lv_at hl 1 rfl) ?_
          refine lv_iload_n hx hb dX9_sisterOf_54 rfl (lv_at hl 2 rfl) ?_
          refine lv_iload_n hx hb dX9_sisterOf_55 rfl (lv_at hl 0 rfl) ?_
          refine lv_aload_n hx hb dX9_sisterOf_56 rfl (lv_at hl 1 rfl) ?_
          obtain ⟨d8, ed8, hM⟩ := xb hM
          refine fdX9_0 X hP hk0 qw227 dX9_sisterOf_57 ed8 ?_
          refine lv_bipush (v := 10) hx hb dX9_sisterOf_60 (by decide) ?_
          refine lv_iconst (v := 3) hx hb dX9_sisterOf_62 (by decide) ?_
          refine lv_iload_n hx hb dX9_sisterOf_63 rfl (lv_at hl 0 rfl) ?_
          refine lv_imul hx hb dX9_sisterOf_64 ?_
          refine lv_iadd hx hb dX9_sisterOf_65 ?_
          obtain ⟨x9, ex9, hM⟩ := xb hM
          refine x_iald X hP (dO_k ed8) ex9 dX9_sisterOf_66 ?_
          refine lv_aload_n hx hb dX9_sisterOf_67 rfl (lv_at hl 1 rfl) ?_
          obtain ⟨d10, ed10, hM⟩ := xb hM
          refine fdX9_0 X hP hk0 qw227 dX9_sisterOf_68 ed10 ?_
          refine lv_iconst (v := 1) hx hb dX9_sisterOf_71 (by decide) ?_
          obtain ⟨x11, ex11, hM⟩ := xb hM
          refine x_iald X hP (dO_k ed10) ex11 dX9_sisterOf_72 ?_
          refine lv_aload_n hx hb dX9_sisterOf_73 rfl (lv_at hl 1 rfl) ?_
          obtain ⟨d12, ed12, hM⟩ := xb hM
          refine fdX9_0 X hP hk0 qw227 dX9_sisterOf_74 ed12 ?_
          refine lv_bipush (v := 10) hx hb dX9_sisterOf_77 (by decide) ?_
          refine lv_iconst (v := 3) hx hb dX9_sisterOf_79 (by decide) ?_
          refine lv_iload_n hx hb dX9_sisterOf_80 rfl (lv_at hl 0 rfl) ?_
          refine lv_imul hx hb dX9_sisterOf_81 ?_
          refine lv_iadd hx hb dX9_sisterOf_82 ?_
          refine lv_iconst (v := 1) hx hb dX9_sisterOf_83 (by decide) ?_
          refine lv_iadd hx hb dX9_sisterOf_84 ?_
          obtain ⟨x13, ex13, hM⟩ := xb hM
          refine x_iald X hP (dO_k ed12) ex13 dX9_sisterOf_85 ?_
          obtain ⟨q14, eq14, hM⟩ := xb hM
          refine x_goi (x_runV (rest := []) X (kX9_eatsOf l G q6.2 h0 p1 q6.1 x9 x11 x13 q14.1 q14.2 hk0 eq14) qw306 okX9_eatsOf ⟨Nat.le_of_ble_eq_true rfl, Nat.le_of_ble_eq_true rfl⟩ hk0 (by decide) rfl hP hS rfl hl.1 rfl (Nat.le_of_ble_eq_true rfl) dX9_sisterOf_86) hS (fun H locs hP hS => ?_)
          exact x_iret X hP hS hM dX9_sisterOf_89
        · replace hM := (if_pos c7).symm.trans hM
          refine lv_iconst (v := 0) hx hb dX9_sisterOf_49 (by decide) ?_
          refine lv_goto (tgt := 89) hx hb dX9_sisterOf_50 (by decide) ?_
          exact x_iret X hP hS hM dX9_sisterOf_89
      · replace hM := (if_neg c5).symm.trans hM
        refine lv_aload_n hx hb dX9_sisterOf_24 rfl (lv_at hl 0 rfl) ?_
        obtain ⟨d15, ed15, hM⟩ := xb hM
        refine fdX9_0 X hP hk0 qw227 dX9_sisterOf_25 ed15 ?_
        refine lv_bipush (v := 16) hx hb dX9_sisterOf_28 (by decide) ?_
        refine lv_iconst (v := 2) hx hb dX9_sisterOf_30 (by decide) ?_
        refine lv_iload_n hx hb dX9_sisterOf_31 rfl (lv_at hl 1 rfl) ?_
        refine lv_imul hx hb dX9_sisterOf_32 ?_
        refine lv_iadd hx hb dX9_sisterOf_33 ?_
        refine lv_iload_n hx hb dX9_sisterOf_34 rfl (lv_at hl 2 rfl) ?_
        refine lv_iadd hx hb dX9_sisterOf_35 ?_
        obtain ⟨x16, ex16, hM⟩ := xb hM
        refine x_iald X hP (dO_k ed15) ex16 dX9_sisterOf_36 ?_
        exact x_iret X hP hS hM dX9_sisterOf_37
    · replace hM := (if_pos c4).symm.trans hM
      refine lv_iconst (v := (-1)) hx hb dX9_sisterOf_17 (by decide) ?_
      exact x_iret X hP hS hM dX9_sisterOf_18

def jX9_comes_58 (k24 : xS → Nat → Int32 → Int32 → Int32 → Option (Int32 × xS)) (S : xS) (h0 : Nat) (v2 : Int32) (v3 : Int32) (v4 : Int32) : Option (Int32 × xS) := if ((gI S h0 26) < v2 : Prop) then (k24 S h0 v2 v3 (v4 + 1)) else (some (v4, S))
set_option maxHeartbeats 4000000 in
set_option maxRecDepth 100000 in
theorem wX9_comes_58 {p : Program} {l : Launch} {e : Env} {s : State} {m : MethodId} {args : Array Value} {below : List Frame} {meth : Method} {c : Code} {G : xG} {r : Int32} {S' : xS} (X : xX p s m args meth c cX9_comes 5 (some .int) RX9 G Ym) (k24 : xS → Nat → Int32 → Int32 → Int32 → Option (Int32 × xS)) (hh24 : ∀ (S : xS) (h0 : Nat) (v2 : Int32) (v3 : Int32) (v4 : Int32) (H : Heap) (locs : List Loc) (ls : Array Slot), k24 S h0 v2 v3 v4 = some (r, S') → xk Ym h0 = 9 → xP G Ym S H → va_S (xA G Ym) s.heap H locs → lv_has ls 5 [(0, .ref (xad G h0)), (2, .int v2), (3, .int v3), (4, .int v4)] → W p l e (xr 7 170) s m args below meth c H locs 0 0 (MQ below (xQi G Ym r S') args s 0 0 (xA G Ym)) (F0 m 24 ls [])) : ∀ (S : xS) (h0 : Nat) (v2 : Int32) (v3 : Int32) (v4 : Int32) (H : Heap) (locs : List Loc) (ls : Array Slot), jX9_comes_58 k24 S h0 v2 v3 v4 = some (r, S') → xk Ym h0 = 9 → xP G Ym S H → va_S (xA G Ym) s.heap H locs → lv_has ls 5 [(0, .ref (xad G h0)), (2, .int v2), (3, .int v3), (4, .int v4)] → W p l e (xr 7 170) s m args below meth c H locs 0 0 (MQ below (xQi G Ym r S') args s 0 0 (xA G Ym)) (F0 m 58 ls []) := by
  obtain ⟨hx, hb, hml, hown, hts, hr, hlk, hK, hE, hJ⟩ := id X
  intro S h0 v2 v3 v4 H locs ls hM hk0 hP hS hl
  unfold jX9_comes_58 at hM
  refine lv_aload_n hx hb dX9_comes_58 rfl (lv_at hl 0 rfl) ?_
  refine fgX9_26 X hP hk0 qw300 dX9_comes_59 ?_
  refine lv_iload_n hx hb dX9_comes_62 rfl (lv_at hl 1 rfl) ?_
  refine lv_icmp_lt (tgt := 69) hx hb dX9_comes_63 (by decide) (fun c1 => ?_) (fun c1 => ?_)
  · replace hM := (if_pos c1).symm.trans hM
    refine lv_iinc (v := v4 + 1) (lv' := [(4, .int (v4 + 1)), (0, .ref (xad G h0)), (2, .int v2), (3, .int v3)]) hx hb dX9_comes_69 hl (k := 3) rfl (by first | rfl | exact congrArg (fun z => v4 + z) (by decide)) (by decide) rfl (fun ls hl => ?_)
    refine lv_goto (tgt := 24) hx hb dX9_comes_72 (by decide) ?_
    exact hh24 S h0 v2 v3 (v4 + 1) _ _ _ hM hk0 hP hS (lv_sub hl [1, 2, 3, 0] rfl)
  · replace hM := (if_neg c1).symm.trans hM
    refine lv_iload hx hb dX9_comes_66 (lv_at hl 3 rfl) ?_
    exact x_iret X hP hS hM dX9_comes_68
def jX9_comes_55 (k24 : xS → Nat → Int32 → Int32 → Int32 → Option (Int32 × xS)) (S : xS) (h0 : Nat) (v2 : Int32) (v3 : Int32) (v4 : Int32) (t0 : Int32) (t1 : Int32) (t2 : Nat) : Option (Int32 × xS) := (mX9_goOn S t2 t1 t0).bind fun S1 => jX9_comes_58 k24 S1 h0 v2 v3 v4
set_option maxHeartbeats 4000000 in
set_option maxRecDepth 100000 in
theorem wX9_comes_55 {p : Program} {l : Launch} {e : Env} {s : State} {m : MethodId} {args : Array Value} {below : List Frame} {meth : Method} {c : Code} {G : xG} {r : Int32} {S' : xS} (X : xX p s m args meth c cX9_comes 5 (some .int) RX9 G Ym) (k24 : xS → Nat → Int32 → Int32 → Int32 → Option (Int32 × xS)) (hh24 : ∀ (S : xS) (h0 : Nat) (v2 : Int32) (v3 : Int32) (v4 : Int32) (H : Heap) (locs : List Loc) (ls : Array Slot), k24 S h0 v2 v3 v4 = some (r, S') → xk Ym h0 = 9 → xP G Ym S H → va_S (xA G Ym) s.heap H locs → lv_has ls 5 [(0, .ref (xad G h0)), (2, .int v2), (3, .int v3), (4, .int v4)] → W p l e (xr 7 170) s m args below meth c H locs 0 0 (MQ below (xQi G Ym r S') args s 0 0 (xA G Ym)) (F0 m 24 ls [])) : ∀ (S : xS) (h0 : Nat) (v2 : Int32) (v3 : Int32) (v4 : Int32) (t0 : Int32) (t1 : Int32) (t2 : Nat) (H : Heap) (locs : List Loc) (ls : Array Slot), jX9_comes_55 k24 S h0 v2 v3 v4 t0 t1 t2 = some (r, S') → xk Ym h0 = 9 → xk Ym t2 = 9 → xP G Ym S H → va_S (xA G Ym) s.heap H locs → lv_has ls 5 [(0, .ref (xad G h0)), (2, .int v2), (3, .int v3), (4, .int v4)] → W p l e (xr 7 170) s m args below meth c H locs 0 0 (MQ below (xQi G Ym r S') args s 0 0 (xA G Ym)) (F0 m 55 ls [.int t0, .int t1, .ref (xad G t2)]) := by
  obtain ⟨hx, hb, hml, hown, hts, hr, hlk, hK, hE, hJ⟩ := id X
  intro S h0 v2 v3 v4 t0 t1 t2 H locs ls hM hk0 hkt2 hP hS hl
  unfold jX9_comes_55 at hM
  obtain ⟨S1, eS1, hM⟩ := xb hM
  refine x_gov (x_runV (rest := []) X (kX9_goOn l G S t2 t1 t0 S1 hkt2 eS1) qw319 okX9_goOn ⟨Nat.le_of_ble_eq_true rfl, Nat.le_of_ble_eq_true rfl⟩ hkt2 (by decide) rfl hP hS rfl hl.1 rfl (Nat.le_of_ble_eq_true rfl) dX9_comes_55) hS (fun H locs hP hS => ?_)
  exact wX9_comes_58 X k24 hh24 S1 h0 v2 v3 v4 _ _ _ hM hk0 hP hS (lv_sub hl [0, 1, 2, 3] rfl)
def lX9_comes_24 : Nat → xS → Nat → Int32 → Int32 → Int32 → Option (Int32 × xS)
  | 0, _, _, _, _, _ => none
  | n + 1, S, h0, v2, v3, v4 => if (60 < v4 : Prop) then (some ((-1), S)) else (if (v4 ≤ 0 : Prop) then (jX9_comes_58 (lX9_comes_24  n) S h0 v2 v3 v4) else ((dO Ym (gR S h0 0) 10).bind fun d3 => (aI Ym S d3 1).bind fun x4 => if (v3 = 0 : Prop) then (jX9_comes_55 (lX9_comes_24  n) S h0 v2 v3 v4 1 (x4 + v4) h0) else (jX9_comes_55 (lX9_comes_24  n) S h0 v2 v3 v4 0 (x4 + v4) h0)))
set_option maxHeartbeats 4000000 in
set_option maxRecDepth 100000 in
theorem wX9_comes_24 {p : Program} {l : Launch} {e : Env} {s : State} {m : MethodId} {args : Array Value} {below : List Frame} {meth : Method} {c : Code} {G : xG} {r : Int32} {S' : xS} (X : xX p s m args meth c cX9_comes 5 (some .int) RX9 G Ym) : ∀ (n : Nat), ∀ (S : xS) (h0 : Nat) (v2 : Int32) (v3 : Int32) (v4 : Int32) (H : Heap) (locs : List Loc) (ls : Array Slot), lX9_comes_24  n S h0 v2 v3 v4 = some (r, S') → xk Ym h0 = 9 → xP G Ym S H → va_S (xA G Ym) s.heap H locs → lv_has ls 5 [(0, .ref (xad G h0)), (2, .int v2), (3, .int v3), (4, .int v4)] → W p l e (xr 7 170) s m args below meth c H locs 0 0 (MQ below (xQi G Ym r S') args s 0 0 (xA G Ym)) (F0 m 24 ls []) := by
  obtain ⟨hx, hb, hml, hown, hts, hr, hlk, hK, hE, hJ⟩ := id X
  intro n
  induction n with
  | zero =>
    intro S h0 v2 v3 v4 H locs ls hM
    rw [lX9_comes_24.eq_1] at hM
    cases hM
  | succ n ih =>
    intro S h0 v2 v3 v4 H locs ls hM hk0 hP hS hl
    rw [lX9_comes_24.eq_2] at hM
    refine lv_iload hx hb dX9_comes_24 (lv_at hl 3 rfl) ?_
    refine lv_bipush (v := 60) hx hb dX9_comes_26 (by decide) ?_
    refine lv_icmp_gt (tgt := 75) hx hb dX9_comes_28 (by decide) (fun c1 => ?_) (fun c1 => ?_)
    · replace hM := (if_pos c1).symm.trans hM
      refine lv_iconst (v := (-1)) hx hb dX9_comes_75 (by decide) ?_
      exact x_iret X hP hS hM dX9_comes_76
    · replace hM := (if_neg c1).symm.trans hM
      refine lv_iload hx hb dX9_comes_31 (lv_at hl 3 rfl) ?_
      refine lv_if_le (tgt := 58) hx hb dX9_comes_33 (by decide) (fun c2 => ?_) (fun c2 => ?_)
      · replace hM := (if_pos c2).symm.trans hM
        exact wX9_comes_58 X (lX9_comes_24  n) ih S h0 v2 v3 v4 _ _ _ hM hk0 hP hS (lv_sub hl [0, 1, 2, 3] rfl)
      · replace hM := (if_neg c2).symm.trans hM
        refine lv_aload_n hx hb dX9_comes_36 rfl (lv_at hl 0 rfl) ?_
        refine lv_aload_n hx hb dX9_comes_37 rfl (lv_at hl 0 rfl) ?_
        obtain ⟨d3, ed3, hM⟩ := xb hM
        refine fdX9_0 X hP hk0 qw227 dX9_comes_38 ed3 ?_
        refine lv_iconst (v := 1) hx hb dX9_comes_41 (by decide) ?_
        obtain ⟨x4, ex4, hM⟩ := xb hM
        refine x_iald X hP (dO_k ed3) ex4 dX9_comes_42 ?_
        refine lv_iload hx hb dX9_comes_43 (lv_at hl 3 rfl) ?_
        refine lv_iadd hx hb dX9_comes_45 ?_
        refine lv_iload_n hx hb dX9_comes_46 rfl (lv_at hl 2 rfl) ?_
        refine lv_if_ne (tgt := 54) hx hb dX9_comes_47 (by decide) (fun c5 => ?_) (fun c5 => ?_)
        · replace hM := (if_neg c5).symm.trans hM
          refine lv_iconst (v := 0) hx hb dX9_comes_54 (by decide) ?_
          exact wX9_comes_55 X (lX9_comes_24  n) ih S h0 v2 v3 v4 0 (x4 + v4) h0 _ _ _ hM hk0 hk0 hP hS (lv_sub hl [0, 1, 2, 3] rfl)
        · replace hM := (if_pos c5).symm.trans hM
          refine lv_iconst (v := 1) hx hb dX9_comes_50 (by decide) ?_
          refine lv_goto (tgt := 55) hx hb dX9_comes_51 (by decide) ?_
          exact wX9_comes_55 X (lX9_comes_24  n) ih S h0 v2 v3 v4 1 (x4 + v4) h0 _ _ _ hM hk0 hk0 hP hS (lv_sub hl [0, 1, 2, 3] rfl)
def mX9_comes (S : xS) (h0 : Nat) (p1 : Int32) (p2 : Int32) (p3 : Int32) : Option (Int32 × xS) := (mX9_isTable S p1).bind fun q1 => if (q1.1 = 0 : Prop) then (some ((-1), q1.2)) else ((mX9_isDay q1.2 p2).bind fun q3 => if (q3.1 = 0 : Prop) then (some ((-1), q3.2)) else ((mX9_setTable q3.2 h0 p1).bind fun S5 => lX9_comes_24  5000 S5 h0 p2 p3 0))
set_option maxHeartbeats 4000000 in
set_option maxRecDepth 100000 in
theorem kX9_comes (l : Launch) (G : xG) (S : xS) (h0 : Nat) (p1 : Int32) (p2 : Int32) (p3 : Int32) (r : Int32) (S' : xS) (hk0 : xk Ym h0 = 9) (hM : mX9_comes S h0 p1 p2 p3 = some (r, S')) : xM l yX9_comes cX9_comes 5 (some .int) 7 170 G Ym [.ref (xad G h0), .int p1, .int p2, .int p3] S (xQi G Ym r S') := by
  refine x_start (own := RX9) (by decide +kernel) rfl (Nat.le_of_ble_eq_true rfl) ?_
  intro p e s m below meth c ls X hl hP hS
  obtain ⟨hx, hb, hml, hown, hts, hr, hlk, hK, hE, hJ⟩ := id X
  have hl : lv_has ls 5 [(0, .ref (xad G h0)), (1, .int p1), (2, .int p2), (3, .int p3)] := hl
  unfold mX9_comes at hM
  refine lv_iload_n hx hb dX9_comes_0 rfl (lv_at hl 1 rfl) ?_
  obtain ⟨q1, eq1, hM⟩ := xb hM
  refine x_goi (x_runS (rest := []) X (kX9_isTable l G S p1 q1.1 q1.2  eq1) qw295 okX9_isTable ⟨Nat.le_of_ble_eq_true rfl, Nat.le_of_ble_eq_true rfl⟩ hP hS rfl hl.1 rfl (Nat.le_of_ble_eq_true rfl) dX9_comes_1) hS (fun H locs hP hS => ?_)
  refine lv_if_eq (tgt := 14) hx hb dX9_comes_4 (by decide) (fun c2 => ?_) (fun c2 => ?_)
  · replace hM := (if_pos c2).symm.trans hM
    refine lv_iconst (v := (-1)) hx hb dX9_comes_14 (by decide) ?_
    exact x_iret X hP hS hM dX9_comes_15
  · replace hM := (if_neg c2).symm.trans hM
    refine lv_iload_n hx hb dX9_comes_7 rfl (lv_at hl 2 rfl) ?_
    obtain ⟨q3, eq3, hM⟩ := xb hM
    refine x_goi (x_runS (rest := []) X (kX9_isDay l G q1.2 p2 q3.1 q3.2  eq3) qw296 okX9_isDay ⟨Nat.le_of_ble_eq_true rfl, Nat.le_of_ble_eq_true rfl⟩ hP hS rfl hl.1 rfl (Nat.le_of_ble_eq_true rfl) dX9_comes_8) hS (fun H locs hP hS => ?_)
    refine lv_if_ne (tgt := 16) hx hb dX9_comes_11 (by decide) (fun c4 => ?_) (fun c4 => ?_)
    · replace hM := (if_neg c4).symm.trans hM
      refine lv_aload_n hx hb dX9_comes_16 rfl (lv_at hl 0 rfl) ?_
      refine lv_iload_n hx hb dX9_comes_17 rfl (lv_at hl 1 rfl) ?_
      obtain ⟨S5, eS5, hM⟩ := xb hM
      refine x_gov (x_runV (rest := []) X (kX9_setTable l G q3.2 h0 p1 S5 hk0 eS5) qw312 okX9_setTable ⟨Nat.le_of_ble_eq_true rfl, Nat.le_of_ble_eq_true rfl⟩ hk0 (by decide) rfl hP hS rfl hl.1 rfl (Nat.le_of_ble_eq_true rfl) dX9_comes_18) hS (fun H locs hP hS => ?_)
      refine lv_iconst (v := 0) hx hb dX9_comes_21 (by decide) ?_
      refine lv_istore (lv' := [(4, .int 0), (0, .ref (xad G h0)), (1, .int p1), (2, .int p2), (3, .int p3)]) hx hb dX9_comes_22 hl (by decide) rfl (fun ls hl => ?_)
      exact wX9_comes_24 X  5000 S5 h0 p2 p3 0 _ _ _ hM hk0 hP hS (lv_sub hl [1, 3, 4, 0] rfl)
    · replace hM := (if_pos c4).symm.trans hM
      refine lv_iconst (v := (-1)) hx hb dX9_comes_14 (by decide) ?_
      exact x_iret X hP hS hM dX9_comes_15

def lX9_common_6 : Nat → xS → Int64 → Int64 → Option (Int64 × xS)
  | 0, _, _, _ => none
  | n + 1, S, w4, w6 => if ((lg_cmp w6 0) = 0 : Prop) then (some (w4, S)) else ((if w6 = 0 then none else lX9_common_6 n S w6 (w4 - w4 / w6 * w6)))
set_option maxHeartbeats 4000000 in
set_option maxRecDepth 100000 in
theorem wX9_common_6 {p : Program} {l : Launch} {e : Env} {s : State} {m : MethodId} {args : Array Value} {below : List Frame} {meth : Method} {c : Code} {G : xG} {r : Int64} {S' : xS} (X : xX p s m args meth c cX9_common 10 (some .long) RX9 G Ym) : ∀ (n : Nat), ∀ (S : xS) (w4 : Int64) (w6 : Int64) (H : Heap) (locs : List Loc) (ls : Array Slot), lX9_common_6  n S w4 w6 = some (r, S') → xP G Ym S H → va_S (xA G Ym) s.heap H locs → lv_has ls 10 [(4, .long w4), (6, .long w6)] → W p l e (xr 0 0) s m args below meth c H locs 0 0 (MQ below (xQl G Ym r S') args s 0 0 (xA G Ym)) (F0 m 6 ls []) := by
  obtain ⟨hx, hb, hml, hown, hts, hr, hlk, hK, hE, hJ⟩ := id X
  intro n
  induction n with
  | zero =>
    intro S w4 w6 H locs ls hM
    rw [lX9_common_6.eq_1] at hM
    cases hM
  | succ n ih =>
    intro S w4 w6 H locs ls hM  hP hS hl
    rw [lX9_common_6.eq_2] at hM
    refine lv_lload hx hb dX9_common_6 (lv_at hl 1 rfl) ?_
    refine lv_lconst (v := 0) hx hb dX9_common_8 (by decide) ?_
    refine W.lcmp hx hb dX9_common_9 ?_
    refine lv_if_eq (tgt := 31) hx hb dX9_common_10 (by decide) (fun c1 => ?_) (fun c1 => ?_)
    · replace hM := (if_pos c1).symm.trans hM
      refine lv_lload hx hb dX9_common_31 (lv_at hl 0 rfl) ?_
      exact x_lret X hP hS hM dX9_common_33
    · replace hM := (if_neg c1).symm.trans hM
      refine lv_lload hx hb dX9_common_13 (lv_at hl 0 rfl) ?_
      refine lv_lload hx hb dX9_common_15 (lv_at hl 1 rfl) ?_
      by_cases ec2 : w6 = 0
      · replace hM := (if_pos ec2).symm.trans hM; cases hM
      replace hM := (if_neg ec2).symm.trans hM
      refine lv_lrem hx hb dX9_common_17 ec2 ?_
      refine lv_lstore (lv' := [(8, .long (w4 - w4 / w6 * w6)), (4, .long w4), (6, .long w6)]) hx hb dX9_common_18 hl (by decide) rfl (fun ls hl => ?_)
      refine lv_lload hx hb dX9_common_20 (lv_at hl 2 rfl) ?_
      refine lv_lstore (lv' := [(4, .long w6), (8, .long (w4 - w4 / w6 * w6)), (6, .long w6)]) hx hb dX9_common_22 hl (by decide) rfl (fun ls hl => ?_)
      refine lv_lload hx hb dX9_common_24 (lv_at hl 1 rfl) ?_
      refine lv_lstore (lv' := [(6, .long (w4 - w4 / w6 * w6)), (4, .long w6), (8, .long (w4 - w4 / w6 * w6))]) hx hb dX9_common_26 hl (by decide) rfl (fun ls hl => ?_)
      refine lv_goto (tgt := 6) hx hb dX9_common_28 (by decide) ?_
      exact ih S w6 (w4 - w4 / w6 * w6) _ _ _ hM  hP hS (lv_sub hl [1, 0] rfl)
def mX9_common (S : xS) (p0 : Int64) (p2 : Int64) : Option (Int64 × xS) := lX9_common_6  5000 S p0 p2
set_option maxHeartbeats 4000000 in
set_option maxRecDepth 100000 in
theorem kX9_common (l : Launch) (G : xG) (S : xS) (p0 : Int64) (p2 : Int64) (r : Int64) (S' : xS) (hM : mX9_common S p0 p2 = some (r, S')) : xM l yX9_common cX9_common 10 (some .long) 0 0 G Ym [.long p0, .long p2] S (xQl G Ym r S') := by
  refine x_start (own := RX9) (by decide +kernel) rfl (Nat.le_of_ble_eq_true rfl) ?_
  intro p e s m below meth c ls X hl hP hS
  obtain ⟨hx, hb, hml, hown, hts, hr, hlk, hK, hE, hJ⟩ := id X
  have hl : lv_has ls 10 [(0, .long p0), (2, .long p2)] := hl
  unfold mX9_common at hM
  refine lv_lload_n hx hb dX9_common_0 rfl (lv_at hl 0 rfl) ?_
  refine lv_lstore (lv' := [(4, .long p0), (0, .long p0), (2, .long p2)]) hx hb dX9_common_1 hl (by decide) rfl (fun ls hl => ?_)
  refine lv_lload_n hx hb dX9_common_3 rfl (lv_at hl 2 rfl) ?_
  refine lv_lstore (lv' := [(6, .long p2), (4, .long p0), (0, .long p0), (2, .long p2)]) hx hb dX9_common_4 hl (by decide) rfl (fun ls hl => ?_)
  exact wX9_common_6 X  5000 S p0 p2 _ _ _ hM  hP hS (lv_sub hl [1, 0] rfl)

def lX9_spread_158 : Nat → xS → Nat → Int32 → Option xS
  | 0, _, _, _ => none
  | n + 1, S, h0, v3 => if (976 ≤ v3 : Prop) then (some S) else ((dO Ym (gR S h0 30) 11).bind fun d2 => (dO Ym (gR S h0 31) 11).bind fun d3 => (aJ Ym S d3 v3).bind fun x4 => (sJ Ym S d2 v3 x4).bind fun S5 => lX9_spread_158 n S5 h0 (v3 + 1))
set_option maxHeartbeats 4000000 in
set_option maxRecDepth 100000 in
theorem wX9_spread_158 {p : Program} {l : Launch} {e : Env} {s : State} {m : MethodId} {args : Array Value} {below : List Frame} {meth : Method} {c : Code} {G : xG} {S' : xS} (X : xX p s m args meth c cX9_spread 5 none RX9 G Ym) : ∀ (n : Nat), ∀ (S : xS) (h0 : Nat) (v3 : Int32) (H : Heap) (locs : List Loc) (ls : Array Slot), lX9_spread_158  n S h0 v3 = some S' → xk Ym h0 = 9 → xP G Ym S H → va_S (xA G Ym) s.heap H locs → lv_has ls 5 [(0, .ref (xad G h0)), (3, .int v3)] → W p l e (xr 7 170) s m args below meth c H locs 0 0 (MQ below (xQv G Ym S') args s 0 0 (xA G Ym)) (F0 m 158 ls []) := by
  obtain ⟨hx, hb, hml, hown, hts, hr, hlk, hK, hE, hJ⟩ := id X
  intro n
  induction n with
  | zero =>
    intro S h0 v3 H locs ls hM
    rw [lX9_spread_158.eq_1] at hM
    cases hM
  | succ n ih =>
    intro S h0 v3 H locs ls hM hk0 hP hS hl
    rw [lX9_spread_158.eq_2] at hM
    refine lv_iload_n hx hb dX9_spread_158 rfl (lv_at hl 1 rfl) ?_
    refine lv_sipush (v := 976) hx hb dX9_spread_159 (by decide) ?_
    refine lv_icmp_ge (tgt := 183) hx hb dX9_spread_162 (by decide) (fun c1 => ?_) (fun c1 => ?_)
    · replace hM := (if_pos c1).symm.trans hM
      exact x_vret X hP hS hM dX9_spread_183
    · replace hM := (if_neg c1).symm.trans hM
      refine lv_aload_n hx hb dX9_spread_165 rfl (lv_at hl 0 rfl) ?_
      obtain ⟨d2, ed2, hM⟩ := xb hM
      refine fdX9_30 X hP hk0 qw321 dX9_spread_166 ed2 ?_
      refine lv_iload_n hx hb dX9_spread_169 rfl (lv_at hl 1 rfl) ?_
      refine lv_aload_n hx hb dX9_spread_170 rfl (lv_at hl 0 rfl) ?_
      obtain ⟨d3, ed3, hM⟩ := xb hM
      refine fdX9_31 X hP hk0 qw320 dX9_spread_171 ed3 ?_
      refine lv_iload_n hx hb dX9_spread_174 rfl (lv_at hl 1 rfl) ?_
      obtain ⟨x4, ex4, hM⟩ := xb hM
      refine x_lald X hP (dO_k ed3) ex4 dX9_spread_175 ?_
      obtain ⟨S5, eS5, hM⟩ := xb hM
      refine x_last X hP hS (dO_k ed2) eS5 dX9_spread_176 (fun H locs hP hS => ?_)
      refine lv_iinc (v := v3 + 1) (lv' := [(3, .int (v3 + 1)), (0, .ref (xad G h0))]) hx hb dX9_spread_177 hl (k := 1) rfl (by first | rfl | exact congrArg (fun z => v3 + z) (by decide)) (by decide) rfl (fun ls hl => ?_)
      refine lv_goto (tgt := 158) hx hb dX9_spread_180 (by decide) ?_
      exact ih S5 h0 (v3 + 1) _ _ _ hM hk0 hP hS (lv_sub hl [1, 0] rfl)
def jX9_spread_105 (k24 : xS → Nat → Int32 → Int32 → Int32 → Option xS) (S : xS) (h0 : Nat) (v1 : Int32) (v2 : Int32) (v3 : Int32) (v4 : Int32) (t0 : Int32) (t1 : Nat) : Option xS := (aJ Ym S t1 t0).bind fun x1 => (dO Ym (gR S h0 30) 11).bind fun d2 => (aJ Ym S d2 v3).bind fun x3 => (dO Ym (gR S h0 0) 10).bind fun d4 => (aI Ym S d4 2).bind fun x5 => (sJ Ym S t1 t0 (x1 + (x3 * ((x5 : Int32).toInt64)))).bind fun S6 => (dO Ym (gR S6 h0 31) 11).bind fun d7 => (aJ Ym S6 d7 v4).bind fun x8 => (dO Ym (gR S6 h0 30) 11).bind fun d9 => (aJ Ym S6 d9 v3).bind fun x10 => (dO Ym (gR S6 h0 0) 10).bind fun d11 => (aI Ym S6 d11 2).bind fun x12 => (sJ Ym S6 d7 v4 (x8 + (x10 * ((10 - x12 : Int32).toInt64)))).bind fun S13 => k24 S13 h0 v1 v2 (v3 + 1)
set_option maxHeartbeats 4000000 in
set_option maxRecDepth 100000 in
theorem wX9_spread_105 {p : Program} {l : Launch} {e : Env} {s : State} {m : MethodId} {args : Array Value} {below : List Frame} {meth : Method} {c : Code} {G : xG} {S' : xS} (X : xX p s m args meth c cX9_spread 5 none RX9 G Ym) (k24 : xS → Nat → Int32 → Int32 → Int32 → Option xS) (hh24 : ∀ (S : xS) (h0 : Nat) (v1 : Int32) (v2 : Int32) (v3 : Int32) (H : Heap) (locs : List Loc) (ls : Array Slot), k24 S h0 v1 v2 v3 = some S' → xk Ym h0 = 9 → xP G Ym S H → va_S (xA G Ym) s.heap H locs → lv_has ls 5 [(0, .ref (xad G h0)), (1, .int v1), (2, .int v2), (3, .int v3)] → W p l e (xr 7 170) s m args below meth c H locs 0 0 (MQ below (xQv G Ym S') args s 0 0 (xA G Ym)) (F0 m 24 ls [])) : ∀ (S : xS) (h0 : Nat) (v1 : Int32) (v2 : Int32) (v3 : Int32) (v4 : Int32) (t0 : Int32) (t1 : Nat) (H : Heap) (locs : List Loc) (ls : Array Slot), jX9_spread_105 k24 S h0 v1 v2 v3 v4 t0 t1 = some S' → xk Ym h0 = 9 → xk Ym t1 = 11 → xP G Ym S H → va_S (xA G Ym) s.heap H locs → lv_has ls 5 [(0, .ref (xad G h0)), (1, .int v1), (2, .int v2), (3, .int v3), (4, .int v4)] → W p l e (xr 7 170) s m args below meth c H locs 0 0 (MQ below (xQv G Ym S') args s 0 0 (xA G Ym)) (F0 m 105 ls [.int t0, .ref (xad G t1)]) := by
  obtain ⟨hx, hb, hml, hown, hts, hr, hlk, hK, hE, hJ⟩ := id X
  intro S h0 v1 v2 v3 v4 t0 t1 H locs ls hM hk0 hkt1 hP hS hl
  unfold jX9_spread_105 at hM
  refine lv_dup2_11 hx hb dX9_spread_105 rfl rfl ?_
  obtain ⟨x1, ex1, hM⟩ := xb hM
  refine x_lald X hP hkt1 ex1 dX9_spread_106 ?_
  refine lv_aload_n hx hb dX9_spread_107 rfl (lv_at hl 0 rfl) ?_
  obtain ⟨d2, ed2, hM⟩ := xb hM
  refine fdX9_30 X hP hk0 qw321 dX9_spread_108 ed2 ?_
  refine lv_iload_n hx hb dX9_spread_111 rfl (lv_at hl 3 rfl) ?_
  obtain ⟨x3, ex3, hM⟩ := xb hM
  refine x_lald X hP (dO_k ed2) ex3 dX9_spread_112 ?_
  refine lv_aload_n hx hb dX9_spread_113 rfl (lv_at hl 0 rfl) ?_
  obtain ⟨d4, ed4, hM⟩ := xb hM
  refine fdX9_0 X hP hk0 qw227 dX9_spread_114 ed4 ?_
  refine lv_iconst (v := 2) hx hb dX9_spread_117 (by decide) ?_
  obtain ⟨x5, ex5, hM⟩ := xb hM
  refine x_iald X hP (dO_k ed4) ex5 dX9_spread_118 ?_
  refine lv_i2l hx hb dX9_spread_119 rfl ?_
  refine lv_lmul hx hb dX9_spread_120 ?_
  refine lv_ladd hx hb dX9_spread_121 ?_
  obtain ⟨S6, eS6, hM⟩ := xb hM
  refine x_last X hP hS hkt1 eS6 dX9_spread_122 (fun H locs hP hS => ?_)
  refine lv_aload_n hx hb dX9_spread_123 rfl (lv_at hl 0 rfl) ?_
  obtain ⟨d7, ed7, hM⟩ := xb hM
  refine fdX9_31 X hP hk0 qw320 dX9_spread_124 ed7 ?_
  refine lv_iload hx hb dX9_spread_127 (lv_at hl 4 rfl) ?_
  refine lv_dup2_11 hx hb dX9_spread_129 rfl rfl ?_
  obtain ⟨x8, ex8, hM⟩ := xb hM
  refine x_lald X hP (dO_k ed7) ex8 dX9_spread_130 ?_
  refine lv_aload_n hx hb dX9_spread_131 rfl (lv_at hl 0 rfl) ?_
  obtain ⟨d9, ed9, hM⟩ := xb hM
  refine fdX9_30 X hP hk0 qw321 dX9_spread_132 ed9 ?_
  refine lv_iload_n hx hb dX9_spread_135 rfl (lv_at hl 3 rfl) ?_
  obtain ⟨x10, ex10, hM⟩ := xb hM
  refine x_lald X hP (dO_k ed9) ex10 dX9_spread_136 ?_
  refine lv_bipush (v := 10) hx hb dX9_spread_137 (by decide) ?_
  refine lv_aload_n hx hb dX9_spread_139 rfl (lv_at hl 0 rfl) ?_
  obtain ⟨d11, ed11, hM⟩ := xb hM
  refine fdX9_0 X hP hk0 qw227 dX9_spread_140 ed11 ?_
  refine lv_iconst (v := 2) hx hb dX9_spread_143 (by decide) ?_
  obtain ⟨x12, ex12, hM⟩ := xb hM
  refine x_iald X hP (dO_k ed11) ex12 dX9_spread_144 ?_
  refine lv_isub hx hb dX9_spread_145 ?_
  refine lv_i2l hx hb dX9_spread_146 rfl ?_
  refine lv_lmul hx hb dX9_spread_147 ?_
  refine lv_ladd hx hb dX9_spread_148 ?_
  obtain ⟨S13, eS13, hM⟩ := xb hM
  refine x_last X hP hS (dO_k ed7) eS13 dX9_spread_149 (fun H locs hP hS => ?_)
  refine lv_iinc (v := v3 + 1) (lv' := [(3, .int (v3 + 1)), (0, .ref (xad G h0)), (1, .int v1), (2, .int v2), (4, .int v4)]) hx hb dX9_spread_150 hl (k := 3) rfl (by first | rfl | exact congrArg (fun z => v3 + z) (by decide)) (by decide) rfl (fun ls hl => ?_)
  refine lv_goto (tgt := 24) hx hb dX9_spread_153 (by decide) ?_
  exact hh24 S13 h0 v1 v2 (v3 + 1) _ _ _ hM hk0 hP hS (lv_sub hl [1, 2, 3, 0] rfl)
def lX9_spread_24 : Nat → xS → Nat → Int32 → Int32 → Int32 → Option xS
  | 0, _, _, _, _, _ => none
  | n + 1, S, h0, v1, v2, v3 => if (976 ≤ v3 : Prop) then (lX9_spread_158  5000 S h0 0) else ((dO Ym (gR S h0 30) 11).bind fun d2 => (aJ Ym S d2 v3).bind fun x3 => if ((lg_cmp x3 0) = 0 : Prop) then (lX9_spread_24 n S h0 v1 v2 (v3 + 1)) else (xlet (pI S h0 26 (v1 + (v3 / 61))) fun S5 => xlet (pI S5 h0 27 (v3 - v3 / 61 * 61)) fun S6 => (mX9_goOn S6 h0 v2 0).bind fun S7 => xlet ((61 * ((gI S7 h0 26) - v1)) + (gI S7 h0 27) : Int32) fun x8 => (dO Ym (gR S7 h0 31) 11).bind fun d9 => if ((gI S7 h0 27) ≤ 0 : Prop) then (jX9_spread_105 (lX9_spread_24  n) S7 h0 v1 v2 v3 x8 x8 d9) else (jX9_spread_105 (lX9_spread_24  n) S7 h0 v1 v2 v3 x8 (x8 - 1) d9)))
set_option maxHeartbeats 4000000 in
set_option maxRecDepth 100000 in
theorem wX9_spread_24 {p : Program} {l : Launch} {e : Env} {s : State} {m : MethodId} {args : Array Value} {below : List Frame} {meth : Method} {c : Code} {G : xG} {S' : xS} (X : xX p s m args meth c cX9_spread 5 none RX9 G Ym) : ∀ (n : Nat), ∀ (S : xS) (h0 : Nat) (v1 : Int32) (v2 : Int32) (v3 : Int32) (H : Heap) (locs : List Loc) (ls : Array Slot), lX9_spread_24  n S h0 v1 v2 v3 = some S' → xk Ym h0 = 9 → xP G Ym S H → va_S (xA G Ym) s.heap H locs → lv_has ls 5 [(0, .ref (xad G h0)), (1, .int v1), (2, .int v2), (3, .int v3)] → W p l e (xr 7 170) s m args below meth c H locs 0 0 (MQ below (xQv G Ym S') args s 0 0 (xA G Ym)) (F0 m 24 ls []) := by
  obtain ⟨hx, hb, hml, hown, hts, hr, hlk, hK, hE, hJ⟩ := id X
  intro n
  induction n with
  | zero =>
    intro S h0 v1 v2 v3 H locs ls hM
    rw [lX9_spread_24.eq_1] at hM
    cases hM
  | succ n ih =>
    intro S h0 v1 v2 v3 H locs ls hM hk0 hP hS hl
    rw [lX9_spread_24.eq_2] at hM
    refine lv_iload_n hx hb dX9_spread_24 rfl (lv_at hl 3 rfl) ?_
    refine lv_sipush (v := 976) hx hb dX9_spread_25 (by decide) ?_
    refine lv_icmp_ge (tgt := 156) hx hb dX9_spread_28 (by decide) (fun c1 => ?_) (fun c1 => ?_)
    · replace hM := (if_pos c1).symm.trans hM
      refine lv_iconst (v := 0) hx hb dX9_spread_156 (by decide) ?_
      refine lv_istore_n (lv' := [(3, .int 0), (0, .ref (xad G h0)), (1, .int v1), (2, .int v2)]) hx hb dX9_spread_157 rfl hl (by decide) rfl (fun ls hl => ?_)
      exact wX9_spread_158 X  5000 S h0 0 _ _ _ hM hk0 hP hS (lv_sub hl [1, 0] rfl)
    · replace hM := (if_neg c1).symm.trans hM
      refine lv_aload_n hx hb dX9_spread_31 rfl (lv_at hl 0 rfl) ?_
      obtain ⟨d2, ed2, hM⟩ := xb hM
      refine fdX9_30 X hP hk0 qw321 dX9_spread_32 ed2 ?_
      refine lv_iload_n hx hb dX9_spread_35 rfl (lv_at hl 3 rfl) ?_
      obtain ⟨x3, ex3, hM⟩ := xb hM
      refine x_lald X hP (dO_k ed2) ex3 dX9_spread_36 ?_
      refine lv_lconst (v := 0) hx hb dX9_spread_37 (by decide) ?_
      refine W.lcmp hx hb dX9_spread_38 ?_
      refine lv_if_ne (tgt := 45) hx hb dX9_spread_39 (by decide) (fun c4 => ?_) (fun c4 => ?_)
      · replace hM := (if_neg c4).symm.trans hM
        refine lv_aload_n hx hb dX9_spread_45 rfl (lv_at hl 0 rfl) ?_
        refine lv_iload_n hx hb dX9_spread_46 rfl (lv_at hl 1 rfl) ?_
        refine lv_iload_n hx hb dX9_spread_47 rfl (lv_at hl 3 rfl) ?_
        refine lv_bipush (v := 61) hx hb dX9_spread_48 (by decide) ?_
        refine lv_idiv hx hb dX9_spread_50 (by decide) ?_
        refine lv_iadd hx hb dX9_spread_51 ?_
        obtain ⟨S5, eS5, hM⟩ := xlet_ex hM
        refine fpX9_26 X hP hS hk0 qw300 dX9_spread_52 eS5 (fun H locs hP hS => ?_)
        refine lv_aload_n hx hb dX9_spread_55 rfl (lv_at hl 0 rfl) ?_
        refine lv_iload_n hx hb dX9_spread_56 rfl (lv_at hl 3 rfl) ?_
        refine lv_bipush (v := 61) hx hb dX9_spread_57 (by decide) ?_
        refine lv_irem hx hb dX9_spread_59 (by decide) ?_
        obtain ⟨S6, eS6, hM⟩ := xlet_ex hM
        refine fpX9_27 X hP hS hk0 qw301 dX9_spread_60 eS6 (fun H locs hP hS => ?_)
        refine lv_aload_n hx hb dX9_spread_63 rfl (lv_at hl 0 rfl) ?_
        refine lv_iload_n hx hb dX9_spread_64 rfl (lv_at hl 2 rfl) ?_
        refine lv_iconst (v := 0) hx hb dX9_spread_65 (by decide) ?_
        obtain ⟨S7, eS7, hM⟩ := xb hM
        refine x_gov (x_runV (rest := []) X (kX9_goOn l G S6 h0 v2 0 S7 hk0 eS7) qw319 okX9_goOn ⟨Nat.le_of_ble_eq_true rfl, Nat.le_of_ble_eq_true rfl⟩ hk0 (by decide) rfl hP hS rfl hl.1 rfl (Nat.le_of_ble_eq_true rfl) dX9_spread_66) hS (fun H locs hP hS => ?_)
        refine lv_bipush (v := 61) hx hb dX9_spread_69 (by decide) ?_
        refine lv_aload_n hx hb dX9_spread_71 rfl (lv_at hl 0 rfl) ?_
        refine fgX9_26 X hP hk0 qw300 dX9_spread_72 ?_
        refine lv_iload_n hx hb dX9_spread_75 rfl (lv_at hl 1 rfl) ?_
        refine lv_isub hx hb dX9_spread_76 ?_
        refine lv_imul hx hb dX9_spread_77 ?_
        refine lv_aload_n hx hb dX9_spread_78 rfl (lv_at hl 0 rfl) ?_
        refine fgX9_27 X hP hk0 qw301 dX9_spread_79 ?_
        refine lv_iadd hx hb dX9_spread_82 ?_
        obtain ⟨x8, ex8, hM⟩ := xlet_ex hM
        refine x_topi ex8 ?_
        refine lv_istore (lv' := [(4, .int x8), (0, .ref (xad G h0)), (1, .int v1), (2, .int v2), (3, .int v3)]) hx hb dX9_spread_83 hl (by decide) rfl (fun ls hl => ?_)
        refine lv_aload_n hx hb dX9_spread_85 rfl (lv_at hl 1 rfl) ?_
        obtain ⟨d9, ed9, hM⟩ := xb hM
        refine fdX9_31 X hP hk0 qw320 dX9_spread_86 ed9 ?_
        refine lv_aload_n hx hb dX9_spread_89 rfl (lv_at hl 1 rfl) ?_
        refine fgX9_27 X hP hk0 qw301 dX9_spread_90 ?_
        refine lv_if_le (tgt := 103) hx hb dX9_spread_93 (by decide) (fun c10 => ?_) (fun c10 => ?_)
        · replace hM := (if_pos c10).symm.trans hM
          refine lv_iload hx hb dX9_spread_103 (lv_at hl 0 rfl) ?_
          exact wX9_spread_105 X (lX9_spread_24  n) ih S7 h0 v1 v2 v3 x8 x8 d9 _ _ _ hM hk0 (dO_k ed9) hP hS (lv_sub hl [1, 2, 3, 4, 0] rfl)
        · replace hM := (if_neg c10).symm.trans hM
          refine lv_iload hx hb dX9_spread_96 (lv_at hl 0 rfl) ?_
          refine lv_iconst (v := 1) hx hb dX9_spread_98 (by decide) ?_
          refine lv_isub hx hb dX9_spread_99 ?_
          refine lv_goto (tgt := 105) hx hb dX9_spread_100 (by decide) ?_
          exact wX9_spread_105 X (lX9_spread_24  n) ih S7 h0 v1 v2 v3 x8 (x8 - 1) d9 _ _ _ hM hk0 (dO_k ed9) hP hS (lv_sub hl [1, 2, 3, 4, 0] rfl)
      · replace hM := (if_pos c4).symm.trans hM
        refine lv_goto (tgt := 150) hx hb dX9_spread_42 (by decide) ?_
        refine lv_iinc (v := v3 + 1) (lv' := [(3, .int (v3 + 1)), (0, .ref (xad G h0)), (1, .int v1), (2, .int v2)]) hx hb dX9_spread_150 hl (k := 3) rfl (by first | rfl | exact congrArg (fun z => v3 + z) (by decide)) (by decide) rfl (fun ls hl => ?_)
        refine lv_goto (tgt := 24) hx hb dX9_spread_153 (by decide) ?_
        exact ih S h0 v1 v2 (v3 + 1) _ _ _ hM hk0 hP hS (lv_sub hl [1, 2, 3, 0] rfl)
def lX9_spread_2 : Nat → xS → Nat → Int32 → Int32 → Int32 → Option xS
  | 0, _, _, _, _, _ => none
  | n + 1, S, h0, v1, v2, v3 => if (976 ≤ v3 : Prop) then (lX9_spread_24  5000 S h0 v1 v2 0) else ((dO Ym (gR S h0 31) 11).bind fun d2 => (sJ Ym S d2 v3 0).bind fun S3 => lX9_spread_2 n S3 h0 v1 v2 (v3 + 1))
set_option maxHeartbeats 4000000 in
set_option maxRecDepth 100000 in
theorem wX9_spread_2 {p : Program} {l : Launch} {e : Env} {s : State} {m : MethodId} {args : Array Value} {below : List Frame} {meth : Method} {c : Code} {G : xG} {S' : xS} (X : xX p s m args meth c cX9_spread 5 none RX9 G Ym) : ∀ (n : Nat), ∀ (S : xS) (h0 : Nat) (v1 : Int32) (v2 : Int32) (v3 : Int32) (H : Heap) (locs : List Loc) (ls : Array Slot), lX9_spread_2  n S h0 v1 v2 v3 = some S' → xk Ym h0 = 9 → xP G Ym S H → va_S (xA G Ym) s.heap H locs → lv_has ls 5 [(0, .ref (xad G h0)), (1, .int v1), (2, .int v2), (3, .int v3)] → W p l e (xr 7 170) s m args below meth c H locs 0 0 (MQ below (xQv G Ym S') args s 0 0 (xA G Ym)) (F0 m 2 ls []) := by
  obtain ⟨hx, hb, hml, hown, hts, hr, hlk, hK, hE, hJ⟩ := id X
  intro n
  induction n with
  | zero =>
    intro S h0 v1 v2 v3 H locs ls hM
    rw [lX9_spread_2.eq_1] at hM
    cases hM
  | succ n ih =>
    intro S h0 v1 v2 v3 H locs ls hM hk0 hP hS hl
    rw [lX9_spread_2.eq_2] at hM
    refine lv_iload_n hx hb dX9_spread_2 rfl (lv_at hl 3 rfl) ?_
    refine lv_sipush (v := 976) hx hb dX9_spread_3 (by decide) ?_
    refine lv_icmp_ge (tgt := 22) hx hb dX9_spread_6 (by decide) (fun c1 => ?_) (fun c1 => ?_)
    · replace hM := (if_pos c1).symm.trans hM
      refine lv_iconst (v := 0) hx hb dX9_spread_22 (by decide) ?_
      refine lv_istore_n (lv' := [(3, .int 0), (0, .ref (xad G h0)), (1, .int v1), (2, .int v2)]) hx hb dX9_spread_23 rfl hl (by decide) rfl (fun ls hl => ?_)
      exact wX9_spread_24 X  5000 S h0 v1 v2 0 _ _ _ hM hk0 hP hS (lv_sub hl [1, 2, 3, 0] rfl)
    · replace hM := (if_neg c1).symm.trans hM
      refine lv_aload_n hx hb dX9_spread_9 rfl (lv_at hl 0 rfl) ?_
      obtain ⟨d2, ed2, hM⟩ := xb hM
      refine fdX9_31 X hP hk0 qw320 dX9_spread_10 ed2 ?_
      refine lv_iload_n hx hb dX9_spread_13 rfl (lv_at hl 3 rfl) ?_
      refine lv_lconst (v := 0) hx hb dX9_spread_14 (by decide) ?_
      obtain ⟨S3, eS3, hM⟩ := xb hM
      refine x_last X hP hS (dO_k ed2) eS3 dX9_spread_15 (fun H locs hP hS => ?_)
      refine lv_iinc (v := v3 + 1) (lv' := [(3, .int (v3 + 1)), (0, .ref (xad G h0)), (1, .int v1), (2, .int v2)]) hx hb dX9_spread_16 hl (k := 3) rfl (by first | rfl | exact congrArg (fun z => v3 + z) (by decide)) (by decide) rfl (fun ls hl => ?_)
      refine lv_goto (tgt := 2) hx hb dX9_spread_19 (by decide) ?_
      exact ih S3 h0 v1 v2 (v3 + 1) _ _ _ hM hk0 hP hS (lv_sub hl [1, 2, 3, 0] rfl)
def mX9_spread (S : xS) (h0 : Nat) (p1 : Int32) (p2 : Int32) : Option xS := lX9_spread_2  5000 S h0 p1 p2 0
set_option maxHeartbeats 4000000 in
set_option maxRecDepth 100000 in
theorem kX9_spread (l : Launch) (G : xG) (S : xS) (h0 : Nat) (p1 : Int32) (p2 : Int32) (S' : xS) (hk0 : xk Ym h0 = 9) (hM : mX9_spread S h0 p1 p2 = some S') : xM l yX9_spread cX9_spread 5 none 7 170 G Ym [.ref (xad G h0), .int p1, .int p2] S (xQv G Ym S') := by
  refine x_start (own := RX9) (by decide +kernel) rfl (Nat.le_of_ble_eq_true rfl) ?_
  intro p e s m below meth c ls X hl hP hS
  obtain ⟨hx, hb, hml, hown, hts, hr, hlk, hK, hE, hJ⟩ := id X
  have hl : lv_has ls 5 [(0, .ref (xad G h0)), (1, .int p1), (2, .int p2)] := hl
  unfold mX9_spread at hM
  refine lv_iconst (v := 0) hx hb dX9_spread_0 (by decide) ?_
  refine lv_istore_n (lv' := [(3, .int 0), (0, .ref (xad G h0)), (1, .int p1), (2, .int p2)]) hx hb dX9_spread_1 rfl hl (by decide) rfl (fun ls hl => ?_)
  exact wX9_spread_2 X  5000 S h0 p1 p2 0 _ _ _ hM hk0 hP hS (lv_sub hl [1, 2, 3, 0] rfl)

def jX9_odds_188 (S : xS) (w6 : Int64) (w8 : Int64) (t0 : Int64) : Option (Int64 × xS) := (mX9_common S w8 w6).bind fun q1 => (if q1.1 = 0 then none else some (t0 / q1.1, q1.2))
set_option maxHeartbeats 4000000 in
set_option maxRecDepth 100000 in
theorem wX9_odds_188 {p : Program} {l : Launch} {e : Env} {s : State} {m : MethodId} {args : Array Value} {below : List Frame} {meth : Method} {c : Code} {G : xG} {r : Int64} {S' : xS} (X : xX p s m args meth c cX9_odds 11 (some .long) RX9 G Ym) : ∀ (S : xS) (w6 : Int64) (w8 : Int64) (t0 : Int64) (H : Heap) (locs : List Loc) (ls : Array Slot), jX9_odds_188  S w6 w8 t0 = some (r, S') → xP G Ym S H → va_S (xA G Ym) s.heap H locs → lv_has ls 11 [(6, .long w6), (8, .long w8)] → W p l e (xr 8 194) s m args below meth c H locs 0 0 (MQ below (xQl G Ym r S') args s 0 0 (xA G Ym)) (F0 m 188 ls [.long t0]) := by
  obtain ⟨hx, hb, hml, hown, hts, hr, hlk, hK, hE, hJ⟩ := id X
  intro S w6 w8 t0 H locs ls hM  hP hS hl
  unfold jX9_odds_188 at hM
  refine lv_lload hx hb dX9_odds_188 (lv_at hl 1 rfl) ?_
  refine lv_lload hx hb dX9_odds_190 (lv_at hl 0 rfl) ?_
  obtain ⟨q1, eq1, hM⟩ := xb hM
  refine x_gol (x_runS (rest := [.long t0]) X (kX9_common l G S w8 w6 q1.1 q1.2  eq1) qw325 okX9_common ⟨Nat.le_of_ble_eq_true rfl, Nat.le_of_ble_eq_true rfl⟩ hP hS rfl hl.1 rfl (Nat.le_of_ble_eq_true rfl) dX9_odds_192) hS (fun H locs hP hS => ?_)
  by_cases ec2 : q1.1 = 0
  · replace hM := (if_pos ec2).symm.trans hM; cases hM
  replace hM := (if_neg ec2).symm.trans hM
  refine lv_ldiv hx hb dX9_odds_195 ec2 ?_
  exact x_lret X hP hS hM dX9_odds_196
def lX9_odds_134 : Nat → xS → Nat → Int32 → Int32 → Int32 → Int64 → Int64 → Int32 → Option (Int64 × xS)
  | 0, _, _, _, _, _, _, _, _ => none
  | n + 1, S, h0, v2, v4, v5, w6, w8, v10 => if (976 ≤ v10 : Prop) then (if (v4 = 0 : Prop) then (jX9_odds_188  S w6 w8 w8) else (jX9_odds_188  S w6 w8 w6)) else (if ((v5 + (v10 / 61)) < v2 : Prop) then (lX9_odds_134 n S h0 v2 v4 v5 w6 (w8 + 0) (v10 + 1)) else ((dO Ym (gR S h0 30) 11).bind fun d4 => (aJ Ym S d4 v10).bind fun x5 => lX9_odds_134 n S h0 v2 v4 v5 w6 (w8 + x5) (v10 + 1)))
set_option maxHeartbeats 4000000 in
set_option maxRecDepth 100000 in
theorem wX9_odds_134 {p : Program} {l : Launch} {e : Env} {s : State} {m : MethodId} {args : Array Value} {below : List Frame} {meth : Method} {c : Code} {G : xG} {r : Int64} {S' : xS} (X : xX p s m args meth c cX9_odds 11 (some .long) RX9 G Ym) : ∀ (n : Nat), ∀ (S : xS) (h0 : Nat) (v2 : Int32) (v4 : Int32) (v5 : Int32) (w6 : Int64) (w8 : Int64) (v10 : Int32) (H : Heap) (locs : List Loc) (ls : Array Slot), lX9_odds_134  n S h0 v2 v4 v5 w6 w8 v10 = some (r, S') → xk Ym h0 = 9 → xP G Ym S H → va_S (xA G Ym) s.heap H locs → lv_has ls 11 [(0, .ref (xad G h0)), (2, .int v2), (4, .int v4), (5, .int v5), (6, .long w6), (8, .long w8), (10, .int v10)] → W p l e (xr 8 194) s m args below meth c H locs 0 0 (MQ below (xQl G Ym r S') args s 0 0 (xA G Ym)) (F0 m 134 ls []) := by
  obtain ⟨hx, hb, hml, hown, hts, hr, hlk, hK, hE, hJ⟩ := id X
  intro n
  induction n with
  | zero =>
    intro S h0 v2 v4 v5 w6 w8 v10 H locs ls hM
    rw [lX9_odds_134.eq_1] at hM
    cases hM
  | succ n ih =>
    intro S h0 v2 v4 v5 w6 w8 v10 H locs ls hM hk0 hP hS hl
    rw [lX9_odds_134.eq_2] at hM
    refine lv_iload hx hb dX9_odds_134 (lv_at hl 6 rfl) ?_
    refine lv_sipush (v := 976) hx hb dX9_odds_136 (by decide) ?_
    refine lv_icmp_ge (tgt := 176) hx hb dX9_odds_139 (by decide) (fun c1 => ?_) (fun c1 => ?_)
    · replace hM := (if_pos c1).symm.trans hM
      refine lv_iload hx hb dX9_odds_176 (lv_at hl 2 rfl) ?_
      refine lv_if_ne (tgt := 186) hx hb dX9_odds_178 (by decide) (fun c2 => ?_) (fun c2 => ?_)
      · replace hM := (if_neg c2).symm.trans hM
        refine lv_lload hx hb dX9_odds_186 (lv_at hl 4 rfl) ?_
        exact wX9_odds_188 X  S w6 w8 w6 _ _ _ hM  hP hS (lv_sub hl [4, 5] rfl)
      · replace hM := (if_pos c2).symm.trans hM
        refine lv_lload hx hb dX9_odds_181 (lv_at hl 5 rfl) ?_
        refine lv_goto (tgt := 188) hx hb dX9_odds_183 (by decide) ?_
        exact wX9_odds_188 X  S w6 w8 w8 _ _ _ hM  hP hS (lv_sub hl [4, 5] rfl)
    · replace hM := (if_neg c1).symm.trans hM
      refine lv_lload hx hb dX9_odds_142 (lv_at hl 5 rfl) ?_
      refine lv_iload hx hb dX9_odds_144 (lv_at hl 3 rfl) ?_
      refine lv_iload hx hb dX9_odds_146 (lv_at hl 6 rfl) ?_
      refine lv_bipush (v := 61) hx hb dX9_odds_148 (by decide) ?_
      refine lv_idiv hx hb dX9_odds_150 (by decide) ?_
      refine lv_iadd hx hb dX9_odds_151 ?_
      refine lv_iload_n hx hb dX9_odds_152 rfl (lv_at hl 1 rfl) ?_
      refine lv_icmp_lt (tgt := 166) hx hb dX9_odds_153 (by decide) (fun c3 => ?_) (fun c3 => ?_)
      · replace hM := (if_pos c3).symm.trans hM
        refine lv_lconst (v := 0) hx hb dX9_odds_166 (by decide) ?_
        refine lv_ladd hx hb dX9_odds_167 ?_
        refine lv_lstore (lv' := [(8, .long (w8 + 0)), (0, .ref (xad G h0)), (2, .int v2), (4, .int v4), (5, .int v5), (6, .long w6), (10, .int v10)]) hx hb dX9_odds_168 hl (by decide) rfl (fun ls hl => ?_)
        refine lv_iinc (v := v10 + 1) (lv' := [(10, .int (v10 + 1)), (8, .long (w8 + 0)), (0, .ref (xad G h0)), (2, .int v2), (4, .int v4), (5, .int v5), (6, .long w6)]) hx hb dX9_odds_170 hl (k := 6) rfl (by first | rfl | exact congrArg (fun z => v10 + z) (by decide)) (by decide) rfl (fun ls hl => ?_)
        refine lv_goto (tgt := 134) hx hb dX9_odds_173 (by decide) ?_
        exact ih S h0 v2 v4 v5 w6 (w8 + 0) (v10 + 1) _ _ _ hM hk0 hP hS (lv_sub hl [2, 3, 4, 5, 6, 1, 0] rfl)
      · replace hM := (if_neg c3).symm.trans hM
        refine lv_aload_n hx hb dX9_odds_156 rfl (lv_at hl 0 rfl) ?_
        obtain ⟨d4, ed4, hM⟩ := xb hM
        refine fdX9_30 X hP hk0 qw321 dX9_odds_157 ed4 ?_
        refine lv_iload hx hb dX9_odds_160 (lv_at hl 6 rfl) ?_
        obtain ⟨x5, ex5, hM⟩ := xb hM
        refine x_lald X hP (dO_k ed4) ex5 dX9_odds_162 ?_
        refine lv_goto (tgt := 167) hx hb dX9_odds_163 (by decide) ?_
        refine lv_ladd hx hb dX9_odds_167 ?_
        refine lv_lstore (lv' := [(8, .long (w8 + x5)), (0, .ref (xad G h0)), (2, .int v2), (4, .int v4), (5, .int v5), (6, .long w6), (10, .int v10)]) hx hb dX9_odds_168 hl (by decide) rfl (fun ls hl => ?_)
        refine lv_iinc (v := v10 + 1) (lv' := [(10, .int (v10 + 1)), (8, .long (w8 + x5)), (0, .ref (xad G h0)), (2, .int v2), (4, .int v4), (5, .int v5), (6, .long w6)]) hx hb dX9_odds_170 hl (k := 6) rfl (by first | rfl | exact congrArg (fun z => v10 + z) (by decide)) (by decide) rfl (fun ls hl => ?_)
        refine lv_goto (tgt := 134) hx hb dX9_odds_173 (by decide) ?_
        exact ih S h0 v2 v4 v5 w6 (w8 + x5) (v10 + 1) _ _ _ hM hk0 hP hS (lv_sub hl [2, 3, 4, 5, 6, 1, 0] rfl)
def lX9_odds_93 : Nat → xS → Nat → Int32 → Int32 → Int32 → Int32 → Int64 → Int32 → Option (Int64 × xS)
  | 0, _, _, _, _, _, _, _, _ => none
  | n + 1, S, h0, v2, v3, v4, v5, w6, v8 => if (v3 < v8 : Prop) then (lX9_odds_134  5000 S h0 v2 v4 v5 w6 0 0) else ((dO Ym (gR S h0 0) 10).bind fun d2 => (aI Ym S d2 1).bind fun x3 => (mX9_spread S h0 v5 (x3 + v8)).bind fun S4 => lX9_odds_93 n S4 h0 v2 v3 v4 v5 (w6 * 10) (v8 + 1))
set_option maxHeartbeats 4000000 in
set_option maxRecDepth 100000 in
theorem wX9_odds_93 {p : Program} {l : Launch} {e : Env} {s : State} {m : MethodId} {args : Array Value} {below : List Frame} {meth : Method} {c : Code} {G : xG} {r : Int64} {S' : xS} (X : xX p s m args meth c cX9_odds 11 (some .long) RX9 G Ym) : ∀ (n : Nat), ∀ (S : xS) (h0 : Nat) (v2 : Int32) (v3 : Int32) (v4 : Int32) (v5 : Int32) (w6 : Int64) (v8 : Int32) (H : Heap) (locs : List Loc) (ls : Array Slot), lX9_odds_93  n S h0 v2 v3 v4 v5 w6 v8 = some (r, S') → xk Ym h0 = 9 → xP G Ym S H → va_S (xA G Ym) s.heap H locs → lv_has ls 11 [(0, .ref (xad G h0)), (2, .int v2), (3, .int v3), (4, .int v4), (5, .int v5), (6, .long w6), (8, .int v8)] → W p l e (xr 8 194) s m args below meth c H locs 0 0 (MQ below (xQl G Ym r S') args s 0 0 (xA G Ym)) (F0 m 93 ls []) := by
  obtain ⟨hx, hb, hml, hown, hts, hr, hlk, hK, hE, hJ⟩ := id X
  intro n
  induction n with
  | zero =>
    intro S h0 v2 v3 v4 v5 w6 v8 H locs ls hM
    rw [lX9_odds_93.eq_1] at hM
    cases hM
  | succ n ih =>
    intro S h0 v2 v3 v4 v5 w6 v8 H locs ls hM hk0 hP hS hl
    rw [lX9_odds_93.eq_2] at hM
    refine lv_iload hx hb dX9_odds_93 (lv_at hl 6 rfl) ?_
    refine lv_iload_n hx hb dX9_odds_95 rfl (lv_at hl 2 rfl) ?_
    refine lv_icmp_gt (tgt := 128) hx hb dX9_odds_96 (by decide) (fun c1 => ?_) (fun c1 => ?_)
    · replace hM := (if_pos c1).symm.trans hM
      refine lv_lconst (v := 0) hx hb dX9_odds_128 (by decide) ?_
      refine lv_lstore (lv' := [(8, .long 0), (0, .ref (xad G h0)), (2, .int v2), (3, .int v3), (4, .int v4), (5, .int v5), (6, .long w6)]) hx hb dX9_odds_129 hl (by decide) rfl (fun ls hl => ?_)
      refine lv_iconst (v := 0) hx hb dX9_odds_131 (by decide) ?_
      refine lv_istore (lv' := [(10, .int 0), (8, .long 0), (0, .ref (xad G h0)), (2, .int v2), (3, .int v3), (4, .int v4), (5, .int v5), (6, .long w6)]) hx hb dX9_odds_132 hl (by decide) rfl (fun ls hl => ?_)
      exact wX9_odds_134 X  5000 S h0 v2 v4 v5 w6 0 0 _ _ _ hM hk0 hP hS (lv_sub hl [2, 3, 5, 6, 7, 1, 0] rfl)
    · replace hM := (if_neg c1).symm.trans hM
      refine lv_aload_n hx hb dX9_odds_99 rfl (lv_at hl 0 rfl) ?_
      refine lv_iload hx hb dX9_odds_100 (lv_at hl 4 rfl) ?_
      refine lv_aload_n hx hb dX9_odds_102 rfl (lv_at hl 0 rfl) ?_
      obtain ⟨d2, ed2, hM⟩ := xb hM
      refine fdX9_0 X hP hk0 qw227 dX9_odds_103 ed2 ?_
      refine lv_iconst (v := 1) hx hb dX9_odds_106 (by decide) ?_
      obtain ⟨x3, ex3, hM⟩ := xb hM
      refine x_iald X hP (dO_k ed2) ex3 dX9_odds_107 ?_
      refine lv_iload hx hb dX9_odds_108 (lv_at hl 6 rfl) ?_
      refine lv_iadd hx hb dX9_odds_110 ?_
      obtain ⟨S4, eS4, hM⟩ := xb hM
      refine x_gov (x_runV (rest := []) X (kX9_spread l G S h0 v5 (x3 + v8) S4 hk0 eS4) qw323 okX9_spread ⟨Nat.le_of_ble_eq_true rfl, Nat.le_of_ble_eq_true rfl⟩ hk0 (by decide) rfl hP hS rfl hl.1 rfl (Nat.le_of_ble_eq_true rfl) dX9_odds_111) hS (fun H locs hP hS => ?_)
      refine lv_lload hx hb dX9_odds_114 (lv_at hl 5 rfl) ?_
      refine x_ldc2 X qw324 dX9_odds_116 ?_
      refine lv_lmul hx hb dX9_odds_119 ?_
      refine lv_lstore (lv' := [(6, .long (w6 * 10)), (0, .ref (xad G h0)), (2, .int v2), (3, .int v3), (4, .int v4), (5, .int v5), (8, .int v8)]) hx hb dX9_odds_120 hl (by decide) rfl (fun ls hl => ?_)
      refine lv_iinc (v := v8 + 1) (lv' := [(8, .int (v8 + 1)), (6, .long (w6 * 10)), (0, .ref (xad G h0)), (2, .int v2), (3, .int v3), (4, .int v4), (5, .int v5)]) hx hb dX9_odds_122 hl (k := 6) rfl (by first | rfl | exact congrArg (fun z => v8 + z) (by decide)) (by decide) rfl (fun ls hl => ?_)
      refine lv_goto (tgt := 93) hx hb dX9_odds_125 (by decide) ?_
      exact ih S4 h0 v2 v3 v4 v5 (w6 * 10) (v8 + 1) _ _ _ hM hk0 hP hS (lv_sub hl [2, 3, 4, 5, 6, 1, 0] rfl)
def lX9_odds_52 : Nat → xS → Nat → Int32 → Int32 → Int32 → Int32 → Int32 → Option (Int64 × xS)
  | 0, _, _, _, _, _, _, _ => none
  | n + 1, S, h0, v2, v3, v4, v5, v6 => if (976 ≤ v6 : Prop) then (lX9_odds_93  5000 S h0 v2 v3 v4 v5 1 1) else ((dO Ym (gR S h0 30) 11).bind fun d2 => if (v6 = (gI S h0 27) : Prop) then ((sJ Ym S d2 v6 1).bind fun S5 => lX9_odds_52 n S5 h0 v2 v3 v4 v5 (v6 + 1)) else ((sJ Ym S d2 v6 0).bind fun S4 => lX9_odds_52 n S4 h0 v2 v3 v4 v5 (v6 + 1)))
set_option maxHeartbeats 4000000 in
set_option maxRecDepth 100000 in
theorem wX9_odds_52 {p : Program} {l : Launch} {e : Env} {s : State} {m : MethodId} {args : Array Value} {below : List Frame} {meth : Method} {c : Code} {G : xG} {r : Int64} {S' : xS} (X : xX p s m args meth c cX9_odds 11 (some .long) RX9 G Ym) : ∀ (n : Nat), ∀ (S : xS) (h0 : Nat) (v2 : Int32) (v3 : Int32) (v4 : Int32) (v5 : Int32) (v6 : Int32) (H : Heap) (locs : List Loc) (ls : Array Slot), lX9_odds_52  n S h0 v2 v3 v4 v5 v6 = some (r, S') → xk Ym h0 = 9 → xP G Ym S H → va_S (xA G Ym) s.heap H locs → lv_has ls 11 [(0, .ref (xad G h0)), (2, .int v2), (3, .int v3), (4, .int v4), (5, .int v5), (6, .int v6)] → W p l e (xr 8 194) s m args below meth c H locs 0 0 (MQ below (xQl G Ym r S') args s 0 0 (xA G Ym)) (F0 m 52 ls []) := by
  obtain ⟨hx, hb, hml, hown, hts, hr, hlk, hK, hE, hJ⟩ := id X
  intro n
  induction n with
  | zero =>
    intro S h0 v2 v3 v4 v5 v6 H locs ls hM
    rw [lX9_odds_52.eq_1] at hM
    cases hM
  | succ n ih =>
    intro S h0 v2 v3 v4 v5 v6 H locs ls hM hk0 hP hS hl
    rw [lX9_odds_52.eq_2] at hM
    refine lv_iload hx hb dX9_odds_52 (lv_at hl 5 rfl) ?_
    refine lv_sipush (v := 976) hx hb dX9_odds_54 (by decide) ?_
    refine lv_icmp_ge (tgt := 87) hx hb dX9_odds_57 (by decide) (fun c1 => ?_) (fun c1 => ?_)
    · replace hM := (if_pos c1).symm.trans hM
      refine lv_lconst (v := 1) hx hb dX9_odds_87 (by decide) ?_
      refine lv_lstore (lv' := [(6, .long 1), (0, .ref (xad G h0)), (2, .int v2), (3, .int v3), (4, .int v4), (5, .int v5)]) hx hb dX9_odds_88 hl (by decide) rfl (fun ls hl => ?_)
      refine lv_iconst (v := 1) hx hb dX9_odds_90 (by decide) ?_
      refine lv_istore (lv' := [(8, .int 1), (6, .long 1), (0, .ref (xad G h0)), (2, .int v2), (3, .int v3), (4, .int v4), (5, .int v5)]) hx hb dX9_odds_91 hl (by decide) rfl (fun ls hl => ?_)
      exact wX9_odds_93 X  5000 S h0 v2 v3 v4 v5 1 1 _ _ _ hM hk0 hP hS (lv_sub hl [2, 3, 4, 5, 6, 1, 0] rfl)
    · replace hM := (if_neg c1).symm.trans hM
      refine lv_aload_n hx hb dX9_odds_60 rfl (lv_at hl 0 rfl) ?_
      obtain ⟨d2, ed2, hM⟩ := xb hM
      refine fdX9_30 X hP hk0 qw321 dX9_odds_61 ed2 ?_
      refine lv_iload hx hb dX9_odds_64 (lv_at hl 5 rfl) ?_
      refine lv_iload hx hb dX9_odds_66 (lv_at hl 5 rfl) ?_
      refine lv_aload_n hx hb dX9_odds_68 rfl (lv_at hl 0 rfl) ?_
      refine fgX9_27 X hP hk0 qw301 dX9_odds_69 ?_
      refine lv_icmp_ne (tgt := 79) hx hb dX9_odds_72 (by decide) (fun c3 => ?_) (fun c3 => ?_)
      · replace hM := (if_neg c3).symm.trans hM
        refine lv_lconst (v := 0) hx hb dX9_odds_79 (by decide) ?_
        obtain ⟨S4, eS4, hM⟩ := xb hM
        refine x_last X hP hS (dO_k ed2) eS4 dX9_odds_80 (fun H locs hP hS => ?_)
        refine lv_iinc (v := v6 + 1) (lv' := [(6, .int (v6 + 1)), (0, .ref (xad G h0)), (2, .int v2), (3, .int v3), (4, .int v4), (5, .int v5)]) hx hb dX9_odds_81 hl (k := 5) rfl (by first | rfl | exact congrArg (fun z => v6 + z) (by decide)) (by decide) rfl (fun ls hl => ?_)
        refine lv_goto (tgt := 52) hx hb dX9_odds_84 (by decide) ?_
        exact ih S4 h0 v2 v3 v4 v5 (v6 + 1) _ _ _ hM hk0 hP hS (lv_sub hl [1, 2, 3, 4, 5, 0] rfl)
      · replace hM := (if_pos c3).symm.trans hM
        refine lv_lconst (v := 1) hx hb dX9_odds_75 (by decide) ?_
        refine lv_goto (tgt := 80) hx hb dX9_odds_76 (by decide) ?_
        obtain ⟨S5, eS5, hM⟩ := xb hM
        refine x_last X hP hS (dO_k ed2) eS5 dX9_odds_80 (fun H locs hP hS => ?_)
        refine lv_iinc (v := v6 + 1) (lv' := [(6, .int (v6 + 1)), (0, .ref (xad G h0)), (2, .int v2), (3, .int v3), (4, .int v4), (5, .int v5)]) hx hb dX9_odds_81 hl (k := 5) rfl (by first | rfl | exact congrArg (fun z => v6 + z) (by decide)) (by decide) rfl (fun ls hl => ?_)
        refine lv_goto (tgt := 52) hx hb dX9_odds_84 (by decide) ?_
        exact ih S5 h0 v2 v3 v4 v5 (v6 + 1) _ _ _ hM hk0 hP hS (lv_sub hl [1, 2, 3, 4, 5, 0] rfl)
def mX9_odds (S : xS) (h0 : Nat) (p1 : Int32) (p2 : Int32) (p3 : Int32) (p4 : Int32) : Option (Int64 × xS) := (mX9_isTable S p1).bind fun q1 => if (q1.1 = 0 : Prop) then (some ((-1), q1.2)) else ((mX9_isDay q1.2 p2).bind fun q3 => if (q3.1 = 0 : Prop) then (some ((-1), q3.2)) else ((mX9_isIn q3.2 p3 0 15).bind fun q5 => if (q5.1 = 0 : Prop) then (some ((-1), q5.2)) else ((mX9_isIn q5.2 p4 0 1).bind fun q7 => if (q7.1 = 0 : Prop) then (some ((-1), q7.2)) else ((mX9_setTable q7.2 h0 p1).bind fun S9 => lX9_odds_52  5000 S9 h0 p2 p3 p4 (gI S9 h0 26) 0))))
set_option maxHeartbeats 4000000 in
set_option maxRecDepth 100000 in
theorem kX9_odds (l : Launch) (G : xG) (S : xS) (h0 : Nat) (p1 : Int32) (p2 : Int32) (p3 : Int32) (p4 : Int32) (r : Int64) (S' : xS) (hk0 : xk Ym h0 = 9) (hM : mX9_odds S h0 p1 p2 p3 p4 = some (r, S')) : xM l yX9_odds cX9_odds 11 (some .long) 8 194 G Ym [.ref (xad G h0), .int p1, .int p2, .int p3, .int p4] S (xQl G Ym r S') := by
  refine x_start (own := RX9) (by decide +kernel) rfl (Nat.le_of_ble_eq_true rfl) ?_
  intro p e s m below meth c ls X hl hP hS
  obtain ⟨hx, hb, hml, hown, hts, hr, hlk, hK, hE, hJ⟩ := id X
  have hl : lv_has ls 11 [(0, .ref (xad G h0)), (1, .int p1), (2, .int p2), (3, .int p3), (4, .int p4)] := hl
  unfold mX9_odds at hM
  refine lv_iload_n hx hb dX9_odds_0 rfl (lv_at hl 1 rfl) ?_
  obtain ⟨q1, eq1, hM⟩ := xb hM
  refine x_goi (x_runS (rest := []) X (kX9_isTable l G S p1 q1.1 q1.2  eq1) qw295 okX9_isTable ⟨Nat.le_of_ble_eq_true rfl, Nat.le_of_ble_eq_true rfl⟩ hP hS rfl hl.1 rfl (Nat.le_of_ble_eq_true rfl) dX9_odds_1) hS (fun H locs hP hS => ?_)
  refine lv_if_eq (tgt := 34) hx hb dX9_odds_4 (by decide) (fun c2 => ?_) (fun c2 => ?_)
  · replace hM := (if_pos c2).symm.trans hM
    refine x_ldc2 X qw322 dX9_odds_34 ?_
    exact x_lret X hP hS hM dX9_odds_37
  · replace hM := (if_neg c2).symm.trans hM
    refine lv_iload_n hx hb dX9_odds_7 rfl (lv_at hl 2 rfl) ?_
    obtain ⟨q3, eq3, hM⟩ := xb hM
    refine x_goi (x_runS (rest := []) X (kX9_isDay l G q1.2 p2 q3.1 q3.2  eq3) qw296 okX9_isDay ⟨Nat.le_of_ble_eq_true rfl, Nat.le_of_ble_eq_true rfl⟩ hP hS rfl hl.1 rfl (Nat.le_of_ble_eq_true rfl) dX9_odds_8) hS (fun H locs hP hS => ?_)
    refine lv_if_eq (tgt := 34) hx hb dX9_odds_11 (by decide) (fun c4 => ?_) (fun c4 => ?_)
    · replace hM := (if_pos c4).symm.trans hM
      refine x_ldc2 X qw322 dX9_odds_34 ?_
      exact x_lret X hP hS hM dX9_odds_37
    · replace hM := (if_neg c4).symm.trans hM
      refine lv_iload_n hx hb dX9_odds_14 rfl (lv_at hl 3 rfl) ?_
      refine lv_iconst (v := 0) hx hb dX9_odds_15 (by decide) ?_
      refine lv_bipush (v := 15) hx hb dX9_odds_16 (by decide) ?_
      obtain ⟨q5, eq5, hM⟩ := xb hM
      refine x_goi (x_runS (rest := []) X (kX9_isIn l G q3.2 p3 0 15 q5.1 q5.2  eq5) qw228 okX9_isIn ⟨Nat.le_of_ble_eq_true rfl, Nat.le_of_ble_eq_true rfl⟩ hP hS rfl hl.1 rfl (Nat.le_of_ble_eq_true rfl) dX9_odds_18) hS (fun H locs hP hS => ?_)
      refine lv_if_eq (tgt := 34) hx hb dX9_odds_21 (by decide) (fun c6 => ?_) (fun c6 => ?_)
      · replace hM := (if_pos c6).symm.trans hM
        refine x_ldc2 X qw322 dX9_odds_34 ?_
        exact x_lret X hP hS hM dX9_odds_37
      · replace hM := (if_neg c6).symm.trans hM
        refine lv_iload hx hb dX9_odds_24 (lv_at hl 4 rfl) ?_
        refine lv_iconst (v := 0) hx hb dX9_odds_26 (by decide) ?_
        refine lv_iconst (v := 1) hx hb dX9_odds_27 (by decide) ?_
        obtain ⟨q7, eq7, hM⟩ := xb hM
        refine x_goi (x_runS (rest := []) X (kX9_isIn l G q5.2 p4 0 1 q7.1 q7.2  eq7) qw228 okX9_isIn ⟨Nat.le_of_ble_eq_true rfl, Nat.le_of_ble_eq_true rfl⟩ hP hS rfl hl.1 rfl (Nat.le_of_ble_eq_true rfl) dX9_odds_28) hS (fun H locs hP hS => ?_)
        refine lv_if_ne (tgt := 38) hx hb dX9_odds_31 (by decide) (fun c8 => ?_) (fun c8 => ?_)
        · replace hM := (if_neg c8).symm.trans hM
          refine lv_aload_n hx hb dX9_odds_38 rfl (lv_at hl 0 rfl) ?_
          refine lv_iload_n hx hb dX9_odds_39 rfl (lv_at hl 1 rfl) ?_
          obtain ⟨S9, eS9, hM⟩ := xb hM
          refine x_gov (x_runV (rest := []) X (kX9_setTable l G q7.2 h0 p1 S9 hk0 eS9) qw312 okX9_setTable ⟨Nat.le_of_ble_eq_true rfl, Nat.le_of_ble_eq_true rfl⟩ hk0 (by decide) rfl hP hS rfl hl.1 rfl (Nat.le_of_ble_eq_true rfl) dX9_odds_40) hS (fun H locs hP hS => ?_)
          refine lv_aload_n hx hb dX9_odds_43 rfl (lv_at hl 0 rfl) ?_
          refine fgX9_26 X hP hk0 qw300 dX9_odds_44 ?_
          refine lv_istore (lv' := [(5, .int (gI S9 h0 26)), (0, .ref (xad G h0)), (1, .int p1), (2, .int p2), (3, .int p3), (4, .int p4)]) hx hb dX9_odds_47 hl (by decide) rfl (fun ls hl => ?_)
          refine lv_iconst (v := 0) hx hb dX9_odds_49 (by decide) ?_
          refine lv_istore (lv' := [(6, .int 0), (5, .int (gI S9 h0 26)), (0, .ref (xad G h0)), (1, .int p1), (2, .int p2), (3, .int p3), (4, .int p4)]) hx hb dX9_odds_50 hl (by decide) rfl (fun ls hl => ?_)
          exact wX9_odds_52 X  5000 S9 h0 p2 p3 p4 (gI S9 h0 26) 0 _ _ _ hM hk0 hP hS (lv_sub hl [2, 4, 5, 6, 1, 0] rfl)
        · replace hM := (if_pos c8).symm.trans hM
          refine x_ldc2 X qw322 dX9_odds_34 ?_
          exact x_lret X hP hS hM dX9_odds_37

def lX9_dayBehind_7 : Nat → xS → Nat → Int32 → Int32 → Option (Int32 × xS)
  | 0, _, _, _, _ => none
  | n + 1, S, h0, v2, v3 => if (v2 < v3 : Prop) then (some (gI S h0 26, S)) else ((dO Ym (gR S h0 0) 10).bind fun d2 => (aI Ym S d2 1).bind fun x3 => (mX9_goOn S h0 (x3 + v3) 0).bind fun S4 => lX9_dayBehind_7 n S4 h0 v2 (v3 + 1))
set_option maxHeartbeats 4000000 in
set_option maxRecDepth 100000 in
theorem wX9_dayBehind_7 {p : Program} {l : Launch} {e : Env} {s : State} {m : MethodId} {args : Array Value} {below : List Frame} {meth : Method} {c : Code} {G : xG} {r : Int32} {S' : xS} (X : xX p s m args meth c cX9_dayBehind 4 (some .int) RX9 G Ym) : ∀ (n : Nat), ∀ (S : xS) (h0 : Nat) (v2 : Int32) (v3 : Int32) (H : Heap) (locs : List Loc) (ls : Array Slot), lX9_dayBehind_7  n S h0 v2 v3 = some (r, S') → xk Ym h0 = 9 → xP G Ym S H → va_S (xA G Ym) s.heap H locs → lv_has ls 4 [(0, .ref (xad G h0)), (2, .int v2), (3, .int v3)] → W p l e (xr 7 170) s m args below meth c H locs 0 0 (MQ below (xQi G Ym r S') args s 0 0 (xA G Ym)) (F0 m 7 ls []) := by
  obtain ⟨hx, hb, hml, hown, hts, hr, hlk, hK, hE, hJ⟩ := id X
  intro n
  induction n with
  | zero =>
    intro S h0 v2 v3 H locs ls hM
    rw [lX9_dayBehind_7.eq_1] at hM
    cases hM
  | succ n ih =>
    intro S h0 v2 v3 H locs ls hM hk0 hP hS hl
    rw [lX9_dayBehind_7.eq_2] at hM
    refine lv_iload_n hx hb dX9_dayBehind_7 rfl (lv_at hl 2 rfl) ?_
    refine lv_iload_n hx hb dX9_dayBehind_8 rfl (lv_at hl 1 rfl) ?_
    refine lv_icmp_gt (tgt := 31) hx hb dX9_dayBehind_9 (by decide) (fun c1 => ?_) (fun c1 => ?_)
    · replace hM := (if_pos c1).symm.trans hM
      refine lv_aload_n hx hb dX9_dayBehind_31 rfl (lv_at hl 0 rfl) ?_
      refine fgX9_26 X hP hk0 qw300 dX9_dayBehind_32 ?_
      exact x_iret X hP hS hM dX9_dayBehind_35
    · replace hM := (if_neg c1).symm.trans hM
      refine lv_aload_n hx hb dX9_dayBehind_12 rfl (lv_at hl 0 rfl) ?_
      refine lv_aload_n hx hb dX9_dayBehind_13 rfl (lv_at hl 0 rfl) ?_
      obtain ⟨d2, ed2, hM⟩ := xb hM
      refine fdX9_0 X hP hk0 qw227 dX9_dayBehind_14 ed2 ?_
      refine lv_iconst (v := 1) hx hb dX9_dayBehind_17 (by decide) ?_
      obtain ⟨x3, ex3, hM⟩ := xb hM
      refine x_iald X hP (dO_k ed2) ex3 dX9_dayBehind_18 ?_
      refine lv_iload_n hx hb dX9_dayBehind_19 rfl (lv_at hl 2 rfl) ?_
      refine lv_iadd hx hb dX9_dayBehind_20 ?_
      refine lv_iconst (v := 0) hx hb dX9_dayBehind_21 (by decide) ?_
      obtain ⟨S4, eS4, hM⟩ := xb hM
      refine x_gov (x_runV (rest := []) X (kX9_goOn l G S h0 (x3 + v3) 0 S4 hk0 eS4) qw319 okX9_goOn ⟨Nat.le_of_ble_eq_true rfl, Nat.le_of_ble_eq_true rfl⟩ hk0 (by decide) rfl hP hS rfl hl.1 rfl (Nat.le_of_ble_eq_true rfl) dX9_dayBehind_22) hS (fun H locs hP hS => ?_)
      refine lv_iinc (v := v3 + 1) (lv' := [(3, .int (v3 + 1)), (0, .ref (xad G h0)), (2, .int v2)]) hx hb dX9_dayBehind_25 hl (k := 2) rfl (by first | rfl | exact congrArg (fun z => v3 + z) (by decide)) (by decide) rfl (fun ls hl => ?_)
      refine lv_goto (tgt := 7) hx hb dX9_dayBehind_28 (by decide) ?_
      exact ih S4 h0 v2 (v3 + 1) _ _ _ hM hk0 hP hS (lv_sub hl [1, 2, 0] rfl)
def mX9_dayBehind (S : xS) (h0 : Nat) (p1 : Int32) (p2 : Int32) : Option (Int32 × xS) := (mX9_setTable S h0 p1).bind fun S1 => lX9_dayBehind_7  5000 S1 h0 p2 1
set_option maxHeartbeats 4000000 in
set_option maxRecDepth 100000 in
theorem kX9_dayBehind (l : Launch) (G : xG) (S : xS) (h0 : Nat) (p1 : Int32) (p2 : Int32) (r : Int32) (S' : xS) (hk0 : xk Ym h0 = 9) (hM : mX9_dayBehind S h0 p1 p2 = some (r, S')) : xM l yX9_dayBehind cX9_dayBehind 4 (some .int) 7 170 G Ym [.ref (xad G h0), .int p1, .int p2] S (xQi G Ym r S') := by
  refine x_start (own := RX9) (by decide +kernel) rfl (Nat.le_of_ble_eq_true rfl) ?_
  intro p e s m below meth c ls X hl hP hS
  obtain ⟨hx, hb, hml, hown, hts, hr, hlk, hK, hE, hJ⟩ := id X
  have hl : lv_has ls 4 [(0, .ref (xad G h0)), (1, .int p1), (2, .int p2)] := hl
  unfold mX9_dayBehind at hM
  refine lv_aload_n hx hb dX9_dayBehind_0 rfl (lv_at hl 0 rfl) ?_
  refine lv_iload_n hx hb dX9_dayBehind_1 rfl (lv_at hl 1 rfl) ?_
  obtain ⟨S1, eS1, hM⟩ := xb hM
  refine x_gov (x_runV (rest := []) X (kX9_setTable l G S h0 p1 S1 hk0 eS1) qw312 okX9_setTable ⟨Nat.le_of_ble_eq_true rfl, Nat.le_of_ble_eq_true rfl⟩ hk0 (by decide) rfl hP hS rfl hl.1 rfl (Nat.le_of_ble_eq_true rfl) dX9_dayBehind_2) hS (fun H locs hP hS => ?_)
  refine lv_iconst (v := 1) hx hb dX9_dayBehind_5 (by decide) ?_
  refine lv_istore_n (lv' := [(3, .int 1), (0, .ref (xad G h0)), (1, .int p1), (2, .int p2)]) hx hb dX9_dayBehind_6 rfl hl (by decide) rfl (fun ls hl => ?_)
  exact wX9_dayBehind_7 X  5000 S1 h0 p2 1 _ _ _ hM hk0 hP hS (lv_sub hl [1, 3, 0] rfl)
